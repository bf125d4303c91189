theorem sX12_rightThen  {b : Int} {M : Mem} {Q : Int → Mem → Prop} (hI : IM b M) (hb : b + 200 ≤ 2000000000) (hQ : ∀ z : Int, Q z M) : qX12_rightThen M Q := by
  unfold qX12_rightThen
  have hbn := hI.nn
  refine ⟨201, ?_⟩
  refine sX12_rightThen_L4 (b := b)  (M0 := M) hb ?_ ?_ _ _ _ (hI.mono (by omega)) (by omega) (by omega)
  · exact hQ
  · unfold qX12_rightThen_J50
    refine sX12_endedBy (p2 := 1) hI (Or.inr rfl) ?_
    intro x10_1866 q1867
    exact hQ _
theorem sX12_right  {b : Int} {M : Mem} {Q : Int → Mem → Prop} (hI : IM b M) (hb : b + 200 ≤ 2000000000) (hQ : ∀ z : Int, ∀ M' : Mem, IM (b + 200) M' → Q z M') : qX12_right M Q := by
  unfold qX12_right
  have hbn := hI.nn
  intro M1_1868 h_M1_1868
  have hM1_1868 : IM (b) M1_1868 := by rw [h_M1_1868]; exact hI.up (by omega) (by simp [BM])
  refine sX12_copies  hM1_1868  ?_
  intro M2_1869 hM2_1869
  refine sX12_rightThen  hM2_1869 (by omega) ?_
  intro x3_1870 q1871
  intro M4_1872 h_M4_1872
  have hM4_1872 : IM (b) M4_1872 := by rw [h_M4_1872]; exact hM2_1869.up (by omega) (bm_c1_1.mpr ⟨by omega, by omega⟩)
  have u1873 : 0 ≤ M4_1872 1 1 ∧ M4_1872 1 1 ≤ 24 := bm_c1_1.mp (hM4_1872.bx _ _)
  have t1874 : M4_1872 1 1 = 0 := by rw [h_M4_1872, up2_s]
  refine sX12_enters (p1 := x3_1870) hM4_1872 (by omega) ?_
  intro M5_1875 hM5_1875 p1876
  refine sX12_endedBy (p2 := 0) hM5_1875 (Or.inr rfl) ?_
  intro x6_1877 q1878
  have u1879 : 0 ≤ M5_1875 1 1 ∧ M5_1875 1 1 ≤ 24 := bm_c1_1.mp (hM5_1875.bx _ _)
  refine sX12_enters (p1 := x6_1877) hM5_1875 (by omega) ?_
  intro M7_1880 hM7_1880 p1881
  refine sJ6_bitCountM (p0 := x3_1870) hM7_1880  ?_
  intro x8_1882 p1883 q1884
  exact hQ _ _ (hM7_1880.mono (by omega))
theorem sX12_has {p0 : Int} {p1 : Int} {b : Int} {M : Mem} {Q : Int → Mem → Prop} (hI : IM b M) (hQ : ∀ z : Int, Q z M) : qX12_has p0 p1 M Q := by
  unfold qX12_has
  have hbn := hI.nn
  intro x1_1885 ex1_1885 rx1_1885
  intro x2_1886 ex2_1886 rx2_1886
  have fx2_1886 := aI_1 x1_1885; rw [← ex2_1886] at fx2_1886
  refine ⟨fun c => ?_, fun c => ?_⟩
  · exact hQ _
  · exact hQ _
theorem sX12_order  {b : Int} {M : Mem} {Q : Int → Mem → Prop} (hI : IM b M) (hb : b + 200000 ≤ 2000000000) (hQ : ∀ z : Int, Q z M) : qX12_order M Q := sorry
theorem sX12_stands_L42 {p1 : Int} {X95 : Int → Int → Mem → Prop} {Q : Int → Mem → Prop} {b : Int} (hb : b + 6000 ≤ 2000000000) (hQ : ∀ z : Int, ∀ M' : Mem, IM (b + 6000) M' → Q z M') (hX95 : ∀ w1 w2 : Int, ∀ M' : Mem, IM (b + 6000) M' → (-2 ≤ w1 ∧ w1 ≤ 29 ∧ 0 ≤ w2 ∧ w2 ≤ 29) → X95 w1 w2 M') : ∀ (n : Nat) (v2 v3 v4 : Int) (M : Mem), IM (b + 200 * (28 - v4)) M → (-2 ≤ v2 ∧ v2 ≤ 29 ∧ 0 ≤ v3 ∧ v3 + v4 ≤ 28 ∧ -1 ≤ v4 ∧ v4 ≤ 28 ∧ 0 ≤ p1 ∧ p1 ≤ 7) → v4 + 1 < (n : Int) → qX12_stands_L42 p1 X95 Q n v2 v3 v4 M := by
  intro n
  induction n with
  | zero => intro v2 v3 v4 M hI hv hm; exact absurd hm (by omega)
  | succ n ih =>
    intro v2 v3 v4 M hI hv hm
    rw [qX12_stands_L42]
    have hbn := hI.nn
    refine ⟨(by first | assumption | exact ⟨by omega, by omega⟩), ?_⟩
    refine ⟨fun c => ?_, fun c => ?_⟩
    · exact hX95 _ _ _ (hI.mono (by omega)) (by omega)
    · refine sX12_copies  hI  ?_
      intro M9_1891 hM9_1891
      refine ⟨by omega, ?_⟩
      refine ⟨by omega, ?_⟩
      intro M12_1892 h_M12_1892
      have hM12_1892 : IM (b + 200 * (28 - v4)) M12_1892 := by rw [h_M12_1892]; exact hM9_1891.up (by omega) ((bm_n (Or.inr rfl)).mpr (by first | assumption | exact ⟨by omega, by omega, by omega, by omega⟩))
      refine ⟨by omega, ?_⟩
      refine ⟨by omega, ?_⟩
      intro M15_1893 h_M15_1893
      have hM15_1893 : IM (b + 200 * (28 - v4)) M15_1893 := by rw [h_M15_1893]; exact hM12_1892.up (by omega) ((bm_n (Or.inr rfl)).mpr (by first | assumption | exact ⟨by omega, by omega, by omega, by omega⟩))
      refine sX12_rightThen  hM15_1893 (by omega) ?_
      intro x16_1894 q1895
      refine sX12_has (p0 := x16_1894) (p1 := p1) hM15_1893  ?_
      intro x17_1896 q1897 q1898
      refine ⟨fun c => ?_, fun c => ?_⟩
      · exact ih _ _ _ _ (hM15_1893.mono (by omega)) (by omega) (by omega)
      · exact ih _ _ _ _ (hM15_1893.mono (by omega)) (by omega) (by omega)
theorem sX12_stands {p1 : Int} {b : Int} {M : Mem} {Q : Int → Mem → Prop} (hI : IM b M) (hb : b + 6000 ≤ 2000000000) (hQ : ∀ z : Int, ∀ M' : Mem, IM (b + 6000) M' → Q z M') : qX12_stands p1 M Q := by
  unfold qX12_stands
  have hbn := hI.nn
  intro M1_1901 h_M1_1901
  have hM1_1901 : IM (b) M1_1901 := by rw [h_M1_1901]; exact hI.up (by omega) (by simp [BM])
  refine sX12_isMourner (p1 := p1) hM1_1901  ?_
  intro x2_1902 p1903 q1904 q1905
  refine ⟨fun c => ?_, fun c => ?_⟩
  · refine sX12_isEnded (p1 := p1) hM1_1901 (Or.inl rfl) (by omega) ?_
    intro x4_1907 q1908 q1909
    refine ⟨fun c => ?_, fun c => ?_⟩
    · refine sX12_gate  hM1_1901  ?_
      intro x6_1911 p1912 q1913
      refine ⟨30, ?_⟩
      refine sX12_stands_L42 (b := b) (p1 := p1) hb ?_ ?_ _ _ _ _ _ (hM1_1901.mono (by omega)) (by omega) (by omega)
      · exact hQ
      · intro v2_1914 v3_1915 M_1916 hM_1916 p1917
        refine ⟨(by first | assumption | exact ⟨by omega, by omega⟩), ?_⟩
        refine ⟨fun c => ?_, fun c => ?_⟩
        · exact hQ _ _ (hM_1916.mono (by omega))
        · intro M22_1920 h_M22_1920
          have hM22_1920 : IM (b + 6000) M22_1920 := by rw [h_M22_1920]; exact hM_1916.up (by omega) (bm_c1_1.mpr ⟨by omega, by omega⟩)
          refine ⟨(by first | assumption | exact ⟨by omega, by omega⟩), ?_⟩
          have u1921 : 0 ≤ M22_1920 1 1 ∧ M22_1920 1 1 ≤ 24 := bm_c1_1.mp (hM22_1920.bx _ _)
          have t1922 : M22_1920 1 1 = 0 := by rw [h_M22_1920, up2_s]
          refine sX12_enters (p1 := v3_1915) hM22_1920 (by omega) ?_
          intro M24_1923 hM24_1923 p1924
          exact hQ _ _ (hM24_1923.mono (by omega))
    · exact hQ _ _ (hM1_1901.mono (by omega))
  · exact hQ _ _ (hM1_1901.mono (by omega))
theorem sX12_when_L24 {p1 : Int} {X142 : Int → Int → Mem → Prop} {Q : Int → Mem → Prop} {b : Int} (hb : b + 24400 ≤ 2000000000) (hQ : ∀ z : Int, ∀ M' : Mem, IM (b + 24400) M' → Q z M') (hX142 : ∀ w1 w2 : Int, ∀ M' : Mem, IM (b + 24400) M' → (-2 ≤ w1 ∧ w1 ≤ 60 ∧ 0 ≤ w2 ∧ w2 ≤ 60) → X142 w1 w2 M') : ∀ (n : Nat) (v2 v3 v4 : Int) (M : Mem), IM (b + 400 * (60 - v4)) M → (-2 ≤ v2 ∧ v2 ≤ 60 ∧ 0 ≤ v3 ∧ v3 ≤ 60 ∧ -1 ≤ v4 ∧ v4 ≤ 60 ∧ 0 ≤ p1 ∧ p1 ≤ 7) → v4 + 1 < (n : Int) → qX12_when_L24 p1 X142 Q n v2 v3 v4 M := by
  intro n
  induction n with
  | zero => intro v2 v3 v4 M hI hv hm; exact absurd hm (by omega)
  | succ n ih =>
    intro v2 v3 v4 M hI hv hm
    rw [qX12_when_L24]
    have hbn := hI.nn
    refine ⟨(by first | assumption | exact ⟨by omega, by omega⟩), ?_⟩
    refine ⟨fun c => ?_, fun c => ?_⟩
    · exact hX142 _ _ _ (hI.mono (by omega)) (by omega)
    · refine sX12_copies  hI  ?_
      intro M6_1929 hM6_1929
      refine sX12_goesOn (p2 := v4) hM6_1929 (by omega) (Or.inr rfl) (by omega) ?_
      intro M7_1930 hM7_1930
      refine sX12_isEnded (p1 := p1) hM7_1930 (Or.inr rfl) (by omega) ?_
      intro x8_1931 q1932 q1933
      refine ⟨fun c => ?_, fun c => ?_⟩
      · unfold qX12_when_J76
        unfold qX12_when_J77
        refine ⟨(by first | assumption | exact ⟨by omega, by omega⟩), ?_⟩
        refine ⟨fun c => ?_, fun c => ?_⟩
        · refine sX12_turnsOne (p2 := p1) hM7_1930 (Or.inr rfl) ?_
          intro x12_1936 M12_1937 hM12_1937 q1938
          unfold qX12_when_J97
          refine ⟨(by first | assumption | exact ⟨by omega, by omega⟩), ?_⟩
          refine ⟨fun c => ?_, fun c => ?_⟩
          · unfold qX12_when_J111
            refine sX12_rightThen  hM12_1937 (by omega) ?_
            intro x15_1940 q1941
            refine sX12_has (p0 := x15_1940) (p1 := p1) hM12_1937  ?_
            intro x16_1942 q1943 q1944
            refine ⟨fun c => ?_, fun c => ?_⟩
            · exact ih _ _ _ _ (hM12_1937.mono (by omega)) (by omega) (by omega)
            · refine ⟨(by first | assumption | exact ⟨by omega, by omega⟩), ?_⟩
              refine ⟨fun c => ?_, fun c => ?_⟩
              · exact ih _ _ _ _ (hM12_1937.mono (by omega)) (by omega) (by omega)
              · exact ih _ _ _ _ (hM12_1937.mono (by omega)) (by omega) (by omega)
          · refine ⟨fun c => ?_, fun c => ?_⟩
            · exact ih _ _ _ _ (hM12_1937.mono (by omega)) (by omega) (by omega)
            · unfold qX12_when_J111
              refine sX12_rightThen  hM12_1937 (by omega) ?_
              intro x15_1952 q1953
              refine sX12_has (p0 := x15_1952) (p1 := p1) hM12_1937  ?_
              intro x16_1954 q1955 q1956
              refine ⟨fun c => ?_, fun c => ?_⟩
              · exact ih _ _ _ _ (hM12_1937.mono (by omega)) (by omega) (by omega)
              · refine ⟨(by first | assumption | exact ⟨by omega, by omega⟩), ?_⟩
                refine ⟨fun c => ?_, fun c => ?_⟩
                · exact ih _ _ _ _ (hM12_1937.mono (by omega)) (by omega) (by omega)
                · exact ih _ _ _ _ (hM12_1937.mono (by omega)) (by omega) (by omega)
        · unfold qX12_when_J97
          refine ⟨(by first | assumption | exact ⟨by omega, by omega⟩), ?_⟩
          refine ⟨fun c => ?_, fun c => ?_⟩
          · unfold qX12_when_J111
            refine sX12_rightThen  hM7_1930 (by omega) ?_
            intro x15_1963 q1964
            refine sX12_has (p0 := x15_1963) (p1 := p1) hM7_1930  ?_
            intro x16_1965 q1966 q1967
            refine ⟨fun c => ?_, fun c => ?_⟩
            · exact ih _ _ _ _ (hM7_1930.mono (by omega)) (by omega) (by omega)
            · refine ⟨(by first | assumption | exact ⟨by omega, by omega⟩), ?_⟩
              refine ⟨fun c => ?_, fun c => ?_⟩
              · exact ih _ _ _ _ (hM7_1930.mono (by omega)) (by omega) (by omega)
              · exact ih _ _ _ _ (hM7_1930.mono (by omega)) (by omega) (by omega)
          · refine ⟨fun c => ?_, fun c => ?_⟩
            · exact ih _ _ _ _ (hM7_1930.mono (by omega)) (by omega) (by omega)
            · unfold qX12_when_J111
              refine sX12_rightThen  hM7_1930 (by omega) ?_
              intro x15_1975 q1976
              refine sX12_has (p0 := x15_1975) (p1 := p1) hM7_1930  ?_
              intro x16_1977 q1978 q1979
              refine ⟨fun c => ?_, fun c => ?_⟩
              · exact ih _ _ _ _ (hM7_1930.mono (by omega)) (by omega) (by omega)
              · refine ⟨(by first | assumption | exact ⟨by omega, by omega⟩), ?_⟩
                refine ⟨fun c => ?_, fun c => ?_⟩
                · exact ih _ _ _ _ (hM7_1930.mono (by omega)) (by omega) (by omega)
                · exact ih _ _ _ _ (hM7_1930.mono (by omega)) (by omega) (by omega)
      · refine ⟨by omega, ?_⟩
        refine ⟨by omega, ?_⟩
        intro x23_1985 ex23_1985 rx23_1985
        have rbx23_1985 : -2147483648 ≤ x23_1985 ∧ x23_1985 ≤ 2147483647 := rx23_1985
        first | (have bx23_1985 : -1 ≤ x23_1985 ∧ x23_1985 ≤ 5 := by rw [ex23_1985]; exact ((bm_n (Or.inr rfl)).mp (hM7_1930.bx _ _)).2.2.1 ⟨by omega, by omega⟩) | skip
        refine ⟨by omega, ?_⟩
        refine ⟨by omega, ?_⟩
        intro x26_1986 ex26_1986 rx26_1986
        have bx26_1986 : 0 ≤ x26_1986 ∧ x26_1986 ≤ 5 := by rw [ex26_1986]; exact bm_c3.mp (hM7_1930.bx _ _)
        refine ⟨fun c => ?_, fun c => ?_⟩
        · unfold qX12_when_J76
          unfold qX12_when_J77
          refine ⟨(by first | assumption | exact ⟨by omega, by omega⟩), ?_⟩
          refine ⟨fun c => ?_, fun c => ?_⟩
          · refine sX12_turnsOne (p2 := p1) hM7_1930 (Or.inr rfl) ?_
            intro x12_1989 M12_1990 hM12_1990 q1991
            unfold qX12_when_J97
            refine ⟨(by first | assumption | exact ⟨by omega, by omega⟩), ?_⟩
            refine ⟨fun c => ?_, fun c => ?_⟩
            · unfold qX12_when_J111
              refine sX12_rightThen  hM12_1990 (by omega) ?_
              intro x15_1993 q1994
              refine sX12_has (p0 := x15_1993) (p1 := p1) hM12_1990  ?_
              intro x16_1995 q1996 q1997
              refine ⟨fun c => ?_, fun c => ?_⟩
              · exact ih _ _ _ _ (hM12_1990.mono (by omega)) (by omega) (by omega)
              · refine ⟨(by first | assumption | exact ⟨by omega, by omega⟩), ?_⟩
                refine ⟨fun c => ?_, fun c => ?_⟩
                · exact ih _ _ _ _ (hM12_1990.mono (by omega)) (by omega) (by omega)
                · exact ih _ _ _ _ (hM12_1990.mono (by omega)) (by omega) (by omega)
            · refine ⟨fun c => ?_, fun c => ?_⟩
              · exact ih _ _ _ _ (hM12_1990.mono (by omega)) (by omega) (by omega)
              · unfold qX12_when_J111
                refine sX12_rightThen  hM12_1990 (by omega) ?_
                intro x15_2005 q2006
                refine sX12_has (p0 := x15_2005) (p1 := p1) hM12_1990  ?_
                intro x16_2007 q2008 q2009
                refine ⟨fun c => ?_, fun c => ?_⟩
                · exact ih _ _ _ _ (hM12_1990.mono (by omega)) (by omega) (by omega)
                · refine ⟨(by first | assumption | exact ⟨by omega, by omega⟩), ?_⟩
                  refine ⟨fun c => ?_, fun c => ?_⟩
                  · exact ih _ _ _ _ (hM12_1990.mono (by omega)) (by omega) (by omega)
                  · exact ih _ _ _ _ (hM12_1990.mono (by omega)) (by omega) (by omega)
          · unfold qX12_when_J97
            refine ⟨(by first | assumption | exact ⟨by omega, by omega⟩), ?_⟩
            refine ⟨fun c => ?_, fun c => ?_⟩
            · unfold qX12_when_J111
              refine sX12_rightThen  hM7_1930 (by omega) ?_
              intro x15_2016 q2017
              refine sX12_has (p0 := x15_2016) (p1 := p1) hM7_1930  ?_
              intro x16_2018 q2019 q2020
              refine ⟨fun c => ?_, fun c => ?_⟩
              · exact ih _ _ _ _ (hM7_1930.mono (by omega)) (by omega) (by omega)
              · refine ⟨(by first | assumption | exact ⟨by omega, by omega⟩), ?_⟩
                refine ⟨fun c => ?_, fun c => ?_⟩
                · exact ih _ _ _ _ (hM7_1930.mono (by omega)) (by omega) (by omega)
                · exact ih _ _ _ _ (hM7_1930.mono (by omega)) (by omega) (by omega)
            · refine ⟨fun c => ?_, fun c => ?_⟩
              · exact ih _ _ _ _ (hM7_1930.mono (by omega)) (by omega) (by omega)
              · unfold qX12_when_J111
                refine sX12_rightThen  hM7_1930 (by omega) ?_
                intro x15_2028 q2029
                refine sX12_has (p0 := x15_2028) (p1 := p1) hM7_1930  ?_
                intro x16_2030 q2031 q2032
                refine ⟨fun c => ?_, fun c => ?_⟩
                · exact ih _ _ _ _ (hM7_1930.mono (by omega)) (by omega) (by omega)
                · refine ⟨(by first | assumption | exact ⟨by omega, by omega⟩), ?_⟩
                  refine ⟨fun c => ?_, fun c => ?_⟩
                  · exact ih _ _ _ _ (hM7_1930.mono (by omega)) (by omega) (by omega)
                  · exact ih _ _ _ _ (hM7_1930.mono (by omega)) (by omega) (by omega)
        · unfold qX12_when_J77
          refine ⟨(by first | assumption | exact ⟨by omega, by omega⟩), ?_⟩
          refine ⟨fun c => ?_, fun c => ?_⟩
          · refine sX12_turnsOne (p2 := p1) hM7_1930 (Or.inr rfl) ?_
            intro x12_2039 M12_2040 hM12_2040 q2041
            unfold qX12_when_J97
            refine ⟨(by first | assumption | exact ⟨by omega, by omega⟩), ?_⟩
            refine ⟨fun c => ?_, fun c => ?_⟩
            · unfold qX12_when_J111
              refine sX12_rightThen  hM12_2040 (by omega) ?_
              intro x15_2043 q2044
              refine sX12_has (p0 := x15_2043) (p1 := p1) hM12_2040  ?_
              intro x16_2045 q2046 q2047
              refine ⟨fun c => ?_, fun c => ?_⟩
              · exact ih _ _ _ _ (hM12_2040.mono (by omega)) (by omega) (by omega)
              · refine ⟨(by first | assumption | exact ⟨by omega, by omega⟩), ?_⟩
                refine ⟨fun c => ?_, fun c => ?_⟩
                · exact ih _ _ _ _ (hM12_2040.mono (by omega)) (by omega) (by omega)
                · exact ih _ _ _ _ (hM12_2040.mono (by omega)) (by omega) (by omega)
            · refine ⟨fun c => ?_, fun c => ?_⟩
              · exact ih _ _ _ _ (hM12_2040.mono (by omega)) (by omega) (by omega)
              · unfold qX12_when_J111
                refine sX12_rightThen  hM12_2040 (by omega) ?_
                intro x15_2055 q2056
                refine sX12_has (p0 := x15_2055) (p1 := p1) hM12_2040  ?_
                intro x16_2057 q2058 q2059
                refine ⟨fun c => ?_, fun c => ?_⟩
                · exact ih _ _ _ _ (hM12_2040.mono (by omega)) (by omega) (by omega)
                · refine ⟨(by first | assumption | exact ⟨by omega, by omega⟩), ?_⟩
                  refine ⟨fun c => ?_, fun c => ?_⟩
                  · exact ih _ _ _ _ (hM12_2040.mono (by omega)) (by omega) (by omega)
                  · exact ih _ _ _ _ (hM12_2040.mono (by omega)) (by omega) (by omega)
          · unfold qX12_when_J97
            refine ⟨(by first | assumption | exact ⟨by omega, by omega⟩), ?_⟩
            refine ⟨fun c => ?_, fun c => ?_⟩
            · unfold qX12_when_J111
              refine sX12_rightThen  hM7_1930 (by omega) ?_
              intro x15_2066 q2067
              refine sX12_has (p0 := x15_2066) (p1 := p1) hM7_1930  ?_
              intro x16_2068 q2069 q2070
              refine ⟨fun c => ?_, fun c => ?_⟩
              · exact ih _ _ _ _ (hM7_1930.mono (by omega)) (by omega) (by omega)
              · refine ⟨(by first | assumption | exact ⟨by omega, by omega⟩), ?_⟩
                refine ⟨fun c => ?_, fun c => ?_⟩
                · exact ih _ _ _ _ (hM7_1930.mono (by omega)) (by omega) (by omega)
                · exact ih _ _ _ _ (hM7_1930.mono (by omega)) (by omega) (by omega)
            · refine ⟨fun c => ?_, fun c => ?_⟩
              · exact ih _ _ _ _ (hM7_1930.mono (by omega)) (by omega) (by omega)
              · unfold qX12_when_J111
                refine sX12_rightThen  hM7_1930 (by omega) ?_
                intro x15_2078 q2079
                refine sX12_has (p0 := x15_2078) (p1 := p1) hM7_1930  ?_
                intro x16_2080 q2081 q2082
                refine ⟨fun c => ?_, fun c => ?_⟩
                · exact ih _ _ _ _ (hM7_1930.mono (by omega)) (by omega) (by omega)
                · refine ⟨(by first | assumption | exact ⟨by omega, by omega⟩), ?_⟩
                  refine ⟨fun c => ?_, fun c => ?_⟩
                  · exact ih _ _ _ _ (hM7_1930.mono (by omega)) (by omega) (by omega)
                  · exact ih _ _ _ _ (hM7_1930.mono (by omega)) (by omega) (by omega)
theorem sX12_when {p1 : Int} {b : Int} {M : Mem} {Q : Int → Mem → Prop} (hI : IM b M) (hb : b + 24400 ≤ 2000000000) (hQ : ∀ z : Int, ∀ M' : Mem, IM (b + 24400) M' → Q z M') : qX12_when p1 M Q := by
  unfold qX12_when
  have hbn := hI.nn
  intro M1_2087 h_M1_2087
  have hM1_2087 : IM (b) M1_2087 := by rw [h_M1_2087]; exact hI.up (by omega) (by simp [BM])
  refine sX12_isMourner (p1 := p1) hM1_2087  ?_
  intro x2_2088 p2089 q2090 q2091
  refine ⟨fun c => ?_, fun c => ?_⟩
  · refine ⟨62, ?_⟩
    refine sX12_when_L24 (b := b) (p1 := p1) hb ?_ ?_ _ _ _ _ _ (hM1_2087.mono (by omega)) (by omega) (by omega)
    · exact hQ
    · intro v2_2093 v3_2094 M_2095 hM_2095 p2096
      refine ⟨(by first | assumption | exact ⟨by omega, by omega⟩), ?_⟩
      refine ⟨fun c => ?_, fun c => ?_⟩
      · exact hQ _ _ (hM_2095.mono (by omega))
      · intro M31_2099 h_M31_2099
        have hM31_2099 : IM (b + 24400) M31_2099 := by rw [h_M31_2099]; exact hM_2095.up (by omega) (bm_c1_1.mpr ⟨by omega, by omega⟩)
        refine ⟨(by first | assumption | exact ⟨by omega, by omega⟩), ?_⟩
        have u2100 : 0 ≤ M31_2099 1 1 ∧ M31_2099 1 1 ≤ 24 := bm_c1_1.mp (hM31_2099.bx _ _)
        have t2101 : M31_2099 1 1 = 0 := by rw [h_M31_2099, up2_s]
        refine sX12_enters (p1 := v3_2094) hM31_2099 (by omega) ?_
        intro M33_2102 hM33_2102 p2103
        exact hQ _ _ (hM33_2102.mono (by omega))
  · exact hQ _ _ (hM1_2087.mono (by omega))
theorem sX12_mends_L58 {p1 : Int} {X122 : Int → Int → Int → Mem → Prop} {Q : Int → Mem → Prop} {b : Int} {g0 : Int} {g1 : Int} (hb : b + 51200 ≤ 2000000000) (hQ : ∀ z : Int, ∀ M' : Mem, IM (b + 51200) M' → Q z M') (hX122 : ∀ w1 w2 w3 : Int, ∀ M' : Mem, IM (b + 200 * g1) M' → (w1 = g0 ∧ w2 = g1 ∧ 0 ≤ w3 ∧ w3 ≤ 1) → X122 w1 w2 w3 M') : ∀ (n : Nat) (v2 v3 v4 v5 : Int) (M : Mem), IM (b + 200 * v3) M → (v2 = g0 ∧ v3 = g1 ∧ 0 ≤ v3 ∧ v3 ≤ 255 ∧ 0 ≤ v4 ∧ v4 ≤ 1 ∧ 0 ≤ v5 ∧ v5 ≤ 8) → 8 - v5 < (n : Int) → qX12_mends_L58 p1 X122 Q n v2 v3 v4 v5 M := by
  intro n
  induction n with
  | zero => intro v2 v3 v4 v5 M hI hv hm; exact absurd hm (by omega)
  | succ n ih =>
    intro v2 v3 v4 v5 M hI hv hm
    rw [qX12_mends_L58]
    have hbn := hI.nn
    intro x11_2105 ex11_2105 rx11_2105
    have bx11_2105 : 0 ≤ x11_2105 ∧ x11_2105 ≤ 8 := by rw [ex11_2105]; exact bm_c1_5.mp (hI.bx _ _)
    refine ⟨(by first | assumption | exact ⟨by omega, by omega⟩), ?_⟩
    refine ⟨fun c => ?_, fun c => ?_⟩
    · exact hX122 _ _ _ _ (hI.mono (by omega)) (by omega)
    · refine ⟨(by first | assumption | exact ⟨by omega, by omega⟩), ?_⟩
      refine sX12_has (p0 := v3) (p1 := v5) hI  ?_
      intro x15_2108 q2109 q2110
      refine ⟨fun c => ?_, fun c => ?_⟩
      · unfold qX12_mends_J90
        refine ⟨(by first | assumption | exact ⟨by omega, by omega⟩), ?_⟩
        refine ⟨fun c => ?_, fun c => ?_⟩
        · exact ih _ _ _ _ _ (hI.mono (by omega)) (by omega) (by omega)
        · refine ⟨(by first | assumption | exact ⟨by omega, by omega⟩), ?_⟩
          refine ⟨fun c => ?_, fun c => ?_⟩
          · exact ih _ _ _ _ _ (hI.mono (by omega)) (by omega) (by omega)
          · refine ⟨fun c => ?_, fun c => ?_⟩
            · exact ih _ _ _ _ _ (hI.mono (by omega)) (by omega) (by omega)
            · exact ih _ _ _ _ _ (hI.mono (by omega)) (by omega) (by omega)
      · refine sX12_turnsOne (p2 := v5) hI (Or.inr rfl) ?_
        intro x22_2119 M22_2120 hM22_2120 q2121
        unfold qX12_mends_J90
        refine ⟨(by first | assumption | exact ⟨by omega, by omega⟩), ?_⟩
        refine ⟨fun c => ?_, fun c => ?_⟩
        · exact ih _ _ _ _ _ (hM22_2120.mono (by omega)) (by omega) (by omega)
        · refine ⟨(by first | assumption | exact ⟨by omega, by omega⟩), ?_⟩
          refine ⟨fun c => ?_, fun c => ?_⟩
          · exact ih _ _ _ _ _ (hM22_2120.mono (by omega)) (by omega) (by omega)
          · refine ⟨fun c => ?_, fun c => ?_⟩
            · exact ih _ _ _ _ _ (hM22_2120.mono (by omega)) (by omega) (by omega)
            · exact ih _ _ _ _ _ (hM22_2120.mono (by omega)) (by omega) (by omega)
theorem sX12_mends_L23 {p1 : Int} {X150 : Int → Mem → Prop} {Q : Int → Mem → Prop} {b : Int} (hb : b + 51200 ≤ 2000000000) (hQ : ∀ z : Int, ∀ M' : Mem, IM (b + 51200) M' → Q z M') (hX150 : ∀ w1 : Int, ∀ M' : Mem, IM (b + 51200) M' → (-1 ≤ w1 ∧ w1 ≤ 255) → X150 w1 M') : ∀ (n : Nat) (v2 v3 : Int) (M : Mem), IM (b + 200 * v3) M → (-1 ≤ v2 ∧ v2 ≤ 255 ∧ 0 ≤ v3 ∧ v3 ≤ 256) → 256 - v3 < (n : Int) → qX12_mends_L23 p1 X150 Q n v2 v3 M := by
  intro n
  induction n with
  | zero => intro v2 v3 M hI hv hm; exact absurd hm (by omega)
  | succ n ih =>
    intro v2 v3 M hI hv hm
    rw [qX12_mends_L23]
    have hbn := hI.nn
    intro x4_2128 ex4_2128 rx4_2128
    have bx4_2128 : 0 ≤ x4_2128 ∧ x4_2128 ≤ 8 := by rw [ex4_2128]; exact bm_c1_5.mp (hI.bx _ _)
    intro x5_2129 ex5_2129 rx5_2129
    first | (have fx5_2129 := slI_1 (b := x4_2128) ⟨by omega, by omega⟩; rw [← ex5_2129] at fx5_2129) | skip
    refine ⟨(by first | assumption | exact ⟨by omega, by omega⟩), ?_⟩
    refine ⟨fun c => ?_, fun c => ?_⟩
    · exact hX150 _ _ (hI.mono (by omega)) (by omega)
    · refine ⟨(by first | assumption | exact ⟨by omega, by omega⟩), ?_⟩
      refine ⟨fun c => ?_, fun c => ?_⟩
      · unfold qX12_mends_J48
        refine sX12_copies  hI  ?_
        intro M10_2133 hM10_2133
        refine ⟨9, ?_⟩
        refine sX12_mends_L58 (b := b) (p1 := p1) (g0 := v2) (g1 := v3) hb ?_ ?_ _ _ _ _ _ _ (hM10_2133.mono (by omega)) (by omega) (by omega)
        · exact hQ
        · intro v2_2134 v3_2135 v4_2136 M_2137 hM_2137 p2138
          refine ⟨(by first | assumption | exact ⟨by omega, by omega⟩), ?_⟩
          refine ⟨fun c => ?_, fun c => ?_⟩
          · exact ih _ _ _ (hM_2137.mono (by omega)) (by omega) (by omega)
          · refine sX12_rightThen  hM_2137 (by omega) ?_
            intro x26_2141 q2142
            refine sJ6_bitCountM (p0 := x26_2141) hM_2137  ?_
            intro x27_2143 p2144 q2145
            refine ⟨fun c => ?_, fun c => ?_⟩
            · exact ih _ _ _ (hM_2137.mono (by omega)) (by omega) (by omega)
            · exact ih _ _ _ (hM_2137.mono (by omega)) (by omega) (by omega)
      · refine sJ6_bitCountM (p0 := v3) hI  ?_
        intro x29_2149 p2150 q2151
        refine sJ6_bitCountM (p0 := v2) hI  ?_
        intro x30_2152 p2153 q2154
        refine ⟨fun c => ?_, fun c => ?_⟩
        · exact ih _ _ _ (hI.mono (by omega)) (by omega) (by omega)
        · unfold qX12_mends_J48
          refine sX12_copies  hI  ?_
          intro M10_2157 hM10_2157
          refine ⟨9, ?_⟩
          refine sX12_mends_L58 (b := b) (p1 := p1) (g0 := v2) (g1 := v3) hb ?_ ?_ _ _ _ _ _ _ (hM10_2157.mono (by omega)) (by omega) (by omega)
          · exact hQ
          · intro v2_2158 v3_2159 v4_2160 M_2161 hM_2161 p2162
            refine ⟨(by first | assumption | exact ⟨by omega, by omega⟩), ?_⟩
            refine ⟨fun c => ?_, fun c => ?_⟩
            · exact ih _ _ _ (hM_2161.mono (by omega)) (by omega) (by omega)
            · refine sX12_rightThen  hM_2161 (by omega) ?_
              intro x26_2165 q2166
              refine sJ6_bitCountM (p0 := x26_2165) hM_2161  ?_
              intro x27_2167 p2168 q2169
              refine ⟨fun c => ?_, fun c => ?_⟩
              · exact ih _ _ _ (hM_2161.mono (by omega)) (by omega) (by omega)
              · exact ih _ _ _ (hM_2161.mono (by omega)) (by omega) (by omega)
theorem sX12_mends {p1 : Int} {b : Int} {M : Mem} {Q : Int → Mem → Prop} (hI : IM b M) (hb : b + 51200 ≤ 2000000000) (hQ : ∀ z : Int, ∀ M' : Mem, IM (b + 51200) M' → Q z M') : qX12_mends p1 M Q := by
  unfold qX12_mends
  have hbn := hI.nn
  intro M1_2172 h_M1_2172
  have hM1_2172 : IM (b) M1_2172 := by rw [h_M1_2172]; exact hI.up (by omega) (by simp [BM])
  refine sX12_in (p0 := p1) (p2 := 0) (p4 := 8) hM1_2172  ?_
  intro x2_2173 p2174 q2175 q2176
  refine ⟨fun c => ?_, fun c => ?_⟩
  · refine ⟨257, ?_⟩
    refine sX12_mends_L23 (b := b) (p1 := p1) hb ?_ ?_ _ _ _ _ (hM1_2172.mono (by omega)) (by omega) (by omega)
    · exact hQ
    · intro v2_2178 M_2179 hM_2179 p2180
      refine ⟨(by first | assumption | exact ⟨by omega, by omega⟩), ?_⟩
      refine ⟨fun c => ?_, fun c => ?_⟩
      · intro M35_2182 h_M35_2182
        have hM35_2182 : IM (b + 51200) M35_2182 := by rw [h_M35_2182]; exact hM_2179.up (by omega) (bm_c1_1.mpr ⟨by omega, by omega⟩)
        have u2183 : 0 ≤ M35_2182 1 1 ∧ M35_2182 1 1 ≤ 24 := bm_c1_1.mp (hM35_2182.bx _ _)
        have t2184 : M35_2182 1 1 = 0 := by rw [h_M35_2182, up2_s]
        refine sX12_enters (p1 := v2_2178) hM35_2182 (by omega) ?_
        intro M36_2185 hM36_2185 p2186
        refine sJ6_bitCountM (p0 := v2_2178) hM36_2185  ?_
        intro x37_2187 p2188 q2189
        exact hQ _ _ (hM36_2185.mono (by omega))
      · exact hQ _ _ (hM_2179.mono (by omega))
  · exact hQ _ _ (hM1_2172.mono (by omega))
theorem sX12_misleads_L58  {X124 : Int → Int → Int → Int → Mem → Prop} {Q : Int → Mem → Prop} {b : Int} {g1 : Int} {g2 : Int} {g3 : Int} {g4 : Int} (hb : b + 1600 ≤ 2000000000) (hQ : ∀ z : Int, ∀ M' : Mem, IM (b + 1600) M' → Q z M') (hX124 : ∀ w1 w2 w3 w4 : Int, ∀ M' : Mem, IM (b + 200 + 200 * g4) M' → (w1 = g1 ∧ w2 = g2 ∧ w3 = g3 ∧ w4 = g4) → X124 w1 w2 w3 w4 M') : ∀ (n : Nat) (v1 v2 v3 v4 v5 : Int) (M : Mem), IM (b + 200 + 200 * v4) M → (v1 = g1 ∧ v2 = g2 ∧ v3 = g3 ∧ v4 = g4 ∧ 0 ≤ v4 ∧ v4 ≤ 5 ∧ 0 ≤ v5 ∧ v5 ≤ 8) → 8 - v5 < (n : Int) → qX12_misleads_L58 X124 Q n v1 v2 v3 v4 v5 M := by
  intro n
  induction n with
  | zero => intro v1 v2 v3 v4 v5 M hI hv hm; exact absurd hm (by omega)
  | succ n ih =>
    intro v1 v2 v3 v4 v5 M hI hv hm
    rw [qX12_misleads_L58]
    have hbn := hI.nn
    intro x13_2192 ex13_2192 rx13_2192
    have bx13_2192 : 0 ≤ x13_2192 ∧ x13_2192 ≤ 8 := by rw [ex13_2192]; exact bm_c1_5.mp (hI.bx _ _)
    refine ⟨(by first | assumption | exact ⟨by omega, by omega⟩), ?_⟩
    refine ⟨fun c => ?_, fun c => ?_⟩
    · exact hX124 _ _ _ _ _ (hI.mono (by omega)) (by omega)
    · refine sX12_isEnded (p1 := v5) hI (Or.inr rfl) (by omega) ?_
      intro x16_2195 q2196 q2197
      refine ⟨fun c => ?_, fun c => ?_⟩
      · unfold qX12_misleads_J107
        refine ⟨by omega, ?_⟩
        refine ⟨by omega, ?_⟩
        intro x20_2199 ex20_2199 rx20_2199
        have rbx20_2199 : -2147483648 ≤ x20_2199 ∧ x20_2199 ≤ 2147483647 := rx20_2199
        first | (have bx20_2199 : -1 ≤ x20_2199 ∧ x20_2199 ≤ 5 := by rw [ex20_2199]; exact ((bm_n (Or.inr rfl)).mp (hI.bx _ _)).2.2.1 ⟨by omega, by omega⟩) | skip
        unfold qX12_misleads_J117
        refine ⟨by omega, ?_⟩
        refine ⟨by omega, ?_⟩
        refine ⟨(by first | assumption | exact ⟨by omega, by omega⟩), ?_⟩
        intro M24_2200 h_M24_2200
        have hM24_2200 : IM (b + 200 + 200 * v4) M24_2200 := by rw [h_M24_2200]; exact hI.up (by omega) ((bm_n (Or.inr rfl)).mpr (by first | assumption | exact ⟨by omega, by omega, by omega, by omega⟩))
        exact ih _ _ _ _ _ _ (hM24_2200.mono (by omega)) (by omega) (by omega)
      · refine ⟨by omega, ?_⟩
        refine ⟨by omega, ?_⟩
        intro x27_2202 ex27_2202 rx27_2202
        have rbx27_2202 : -2147483648 ≤ x27_2202 ∧ x27_2202 ≤ 2147483647 := rx27_2202
        first | (have bx27_2202 : -1 ≤ x27_2202 ∧ x27_2202 ≤ 5 := by rw [ex27_2202]; exact ((bm_n (Or.inr rfl)).mp (hI.bx _ _)).2.2.1 ⟨by omega, by omega⟩) | skip
        refine ⟨(by first | assumption | exact ⟨by omega, by omega⟩), ?_⟩
        refine ⟨fun c => ?_, fun c => ?_⟩
        · unfold qX12_misleads_J107
          refine ⟨by omega, ?_⟩
          refine ⟨by omega, ?_⟩
          intro x20_2204 ex20_2204 rx20_2204
          have rbx20_2204 : -2147483648 ≤ x20_2204 ∧ x20_2204 ≤ 2147483647 := rx20_2204
          first | (have bx20_2204 : -1 ≤ x20_2204 ∧ x20_2204 ≤ 5 := by rw [ex20_2204]; exact ((bm_n (Or.inr rfl)).mp (hI.bx _ _)).2.2.1 ⟨by omega, by omega⟩) | skip
          unfold qX12_misleads_J117
          refine ⟨by omega, ?_⟩
          refine ⟨by omega, ?_⟩
          refine ⟨(by first | assumption | exact ⟨by omega, by omega⟩), ?_⟩
          intro M24_2205 h_M24_2205
          have hM24_2205 : IM (b + 200 + 200 * v4) M24_2205 := by rw [h_M24_2205]; exact hI.up (by omega) ((bm_n (Or.inr rfl)).mpr (by first | assumption | exact ⟨by omega, by omega, by omega, by omega⟩))
          exact ih _ _ _ _ _ _ (hM24_2205.mono (by omega)) (by omega) (by omega)
        · unfold qX12_misleads_J117
          refine ⟨by omega, ?_⟩
          refine ⟨by omega, ?_⟩
          refine ⟨(by first | assumption | exact ⟨by omega, by omega⟩), ?_⟩
          intro M24_2207 h_M24_2207
          have hM24_2207 : IM (b + 200 + 200 * v4) M24_2207 := by rw [h_M24_2207]; exact hI.up (by omega) ((bm_n (Or.inr rfl)).mpr (by first | assumption | exact ⟨by omega, by omega, by omega, by omega⟩))
          exact ih _ _ _ _ _ _ (hM24_2207.mono (by omega)) (by omega) (by omega)
theorem sX12_misleads_L22  {X168 : Int → Int → Int → Mem → Prop} {Q : Int → Mem → Prop} {b : Int} (hb : b + 1600 ≤ 2000000000) (hQ : ∀ z : Int, ∀ M' : Mem, IM (b + 1600) M' → Q z M') (hX168 : ∀ w1 w2 w3 : Int, ∀ M' : Mem, IM (b + 1600) M' → (-2 ≤ w2 ∧ w2 ≤ 5 ∧ -1 ≤ w3 ∧ w3 ≤ 63) → X168 w1 w2 w3 M') : ∀ (n : Nat) (v1 v2 v3 v4 : Int) (M : Mem), IM (b + 200 + 200 * v4) M → (-2 ≤ v2 ∧ v2 ≤ 5 ∧ -1 ≤ v3 ∧ v3 ≤ 63 ∧ 0 ≤ v4 ∧ v4 ≤ 6) → 6 - v4 < (n : Int) → qX12_misleads_L22 X168 Q n v1 v2 v3 v4 M := by
  intro n
  induction n with
  | zero => intro v1 v2 v3 v4 M hI hv hm; exact absurd hm (by omega)
  | succ n ih =>
    intro v1 v2 v3 v4 M hI hv hm
    rw [qX12_misleads_L22]
    have hbn := hI.nn
    intro x4_2208 ex4_2208 rx4_2208
    have bx4_2208 : 0 ≤ x4_2208 ∧ x4_2208 ≤ 6 := by rw [ex4_2208]; exact bm_c1_4.mp (hI.bx _ _)
    refine ⟨(by first | assumption | exact ⟨by omega, by omega⟩), ?_⟩
    refine ⟨fun c => ?_, fun c => ?_⟩
    · exact hX168 _ _ _ _ (hI.mono (by omega)) (by omega)
    · refine sX12_isOn (p1 := v4) hI (Or.inl rfl) (by omega) ?_
      intro x7_2211 p2212 q2213 q2214
      refine ⟨fun c => ?_, fun c => ?_⟩
      · exact ih _ _ _ _ _ (hI.mono (by omega)) (by omega) (by omega)
      · refine sX12_copies  hI  ?_
        intro M9_2217 hM9_2217
        refine ⟨by omega, ?_⟩
        refine ⟨by omega, ?_⟩
        intro M12_2218 h_M12_2218
        have hM12_2218 : IM (b + 200 + 200 * v4) M12_2218 := by rw [h_M12_2218]; exact hM9_2217.up (by omega) ((bm_n (Or.inr rfl)).mpr (by first | assumption | exact ⟨by omega, by omega, by omega, by omega⟩))
        refine ⟨9, ?_⟩
        refine sX12_misleads_L58 (b := b)  (g1 := v1) (g2 := v2) (g3 := v3) (g4 := v4) hb ?_ ?_ _ _ _ _ _ _ _ (hM12_2218.mono (by omega)) (by omega) (by omega)
        · exact hQ
        · intro v1_2219 v2_2220 v3_2221 v4_2222 M_2223 hM_2223 p2224
          refine sX12_rightThen  hM_2223 (by omega) ?_
          intro x31_2225 q2226
          refine ⟨(by first | assumption | exact ⟨by omega, by omega⟩), ?_⟩
          refine sX12_owners (p1 := v4_2222) hM_2223  ?_
          intro x33_2227 q2228
          intro x34_2229 ex34_2229 rx34_2229
          intro x35_2230 ex35_2230 rx35_2230
          refine sJ6_bitCountM (p0 := x35_2230) hM_2223  ?_
          intro x36_2231 p2232 q2233
          refine ⟨(by first | assumption | exact ⟨by omega, by omega⟩), ?_⟩
          refine ⟨fun c => ?_, fun c => ?_⟩
          · unfold qX12_misleads_J154
            refine ⟨(by first | assumption | exact ⟨by omega, by omega⟩), ?_⟩
            refine ⟨(by first | assumption | exact ⟨by omega, by omega⟩), ?_⟩
            intro x41_2235 ex41_2235 rx41_2235
            exact ih _ _ _ _ _ (hM_2223.mono (by omega)) (by omega) (by omega)
          · unfold qX12_misleads_J154
            refine ⟨(by first | assumption | exact ⟨by omega, by omega⟩), ?_⟩
            refine ⟨(by first | assumption | exact ⟨by omega, by omega⟩), ?_⟩
            intro x41_2237 ex41_2237 rx41_2237
            exact ih _ _ _ _ _ (hM_2223.mono (by omega)) (by omega) (by omega)
theorem sX12_misleads  {b : Int} {M : Mem} {Q : Int → Mem → Prop} (hI : IM b M) (hb : b + 1600 ≤ 2000000000) (hQ : ∀ z : Int, ∀ M' : Mem, IM (b + 1600) M' → Q z M') : qX12_misleads M Q := by
  unfold qX12_misleads
  have hbn := hI.nn
  intro M1_2238 h_M1_2238
  have hM1_2238 : IM (b) M1_2238 := by rw [h_M1_2238]; exact hI.up (by omega) (by simp [BM])
  refine sX12_copies  hM1_2238  ?_
  intro M2_2239 hM2_2239
  refine sX12_rightThen  hM2_2239 (by omega) ?_
  intro x3_2240 q2241
  refine ⟨7, ?_⟩
  refine sX12_misleads_L22 (b := b)  hb ?_ ?_ _ _ _ _ _ _ (hM2_2239.mono (by omega)) (by omega) (by omega)
  · exact hQ
  · intro v1_2242 v2_2243 v3_2244 M_2245 hM_2245 p2246
    refine ⟨(by first | assumption | exact ⟨by omega, by omega⟩), ?_⟩
    refine ⟨fun c => ?_, fun c => ?_⟩
    · exact hQ _ _ (hM_2245.mono (by omega))
    · intro M45_2249 h_M45_2249
      have hM45_2249 : IM (b + 1600) M45_2249 := by rw [h_M45_2249]; exact hM_2245.up (by omega) (bm_c1_1.mpr ⟨by omega, by omega⟩)
      refine ⟨(by first | assumption | exact ⟨by omega, by omega⟩), ?_⟩
      have u2250 : 0 ≤ M45_2249 1 1 ∧ M45_2249 1 1 ≤ 24 := bm_c1_1.mp (hM45_2249.bx _ _)
      have t2251 : M45_2249 1 1 = 0 := by rw [h_M45_2249, up2_s]
      refine sX12_enters (p1 := v3_2244) hM45_2249 (by omega) ?_
      intro M47_2252 hM47_2252 p2253
      refine sX12_owners (p1 := v2_2243) hM47_2252  ?_
      intro x48_2254 q2255
      intro x49_2256 ex49_2256 rx49_2256
      intro x50_2257 ex50_2257 rx50_2257
      refine sJ6_bitCountM (p0 := x50_2257) hM47_2252  ?_
      intro x51_2258 p2259 q2260
      have u2261 : 0 ≤ M47_2252 1 1 ∧ M47_2252 1 1 ≤ 24 := bm_c1_1.mp (hM47_2252.bx _ _)
      refine sX12_enters (p1 := x51_2258) hM47_2252 (by omega) ?_
      intro M52_2262 hM52_2262 p2263
      exact hQ _ _ (hM52_2262.mono (by omega))
theorem sX12_crowd_L34  {X85 : Int → Mem → Prop} {Q : Int → Mem → Prop} {b : Int} (hb : b + 200 ≤ 2000000000) (hQ : ∀ z : Int, ∀ M' : Mem, IM (b + 200) M' → Q z M') (hX85 : ∀ w1 : Int, ∀ M' : Mem, IM (b + 200) M' → (0 ≤ w1 ∧ w1 ≤ 5) → X85 w1 M') : ∀ (n : Nat) (v1 v2 : Int) (M : Mem), IM (b + 200) M → (0 ≤ v1 ∧ v1 ≤ 5 ∧ 0 ≤ v2 ∧ v2 ≤ 6) → 6 - v2 < (n : Int) → qX12_crowd_L34 X85 Q n v1 v2 M := by
  intro n
  induction n with
  | zero => intro v1 v2 M hI hv hm; exact absurd hm (by omega)
  | succ n ih =>
    intro v1 v2 M hI hv hm
    rw [qX12_crowd_L34]
    have hbn := hI.nn
    intro x6_2264 ex6_2264 rx6_2264
    have bx6_2264 : 0 ≤ x6_2264 ∧ x6_2264 ≤ 6 := by rw [ex6_2264]; exact bm_c1_4.mp (hI.bx _ _)
    refine ⟨(by first | assumption | exact ⟨by omega, by omega⟩), ?_⟩
    refine ⟨fun c => ?_, fun c => ?_⟩
    · exact hX85 _ _ (hI.mono (by omega)) (by omega)
    · refine sX12_bitsBy (p2 := 29) (p3 := v2) hI (Or.inr rfl) (by omega) ?_
      intro x9_2267 q2268
      refine sJ6_bitCountM (p0 := x9_2267) hI  ?_
      intro x10_2269 p2270 q2271
      refine ⟨(by first | assumption | exact ⟨by omega, by omega⟩), ?_⟩
      refine sX12_bitsBy (p2 := 29) (p3 := v1) hI (Or.inr rfl) (by omega) ?_
      intro x12_2272 q2273
      refine sJ6_bitCountM (p0 := x12_2272) hI  ?_
      intro x13_2274 p2275 q2276
      refine ⟨fun c => ?_, fun c => ?_⟩
      · exact ih _ _ _ (hI.mono (by omega)) (by omega) (by omega)
      · exact ih _ _ _ (hI.mono (by omega)) (by omega) (by omega)
theorem sX12_crowd  {b : Int} {M : Mem} {Q : Int → Mem → Prop} (hI : IM b M) (hb : b + 200 ≤ 2000000000) (hQ : ∀ z : Int, ∀ M' : Mem, IM (b + 200) M' → Q z M') : qX12_crowd M Q := by
  unfold qX12_crowd
  have hbn := hI.nn
  intro M1_2279 h_M1_2279
  have hM1_2279 : IM (b) M1_2279 := by rw [h_M1_2279]; exact hI.up (by omega) (by simp [BM])
  intro x2_2280 ex2_2280 rx2_2280
  have bx2_2280 : 0 ≤ x2_2280 ∧ x2_2280 ≤ 6 := by rw [ex2_2280]; exact bm_c1_4.mp (hM1_2279.bx _ _)
  have fx2_2280 : x2_2280 = M 1 4 := by rw [ex2_2280, h_M1_2279, up2_j (by decide)]
  refine ⟨fun c => ?_, fun c => ?_⟩
  · refine sX12_copies  hM1_2279  ?_
    intro M4_2282 hM4_2282
    refine sX12_goesOn (p2 := 200) hM4_2282 (by omega) (Or.inr rfl) (by omega) ?_
    intro M5_2283 hM5_2283
    refine ⟨7, ?_⟩
    refine sX12_crowd_L34 (b := b)  hb ?_ ?_ _ _ _ _ (hM5_2283.mono (by omega)) (by omega) (by omega)
    · exact hQ
    · intro v1_2284 M_2285 hM_2285 p2286
      refine ⟨(by first | assumption | exact ⟨by omega, by omega⟩), ?_⟩
      refine sX12_bitsBy (p2 := 29) (p3 := v1_2284) hM_2285 (Or.inr rfl) (by omega) ?_
      intro x17_2287 q2288
      intro M18_2289 h_M18_2289
      have hM18_2289 : IM (b + 200) M18_2289 := by rw [h_M18_2289]; exact hM_2285.up (by omega) (bm_c1_1.mpr ⟨by omega, by omega⟩)
      refine sJ6_bitCountM (p0 := x17_2287) hM18_2289  ?_
      intro x19_2290 p2291 q2292
      have u2293 : 0 ≤ M18_2289 1 1 ∧ M18_2289 1 1 ≤ 24 := bm_c1_1.mp (hM18_2289.bx _ _)
      have t2294 : M18_2289 1 1 = 0 := by rw [h_M18_2289, up2_s]
      refine sX12_enters (p1 := x19_2290) hM18_2289 (by omega) ?_
      intro M20_2295 hM20_2295 p2296
      refine sX12_owners (p1 := v1_2284) hM20_2295  ?_
      intro x21_2297 q2298
      intro x22_2299 ex22_2299 rx22_2299
      refine sJ6_bitCountM (p0 := x22_2299) hM20_2295  ?_
      intro x23_2300 p2301 q2302
      have u2303 : 0 ≤ M20_2295 1 1 ∧ M20_2295 1 1 ≤ 24 := bm_c1_1.mp (hM20_2295.bx _ _)
      refine sX12_enters (p1 := x23_2300) hM20_2295 (by omega) ?_
      intro M24_2304 hM24_2304 p2305
      exact hQ _ _ (hM24_2304.mono (by omega))
  · exact hQ _ _ (hM1_2279.mono (by omega))
theorem sX12_shares {p1 : Int} {b : Int} {M : Mem} {Q : Int → Mem → Prop} (hI : IM b M) (hQ : ∀ z : Int, Q z M) : qX12_shares p1 M Q := sorry
theorem sX12_strangers_L31  {X128 : Int → Int → Int → Int → Mem → Prop} {Q : Int → Mem → Prop} {b : Int} {g0 : Int} (hQ : ∀ z : Int, ∀ M' : Mem, IM b M' → Q z M') (hX128 : ∀ w1 w2 w3 w4 : Int, ∀ M' : Mem, IM (b) M' → (w4 = g0 ∧ 0 ≤ w1 ∧ w1 ≤ 1000000 ∧ -1 ≤ w2 ∧ w2 ≤ 7 ∧ -1 ≤ w3 ∧ w3 ≤ 7) → X128 w1 w2 w3 w4 M') : ∀ (n : Nat) (v1 v2 v3 v4 v5 : Int) (M : Mem), IM (b) M → (v4 = g0 ∧ 0 ≤ v1 ∧ v1 ≤ 1000000 ∧ -1 ≤ v2 ∧ v2 ≤ 7 ∧ -1 ≤ v3 ∧ v3 ≤ 7 ∧ 0 ≤ v4 ∧ v4 ≤ 7 ∧ 0 ≤ v5 ∧ v5 ≤ 8) → 8 - v5 < (n : Int) → qX12_strangers_L31 X128 Q n v1 v2 v3 v4 v5 M := by
  intro n
  induction n with
  | zero => intro v1 v2 v3 v4 v5 M hI hv hm; exact absurd hm (by omega)
  | succ n ih =>
    intro v1 v2 v3 v4 v5 M hI hv hm
    rw [qX12_strangers_L31]
    have hbn := hI.nn
    intro x5_2307 ex5_2307 rx5_2307
    have bx5_2307 : 0 ≤ x5_2307 ∧ x5_2307 ≤ 8 := by rw [ex5_2307]; exact bm_c1_5.mp (hI.bx _ _)
    refine ⟨(by first | assumption | exact ⟨by omega, by omega⟩), ?_⟩
    refine ⟨fun c => ?_, fun c => ?_⟩
    · exact hX128 _ _ _ _ _ (hI.mono (by omega)) (by omega)
    · refine ⟨by omega, ?_⟩
      refine ⟨by omega, ?_⟩
      intro x10_2310 ex10_2310 rx10_2310
      have rbx10_2310 : -2147483648 ≤ x10_2310 ∧ x10_2310 ≤ 2147483647 := rx10_2310
      first | (have bx10_2310 : -1 ≤ x10_2310 ∧ x10_2310 ≤ 29 := by rw [ex10_2310]; exact ((bm_n (Or.inl rfl)).mp (hI.bx _ _)).2.1 ⟨by omega, by omega⟩) | skip
      refine ⟨by omega, ?_⟩
      refine ⟨by omega, ?_⟩
      intro x13_2311 ex13_2311 rx13_2311
      have rbx13_2311 : -2147483648 ≤ x13_2311 ∧ x13_2311 ≤ 2147483647 := rx13_2311
      first | (have bx13_2311 : -1 ≤ x13_2311 ∧ x13_2311 ≤ 29 := by rw [ex13_2311]; exact ((bm_n (Or.inl rfl)).mp (hI.bx _ _)).2.1 ⟨by omega, by omega⟩) | skip
      refine ⟨(by first | assumption | exact ⟨by omega, by omega⟩), ?_⟩
      intro x15_2312 px15_2312 nx15_2312
      have bx15_2312 : 0 ≤ x15_2312 ∧ (x10_2310 - x13_2311 = x15_2312 ∨ x10_2310 - x13_2311 = -x15_2312) := by omega
      refine ⟨by omega, ?_⟩
      refine ⟨by omega, ?_⟩
      intro x18_2313 ex18_2313 rx18_2313
      have bx18_2313 : 0 ≤ x18_2313 ∧ x18_2313 ≤ 5 := by rw [ex18_2313]; exact bm_c3.mp (hI.bx _ _)
      refine ⟨by omega, ?_⟩
      refine ⟨by omega, ?_⟩
      intro x21_2314 ex21_2314 rx21_2314
      have bx21_2314 : 0 ≤ x21_2314 ∧ x21_2314 ≤ 5 := by rw [ex21_2314]; exact bm_c3.mp (hI.bx _ _)
      refine ⟨fun c => ?_, fun c => ?_⟩
      · exact ih _ _ _ _ _ _ (hI.mono (by omega)) (by omega) (by omega)
      · refine ⟨(by first | assumption | exact ⟨by omega, by omega⟩), ?_⟩
        refine sX12_isEnded (p1 := v4) hI (Or.inl rfl) (by omega) ?_
        intro x24_2317 q2318 q2319
        refine ⟨fun c => ?_, fun c => ?_⟩
        · exact ih _ _ _ _ _ _ (hI.mono (by omega)) (by omega) (by omega)
        · refine sX12_isEnded (p1 := v5) hI (Or.inl rfl) (by omega) ?_
          intro x26_2322 q2323 q2324
          refine ⟨fun c => ?_, fun c => ?_⟩
          · exact ih _ _ _ _ _ _ (hI.mono (by omega)) (by omega) (by omega)
          · refine ⟨(by first | assumption | exact ⟨by omega, by omega⟩), ?_⟩
            refine ⟨(by first | assumption | exact ⟨by omega, by omega⟩), ?_⟩
            refine ⟨fun c => ?_, fun c => ?_⟩
            · exact ih _ _ _ _ _ _ (hI.mono (by omega)) (by omega) (by omega)
            · exact ih _ _ _ _ _ _ (hI.mono (by omega)) (by omega) (by omega)
theorem sX12_strangers_L16  {X134 : Int → Int → Int → Mem → Prop} {Q : Int → Mem → Prop} {b : Int} (hQ : ∀ z : Int, ∀ M' : Mem, IM b M' → Q z M') (hX134 : ∀ w1 w2 w3 : Int, ∀ M' : Mem, IM (b) M' → (0 ≤ w1 ∧ w1 ≤ 1000000 ∧ -1 ≤ w2 ∧ w2 ≤ 7 ∧ -1 ≤ w3 ∧ w3 ≤ 7) → X134 w1 w2 w3 M') : ∀ (n : Nat) (v1 v2 v3 v4 : Int) (M : Mem), IM (b) M → (0 ≤ v1 ∧ v1 ≤ 1000000 ∧ -1 ≤ v2 ∧ v2 ≤ 7 ∧ -1 ≤ v3 ∧ v3 ≤ 7 ∧ 0 ≤ v4 ∧ v4 ≤ 8) → 8 - v4 < (n : Int) → qX12_strangers_L16 X134 Q n v1 v2 v3 v4 M := by
  intro n
  induction n with
  | zero => intro v1 v2 v3 v4 M hI hv hm; exact absurd hm (by omega)
  | succ n ih =>
    intro v1 v2 v3 v4 M hI hv hm
    rw [qX12_strangers_L16]
    have hbn := hI.nn
    intro x2_2329 ex2_2329 rx2_2329
    have bx2_2329 : 0 ≤ x2_2329 ∧ x2_2329 ≤ 8 := by rw [ex2_2329]; exact bm_c1_5.mp (hI.bx _ _)
    refine ⟨(by first | assumption | exact ⟨by omega, by omega⟩), ?_⟩
    refine ⟨fun c => ?_, fun c => ?_⟩
    · exact hX134 _ _ _ _ (hI.mono (by omega)) (by omega)
    · refine ⟨9, ?_⟩
      refine sX12_strangers_L31 (b := b)  (g0 := v4) ?_ ?_ _ _ _ _ _ _ _ (hI.mono (by omega)) (by omega) (by omega)
      · exact hQ
      · intro v1_2332 v2_2333 v3_2334 v4_2335 M_2336 hM_2336 p2337
        exact ih _ _ _ _ _ (hM_2336.mono (by omega)) (by omega) (by omega)
theorem sX12_strangers  {b : Int} {M : Mem} {Q : Int → Mem → Prop} (hI : IM b M) (hQ : ∀ z : Int, ∀ M' : Mem, IM b M' → Q z M') : qX12_strangers M Q := by
  unfold qX12_strangers
  have hbn := hI.nn
  intro M1_2338 h_M1_2338
  have hM1_2338 : IM (b) M1_2338 := by rw [h_M1_2338]; exact hI.up (by omega) (by simp [BM])
  refine ⟨9, ?_⟩
  refine sX12_strangers_L16 (b := b)  ?_ ?_ _ _ _ _ _ _ (hM1_2338.mono (by omega)) (by omega) (by omega)
  · exact hQ
  · intro v1_2339 v2_2340 v3_2341 M_2342 hM_2342 p2343
    refine ⟨(by first | assumption | exact ⟨by omega, by omega⟩), ?_⟩
    refine ⟨fun c => ?_, fun c => ?_⟩
    · intro M35_2345 h_M35_2345
      have hM35_2345 : IM (b) M35_2345 := by rw [h_M35_2345]; exact hM_2342.up (by omega) (bm_c1_1.mpr ⟨by omega, by omega⟩)
      have u2346 : 0 ≤ M35_2345 1 1 ∧ M35_2345 1 1 ≤ 24 := bm_c1_1.mp (hM35_2345.bx _ _)
      have t2347 : M35_2345 1 1 = 0 := by rw [h_M35_2345, up2_s]
      refine sX12_enters (p1 := v2_2340) hM35_2345 (by omega) ?_
      intro M36_2348 hM36_2348 p2349
      refine ⟨(by first | assumption | exact ⟨by omega, by omega⟩), ?_⟩
      have u2350 : 0 ≤ M36_2348 1 1 ∧ M36_2348 1 1 ≤ 24 := bm_c1_1.mp (hM36_2348.bx _ _)
      refine sX12_enters (p1 := v3_2341) hM36_2348 (by omega) ?_
      intro M38_2351 hM38_2351 p2352
      refine ⟨(by first | assumption | exact ⟨by omega, by omega⟩), ?_⟩
      exact hQ _ _ (hM38_2351.mono (by omega))
    · exact hQ _ _ (hM_2342.mono (by omega))
theorem sX12_doubts_L41  {X127 : Int → Int → Int → Mem → Prop} {Q : Int → Mem → Prop} {b : Int} {g1 : Int} {g2 : Int} (hQ : ∀ z : Int, ∀ M' : Mem, IM b M' → Q z M') (hX127 : ∀ w1 w2 w3 : Int, ∀ M' : Mem, IM (b) M' → (w1 = g1 ∧ w2 = g2 ∧ 0 ≤ w3 ∧ w3 ≤ 6) → X127 w1 w2 w3 M') : ∀ (n : Nat) (v1 v2 v3 v4 v5 : Int) (M : Mem), IM (b) M → (v1 = g1 ∧ v2 = g2 ∧ 0 ≤ v2 ∧ v2 ≤ 7 ∧ -1 ≤ v3 ∧ v3 ≤ 5 ∧ 0 ≤ v4 ∧ v4 ≤ v5 ∧ v5 ≤ 6) → 6 - v5 < (n : Int) → qX12_doubts_L41 X127 Q n v1 v2 v3 v4 v5 M := by
  intro n
  induction n with
  | zero => intro v1 v2 v3 v4 v5 M hI hv hm; exact absurd hm (by omega)
  | succ n ih =>
    intro v1 v2 v3 v4 v5 M hI hv hm
    rw [qX12_doubts_L41]
    have hbn := hI.nn
    intro x9_2354 ex9_2354 rx9_2354
    have bx9_2354 : 0 ≤ x9_2354 ∧ x9_2354 ≤ 6 := by rw [ex9_2354]; exact bm_c1_4.mp (hI.bx _ _)
    refine ⟨(by first | assumption | exact ⟨by omega, by omega⟩), ?_⟩
    refine ⟨fun c => ?_, fun c => ?_⟩
    · exact hX127 _ _ _ _ (hI.mono (by omega)) (by omega)
    · refine ⟨(by first | assumption | exact ⟨by omega, by omega⟩), ?_⟩
      refine ⟨fun c => ?_, fun c => ?_⟩
      · exact hX127 _ _ _ _ (hI.mono (by omega)) (by omega)
      · refine sX12_isOn (p1 := v5) hI (Or.inl rfl) (by omega) ?_
        intro x14_2359 p2360 q2361 q2362
        refine ⟨fun c => ?_, fun c => ?_⟩
        · unfold qX12_doubts_J114
          unfold qX12_doubts_J115
          refine ⟨(by first | assumption | exact ⟨by omega, by omega⟩), ?_⟩
          refine sX12_flag (p0 := 0) hI  ?_
          intro x17_2364 p2365 q2366
          exact ih _ _ _ _ _ _ (hI.mono (by omega)) (by omega) (by omega)
        · refine ⟨by omega, ?_⟩
          refine ⟨by omega, ?_⟩
          intro x20_2368 ex20_2368 rx20_2368
          have rbx20_2368 : -2147483648 ≤ x20_2368 ∧ x20_2368 ≤ 2147483647 := rx20_2368
          have nbx20_2368 : BN (b) v5 x20_2368 := by rw [ex20_2368]; exact (bm_n (Or.inl rfl)).mp (hI.bx _ _)
          first | (have bx20_2368 : -1 ≤ x20_2368 ∧ x20_2368 ≤ 29 := nbx20_2368.1 ⟨by omega, by omega⟩) | (have bx20_2368 : -1 ≤ x20_2368 ∧ x20_2368 ≤ 29 := nbx20_2368.2.1 ⟨by omega, by omega⟩) | skip
          refine ⟨by omega, ?_⟩
          refine ⟨by omega, ?_⟩
          intro x23_2369 ex23_2369 rx23_2369
          have rbx23_2369 : -2147483648 ≤ x23_2369 ∧ x23_2369 ≤ 2147483647 := rx23_2369
          first | (have bx23_2369 : -1 ≤ x23_2369 ∧ x23_2369 ≤ 29 := by rw [ex23_2369]; exact ((bm_n (Or.inl rfl)).mp (hI.bx _ _)).2.1 ⟨by omega, by omega⟩) | skip
          refine ⟨(by first | assumption | exact ⟨by omega, by omega⟩), ?_⟩
          intro x25_2370 px25_2370 nx25_2370
          have bx25_2370 : 0 ≤ x25_2370 ∧ (x20_2368 - x23_2369 = x25_2370 ∨ x20_2368 - x23_2369 = -x25_2370) := by omega
          refine ⟨by omega, ?_⟩
          refine ⟨by omega, ?_⟩
          intro x28_2371 ex28_2371 rx28_2371
          have rbx28_2371 : -2147483648 ≤ x28_2371 ∧ x28_2371 ≤ 2147483647 := rx28_2371
          have nbx28_2371 : BN (b) v3 x28_2371 := by rw [ex28_2371]; exact (bm_n (Or.inl rfl)).mp (hI.bx _ _)
          first | (have bx28_2371 : -1 ≤ x28_2371 ∧ x28_2371 ≤ 29 := nbx28_2371.1 ⟨by omega, by omega⟩) | (have bx28_2371 : -1 ≤ x28_2371 ∧ x28_2371 ≤ 29 := nbx28_2371.2.1 ⟨by omega, by omega⟩) | skip
          intro x29_2372 ex29_2372 rx29_2372
          have rbx29_2372 : -2147483648 ≤ x29_2372 ∧ x29_2372 ≤ 2147483647 := rx29_2372
          first | (have bx29_2372 : -1 ≤ x29_2372 ∧ x29_2372 ≤ 29 := by rw [ex29_2372]; exact ((bm_n (Or.inl rfl)).mp (hI.bx _ _)).2.1 ⟨by omega, by omega⟩) | skip
          refine ⟨(by first | assumption | exact ⟨by omega, by omega⟩), ?_⟩
          intro x31_2373 px31_2373 nx31_2373
          have bx31_2373 : 0 ≤ x31_2373 ∧ (x28_2371 - x29_2372 = x31_2373 ∨ x28_2371 - x29_2372 = -x31_2373) := by omega
          refine ⟨(by first | assumption | exact ⟨by omega, by omega⟩), ?_⟩
          refine ⟨(by first | assumption | exact ⟨by omega, by omega⟩), ?_⟩
          refine ⟨fun c => ?_, fun c => ?_⟩
          · unfold qX12_doubts_J114
            unfold qX12_doubts_J115
            refine ⟨(by first | assumption | exact ⟨by omega, by omega⟩), ?_⟩
            refine sX12_flag (p0 := 0) hI  ?_
            intro x17_2375 p2376 q2377
            exact ih _ _ _ _ _ _ (hI.mono (by omega)) (by omega) (by omega)
          · unfold qX12_doubts_J115
            refine ⟨(by first | assumption | exact ⟨by omega, by omega⟩), ?_⟩
            refine sX12_flag (p0 := 1) hI  ?_
            intro x17_2379 p2380 q2381
            exact ih _ _ _ _ _ _ (hI.mono (by omega)) (by omega) (by omega)
theorem sX12_doubts_L9  {X160 : Int → Mem → Prop} {Q : Int → Mem → Prop} {b : Int} (hQ : ∀ z : Int, ∀ M' : Mem, IM b M' → Q z M') (hX160 : ∀ w1 : Int, ∀ M' : Mem, IM (b) M' → iR w1 → X160 w1 M') : ∀ (n : Nat) (v1 v2 : Int) (M : Mem), IM (b) M → (0 ≤ v2 ∧ v2 ≤ 8) → iR v1 → 8 - v2 < (n : Int) → qX12_doubts_L9 X160 Q n v1 v2 M := by
  intro n
  induction n with
  | zero => intro v1 v2 M hI hv hrv1 hm; exact absurd hm (by omega)
  | succ n ih =>
    intro v1 v2 M hI hv hrv1 hm
    rw [qX12_doubts_L9]
    have hbn := hI.nn
    intro x2_2382 ex2_2382 rx2_2382
    have bx2_2382 : 0 ≤ x2_2382 ∧ x2_2382 ≤ 8 := by rw [ex2_2382]; exact bm_c1_5.mp (hI.bx _ _)
    refine ⟨(by first | assumption | exact ⟨by omega, by omega⟩), ?_⟩
    refine ⟨fun c => ?_, fun c => ?_⟩
    · exact hX160 _ _ (hI.mono (by omega)) (by first | assumption | exact ⟨by omega, by omega⟩)
    · refine ⟨by omega, ?_⟩
      refine ⟨by omega, ?_⟩
      intro x7_2385 ex7_2385 rx7_2385
      have rbx7_2385 : -2147483648 ≤ x7_2385 ∧ x7_2385 ≤ 2147483647 := rx7_2385
      first | (have bx7_2385 : -1 ≤ x7_2385 ∧ x7_2385 ≤ 29 := by rw [ex7_2385]; exact ((bm_n (Or.inl rfl)).mp (hI.bx _ _)).2.1 ⟨by omega, by omega⟩) | skip
      refine sX12_nearest (p2 := x7_2385) hI (Or.inl rfl) (by omega) ?_
      intro x8_2386 p2387 q2388
      refine ⟨7, ?_⟩
      refine sX12_doubts_L41 (b := b)  (g1 := v1) (g2 := v2) ?_ ?_ _ _ _ _ _ _ _ (hI.mono (by omega)) (by omega) (by omega)
      · exact hQ
      · intro v1_2389 v2_2390 v4_2391 M_2392 hM_2392 p2393
        unfold qX12_doubts_J127
        refine ⟨(by first | assumption | exact ⟨by omega, by omega⟩), ?_⟩
        refine ⟨fun c => ?_, fun c => ?_⟩
        · intro x38_2395 ex38_2395 rx38_2395
          first | (have fx38_2395 := oI_64 (a := v1_2389) (b := 0) ⟨by omega, by omega⟩ ⟨by omega, by omega⟩; rw [← ex38_2395] at fx38_2395) | skip
          exact ih _ _ _ (hM_2392.mono (by omega)) (by omega) (by first | assumption | exact ⟨by omega, by omega⟩) (by omega)
        · refine ⟨(by first | assumption | exact ⟨by omega, by omega⟩), ?_⟩
          refine sX12_isEnded (p1 := v2_2390) hM_2392 (Or.inl rfl) (by omega) ?_
          intro x40_2397 q2398 q2399
          refine ⟨fun c => ?_, fun c => ?_⟩
          · intro x42_2401 ex42_2401 rx42_2401
            first | (have fx42_2401 := oI_64 (a := v1_2389) (b := 0) ⟨by omega, by omega⟩ ⟨by omega, by omega⟩; rw [← ex42_2401] at fx42_2401) | skip
            exact ih _ _ _ (hM_2392.mono (by omega)) (by omega) (by first | assumption | exact ⟨by omega, by omega⟩) (by omega)
          · intro x43_2403 ex43_2403 rx43_2403
            first | (have fx43_2403 := slI_1 (b := v2_2390) ⟨by omega, by omega⟩; rw [← ex43_2403] at fx43_2403) | skip
            intro x44_2404 ex44_2404 rx44_2404
            first | (have fx44_2404 := oI_64 (a := v1_2389) (b := x43_2403) ⟨by omega, by omega⟩ ⟨by omega, by omega⟩; rw [← ex44_2404] at fx44_2404) | skip
            exact ih _ _ _ (hM_2392.mono (by omega)) (by omega) (by first | assumption | exact ⟨by omega, by omega⟩) (by omega)
theorem sX12_doubts  {b : Int} {M : Mem} {Q : Int → Mem → Prop} (hI : IM b M) (hQ : ∀ z : Int, ∀ M' : Mem, IM b M' → Q z M') : qX12_doubts M Q := by
  unfold qX12_doubts
  have hbn := hI.nn
  intro M1_2405 h_M1_2405
  have hM1_2405 : IM (b) M1_2405 := by rw [h_M1_2405]; exact hI.up (by omega) (by simp [BM])
  refine ⟨9, ?_⟩
  refine sX12_doubts_L9 (b := b)  ?_ ?_ _ _ _ _ (hM1_2405.mono (by omega)) (by omega) (by first | assumption | exact ⟨by omega, by omega⟩) (by omega)
  · exact hQ
  · intro v1_2406 M_2407 hM_2407 r2408
    intro M46_2409 h_M46_2409
    have hM46_2409 : IM (b) M46_2409 := by rw [h_M46_2409]; exact hM_2407.up (by omega) (bm_c1_1.mpr ⟨by omega, by omega⟩)
    refine ⟨(by first | assumption | exact ⟨by omega, by omega⟩), ?_⟩
    refine sJ6_bitCountM (p0 := v1_2406) hM46_2409  ?_
    intro x48_2410 p2411 q2412
    have u2413 : 0 ≤ M46_2409 1 1 ∧ M46_2409 1 1 ≤ 24 := bm_c1_1.mp (hM46_2409.bx _ _)
    have t2414 : M46_2409 1 1 = 0 := by rw [h_M46_2409, up2_s]
    refine sX12_enters (p1 := x48_2410) hM46_2409 (by omega) ?_
    intro M49_2415 hM49_2415 p2416
    exact hQ _ _ (hM49_2415.mono (by omega))
theorem sX12_heard {p1 : Int} {p2 : Int} {b : Int} {M : Mem} {Q : Int → Mem → Prop} (hI : IM b M) (hp : -2147483648 ≤ p2 ∧ p2 ≤ 2147483647) (hQ : ∀ z : Int, ∀ M' : Mem, IM b M' → Q z M') : qX12_heard p1 p2 M Q := by
  unfold qX12_heard
  have hbn := hI.nn
  intro M1_2417 h_M1_2417
  have hM1_2417 : IM (b) M1_2417 := by rw [h_M1_2417]; exact hI.up (by omega) (by simp [BM])
  refine ⟨fun c => ?_, fun c => ?_⟩
  · refine ⟨fun c => ?_, fun c => ?_⟩
    · unfold qX12_heard_J26
      refine sX12_in (p0 := p1) (p2 := 0) (p4 := 3) hM1_2417  ?_
      intro x4_2420 p2421 q2422 q2423
      refine ⟨fun c => ?_, fun c => ?_⟩
      · exact hQ _ _ (hM1_2417.mono (by omega))
      · refine ⟨fun c => ?_, fun c => ?_⟩
        · unfold qX12_heard_J51
          refine ⟨(by first | assumption | exact ⟨by omega, by omega⟩), ?_⟩
          refine sX12_flag (p0 := 0) hM1_2417  ?_
          intro x8_2427 p2428 q2429
          refine ⟨(by first | assumption | exact ⟨by omega, by omega⟩), ?_⟩
          refine ⟨(by first | assumption | exact ⟨by omega, by omega⟩ | exact iR_lR (by assumption)), ?_⟩
          refine sX12_in (p0 := p2) (p2 := x8_2427) (p4 := 8) hM1_2417  ?_
          intro x11_2430 p2431 q2432 q2433
          refine ⟨fun c => ?_, fun c => ?_⟩
          · exact hQ _ _ (hM1_2417.mono (by omega))
          · intro x13_2436 ex13_2436 rx13_2436
            have bx13_2436 : 0 ≤ x13_2436 ∧ x13_2436 ≤ 8 := by rw [ex13_2436]; exact bm_c1_45.mp (hM1_2417.bx _ _)
            have fx13_2436 : x13_2436 = M 1 45 := by rw [ex13_2436, h_M1_2417, up2_j (by decide)]
            refine ⟨fun c => ?_, fun c => ?_⟩
            · intro x15_2438 ex15_2438 rx15_2438
              have bx15_2438 : 0 ≤ x15_2438 ∧ x15_2438 ≤ 8 := by rw [ex15_2438]; exact bm_c1_45.mp (hM1_2417.bx _ _)
              have fx15_2438 : x15_2438 = M 1 45 := by rw [ex15_2438, h_M1_2417, up2_j (by decide)]
              refine ⟨by omega, ?_⟩
              refine ⟨by omega, ?_⟩
              intro M18_2439 h_M18_2439
              have hM18_2439 : IM (b) M18_2439 := by rw [h_M18_2439]; exact hM1_2417.up (by omega) (by simp [BM])
              intro x19_2440 ex19_2440 rx19_2440
              have bx19_2440 : 0 ≤ x19_2440 ∧ x19_2440 ≤ 8 := by rw [ex19_2440]; exact bm_c1_45.mp (hM18_2439.bx _ _)
              have fx19_2440 : x19_2440 = M 1 45 := by rw [ex19_2440, h_M18_2439, up2_n (by decide), h_M1_2417, up2_j (by decide)]
              refine ⟨by omega, ?_⟩
              refine ⟨by omega, ?_⟩
              intro M22_2441 h_M22_2441
              have hM22_2441 : IM (b) M22_2441 := by rw [h_M22_2441]; exact hM18_2439.up (by omega) (by simp [BM])
              intro x23_2442 ex23_2442 rx23_2442
              have bx23_2442 : 0 ≤ x23_2442 ∧ x23_2442 ≤ 8 := by rw [ex23_2442]; exact bm_c1_45.mp (hM22_2441.bx _ _)
              have fx23_2442 : x23_2442 = M 1 45 := by rw [ex23_2442, h_M22_2441, up2_n (by decide), h_M18_2439, up2_n (by decide), h_M1_2417, up2_j (by decide)]
              refine ⟨(by first | assumption | exact ⟨by omega, by omega⟩), ?_⟩
              intro M25_2443 h_M25_2443
              have hM25_2443 : IM (b) M25_2443 := by rw [h_M25_2443]; exact hM22_2441.up (by omega) (bm_c1_45.mpr ⟨by omega, by omega⟩)
              intro x26_2444 ex26_2444 rx26_2444
              have bx26_2444 : 0 ≤ x26_2444 ∧ x26_2444 ≤ 8 := by rw [ex26_2444]; exact bm_c1_45.mp (hM25_2443.bx _ _)
              have fx26_2444 : x26_2444 = x23_2442 + 1 := by rw [ex26_2444, h_M25_2443, up2_s]
              exact hQ _ _ (hM25_2443.mono (by omega))
            · exact hQ _ _ (hM1_2417.mono (by omega))
        · unfold qX12_heard_J51
          refine ⟨(by first | assumption | exact ⟨by omega, by omega⟩), ?_⟩
          refine sX12_flag (p0 := 1) hM1_2417  ?_
          intro x8_2447 p2448 q2449
          refine ⟨(by first | assumption | exact ⟨by omega, by omega⟩), ?_⟩
          refine ⟨(by first | assumption | exact ⟨by omega, by omega⟩ | exact iR_lR (by assumption)), ?_⟩
          refine sX12_in (p0 := p2) (p2 := x8_2447) (p4 := 8) hM1_2417  ?_
          intro x11_2450 p2451 q2452 q2453
          refine ⟨fun c => ?_, fun c => ?_⟩
          · exact hQ _ _ (hM1_2417.mono (by omega))
          · intro x13_2456 ex13_2456 rx13_2456
            have bx13_2456 : 0 ≤ x13_2456 ∧ x13_2456 ≤ 8 := by rw [ex13_2456]; exact bm_c1_45.mp (hM1_2417.bx _ _)
            have fx13_2456 : x13_2456 = M 1 45 := by rw [ex13_2456, h_M1_2417, up2_j (by decide)]
            refine ⟨fun c => ?_, fun c => ?_⟩
            · intro x15_2458 ex15_2458 rx15_2458
              have bx15_2458 : 0 ≤ x15_2458 ∧ x15_2458 ≤ 8 := by rw [ex15_2458]; exact bm_c1_45.mp (hM1_2417.bx _ _)
              have fx15_2458 : x15_2458 = M 1 45 := by rw [ex15_2458, h_M1_2417, up2_j (by decide)]
              refine ⟨by omega, ?_⟩
              refine ⟨by omega, ?_⟩
              intro M18_2459 h_M18_2459
              have hM18_2459 : IM (b) M18_2459 := by rw [h_M18_2459]; exact hM1_2417.up (by omega) (by simp [BM])
              intro x19_2460 ex19_2460 rx19_2460
              have bx19_2460 : 0 ≤ x19_2460 ∧ x19_2460 ≤ 8 := by rw [ex19_2460]; exact bm_c1_45.mp (hM18_2459.bx _ _)
              have fx19_2460 : x19_2460 = M 1 45 := by rw [ex19_2460, h_M18_2459, up2_n (by decide), h_M1_2417, up2_j (by decide)]
              refine ⟨by omega, ?_⟩
              refine ⟨by omega, ?_⟩
              intro M22_2461 h_M22_2461
              have hM22_2461 : IM (b) M22_2461 := by rw [h_M22_2461]; exact hM18_2459.up (by omega) (by simp [BM])
              intro x23_2462 ex23_2462 rx23_2462
              have bx23_2462 : 0 ≤ x23_2462 ∧ x23_2462 ≤ 8 := by rw [ex23_2462]; exact bm_c1_45.mp (hM22_2461.bx _ _)
              have fx23_2462 : x23_2462 = M 1 45 := by rw [ex23_2462, h_M22_2461, up2_n (by decide), h_M18_2459, up2_n (by decide), h_M1_2417, up2_j (by decide)]
              refine ⟨(by first | assumption | exact ⟨by omega, by omega⟩), ?_⟩
              intro M25_2463 h_M25_2463
              have hM25_2463 : IM (b) M25_2463 := by rw [h_M25_2463]; exact hM22_2461.up (by omega) (bm_c1_45.mpr ⟨by omega, by omega⟩)
              intro x26_2464 ex26_2464 rx26_2464
              have bx26_2464 : 0 ≤ x26_2464 ∧ x26_2464 ≤ 8 := by rw [ex26_2464]; exact bm_c1_45.mp (hM25_2463.bx _ _)
              have fx26_2464 : x26_2464 = x23_2462 + 1 := by rw [ex26_2464, h_M25_2463, up2_s]
              exact hQ _ _ (hM25_2463.mono (by omega))
            · exact hQ _ _ (hM1_2417.mono (by omega))
    · unfold qX12_heard_J26
      refine sX12_in (p0 := p1) (p2 := 0) (p4 := 3) hM1_2417  ?_
      intro x4_2467 p2468 q2469 q2470
      refine ⟨fun c => ?_, fun c => ?_⟩
      · exact hQ _ _ (hM1_2417.mono (by omega))
      · refine ⟨fun c => ?_, fun c => ?_⟩
        · unfold qX12_heard_J51
          refine ⟨(by first | assumption | exact ⟨by omega, by omega⟩), ?_⟩
          refine sX12_flag (p0 := 0) hM1_2417  ?_
          intro x8_2474 p2475 q2476
          refine ⟨(by first | assumption | exact ⟨by omega, by omega⟩), ?_⟩
          refine ⟨(by first | assumption | exact ⟨by omega, by omega⟩ | exact iR_lR (by assumption)), ?_⟩
          refine sX12_in (p0 := p2) (p2 := x8_2474) (p4 := 1) hM1_2417  ?_
          intro x11_2477 p2478 q2479 q2480
          refine ⟨fun c => ?_, fun c => ?_⟩
          · exact hQ _ _ (hM1_2417.mono (by omega))
          · intro x13_2483 ex13_2483 rx13_2483
            have bx13_2483 : 0 ≤ x13_2483 ∧ x13_2483 ≤ 8 := by rw [ex13_2483]; exact bm_c1_45.mp (hM1_2417.bx _ _)
            have fx13_2483 : x13_2483 = M 1 45 := by rw [ex13_2483, h_M1_2417, up2_j (by decide)]
            refine ⟨fun c => ?_, fun c => ?_⟩
            · intro x15_2485 ex15_2485 rx15_2485
              have bx15_2485 : 0 ≤ x15_2485 ∧ x15_2485 ≤ 8 := by rw [ex15_2485]; exact bm_c1_45.mp (hM1_2417.bx _ _)
              have fx15_2485 : x15_2485 = M 1 45 := by rw [ex15_2485, h_M1_2417, up2_j (by decide)]
              refine ⟨by omega, ?_⟩
              refine ⟨by omega, ?_⟩
              intro M18_2486 h_M18_2486
              have hM18_2486 : IM (b) M18_2486 := by rw [h_M18_2486]; exact hM1_2417.up (by omega) (by simp [BM])
              intro x19_2487 ex19_2487 rx19_2487
              have bx19_2487 : 0 ≤ x19_2487 ∧ x19_2487 ≤ 8 := by rw [ex19_2487]; exact bm_c1_45.mp (hM18_2486.bx _ _)
              have fx19_2487 : x19_2487 = M 1 45 := by rw [ex19_2487, h_M18_2486, up2_n (by decide), h_M1_2417, up2_j (by decide)]
              refine ⟨by omega, ?_⟩
              refine ⟨by omega, ?_⟩
              intro M22_2488 h_M22_2488
              have hM22_2488 : IM (b) M22_2488 := by rw [h_M22_2488]; exact hM18_2486.up (by omega) (by simp [BM])
              intro x23_2489 ex23_2489 rx23_2489
              have bx23_2489 : 0 ≤ x23_2489 ∧ x23_2489 ≤ 8 := by rw [ex23_2489]; exact bm_c1_45.mp (hM22_2488.bx _ _)
              have fx23_2489 : x23_2489 = M 1 45 := by rw [ex23_2489, h_M22_2488, up2_n (by decide), h_M18_2486, up2_n (by decide), h_M1_2417, up2_j (by decide)]
              refine ⟨(by first | assumption | exact ⟨by omega, by omega⟩), ?_⟩
              intro M25_2490 h_M25_2490
              have hM25_2490 : IM (b) M25_2490 := by rw [h_M25_2490]; exact hM22_2488.up (by omega) (bm_c1_45.mpr ⟨by omega, by omega⟩)
              intro x26_2491 ex26_2491 rx26_2491
              have bx26_2491 : 0 ≤ x26_2491 ∧ x26_2491 ≤ 8 := by rw [ex26_2491]; exact bm_c1_45.mp (hM25_2490.bx _ _)
              have fx26_2491 : x26_2491 = x23_2489 + 1 := by rw [ex26_2491, h_M25_2490, up2_s]
              exact hQ _ _ (hM25_2490.mono (by omega))
            · exact hQ _ _ (hM1_2417.mono (by omega))
        · unfold qX12_heard_J51
          refine ⟨(by first | assumption | exact ⟨by omega, by omega⟩), ?_⟩
          refine sX12_flag (p0 := 1) hM1_2417  ?_
          intro x8_2494 p2495 q2496
          refine ⟨(by first | assumption | exact ⟨by omega, by omega⟩), ?_⟩
          refine ⟨(by first | assumption | exact ⟨by omega, by omega⟩ | exact iR_lR (by assumption)), ?_⟩
          refine sX12_in (p0 := p2) (p2 := x8_2494) (p4 := 1) hM1_2417  ?_
          intro x11_2497 p2498 q2499 q2500
          refine ⟨fun c => ?_, fun c => ?_⟩
          · exact hQ _ _ (hM1_2417.mono (by omega))
          · intro x13_2503 ex13_2503 rx13_2503
            have bx13_2503 : 0 ≤ x13_2503 ∧ x13_2503 ≤ 8 := by rw [ex13_2503]; exact bm_c1_45.mp (hM1_2417.bx _ _)
            have fx13_2503 : x13_2503 = M 1 45 := by rw [ex13_2503, h_M1_2417, up2_j (by decide)]
            refine ⟨fun c => ?_, fun c => ?_⟩
            · intro x15_2505 ex15_2505 rx15_2505
              have bx15_2505 : 0 ≤ x15_2505 ∧ x15_2505 ≤ 8 := by rw [ex15_2505]; exact bm_c1_45.mp (hM1_2417.bx _ _)
              have fx15_2505 : x15_2505 = M 1 45 := by rw [ex15_2505, h_M1_2417, up2_j (by decide)]
              refine ⟨by omega, ?_⟩
              refine ⟨by omega, ?_⟩
              intro M18_2506 h_M18_2506
              have hM18_2506 : IM (b) M18_2506 := by rw [h_M18_2506]; exact hM1_2417.up (by omega) (by simp [BM])
              intro x19_2507 ex19_2507 rx19_2507
              have bx19_2507 : 0 ≤ x19_2507 ∧ x19_2507 ≤ 8 := by rw [ex19_2507]; exact bm_c1_45.mp (hM18_2506.bx _ _)
              have fx19_2507 : x19_2507 = M 1 45 := by rw [ex19_2507, h_M18_2506, up2_n (by decide), h_M1_2417, up2_j (by decide)]
              refine ⟨by omega, ?_⟩
              refine ⟨by omega, ?_⟩
              intro M22_2508 h_M22_2508
              have hM22_2508 : IM (b) M22_2508 := by rw [h_M22_2508]; exact hM18_2506.up (by omega) (by simp [BM])
              intro x23_2509 ex23_2509 rx23_2509
              have bx23_2509 : 0 ≤ x23_2509 ∧ x23_2509 ≤ 8 := by rw [ex23_2509]; exact bm_c1_45.mp (hM22_2508.bx _ _)
              have fx23_2509 : x23_2509 = M 1 45 := by rw [ex23_2509, h_M22_2508, up2_n (by decide), h_M18_2506, up2_n (by decide), h_M1_2417, up2_j (by decide)]
              refine ⟨(by first | assumption | exact ⟨by omega, by omega⟩), ?_⟩
              intro M25_2510 h_M25_2510
              have hM25_2510 : IM (b) M25_2510 := by rw [h_M25_2510]; exact hM22_2508.up (by omega) (bm_c1_45.mpr ⟨by omega, by omega⟩)
              intro x26_2511 ex26_2511 rx26_2511
              have bx26_2511 : 0 ≤ x26_2511 ∧ x26_2511 ≤ 8 := by rw [ex26_2511]; exact bm_c1_45.mp (hM25_2510.bx _ _)
              have fx26_2511 : x26_2511 = x23_2509 + 1 := by rw [ex26_2511, h_M25_2510, up2_s]
              exact hQ _ _ (hM25_2510.mono (by omega))
            · exact hQ _ _ (hM1_2417.mono (by omega))
  · unfold qX12_heard_J26
    refine sX12_in (p0 := p1) (p2 := 0) (p4 := 3) hM1_2417  ?_
    intro x4_2514 p2515 q2516 q2517
    refine ⟨fun c => ?_, fun c => ?_⟩
    · exact hQ _ _ (hM1_2417.mono (by omega))
    · refine ⟨fun c => ?_, fun c => ?_⟩
      · unfold qX12_heard_J51
        refine ⟨(by first | assumption | exact ⟨by omega, by omega⟩), ?_⟩
        refine sX12_flag (p0 := 0) hM1_2417  ?_
        intro x8_2521 p2522 q2523
        refine ⟨(by first | assumption | exact ⟨by omega, by omega⟩), ?_⟩
        refine ⟨(by first | assumption | exact ⟨by omega, by omega⟩ | exact iR_lR (by assumption)), ?_⟩
        refine sX12_in (p0 := p2) (p2 := x8_2521) (p4 := 6) hM1_2417  ?_
        intro x11_2524 p2525 q2526 q2527
        refine ⟨fun c => ?_, fun c => ?_⟩
        · exact hQ _ _ (hM1_2417.mono (by omega))
        · intro x13_2530 ex13_2530 rx13_2530
          have bx13_2530 : 0 ≤ x13_2530 ∧ x13_2530 ≤ 8 := by rw [ex13_2530]; exact bm_c1_45.mp (hM1_2417.bx _ _)
          have fx13_2530 : x13_2530 = M 1 45 := by rw [ex13_2530, h_M1_2417, up2_j (by decide)]
          refine ⟨fun c => ?_, fun c => ?_⟩
          · intro x15_2532 ex15_2532 rx15_2532
            have bx15_2532 : 0 ≤ x15_2532 ∧ x15_2532 ≤ 8 := by rw [ex15_2532]; exact bm_c1_45.mp (hM1_2417.bx _ _)
            have fx15_2532 : x15_2532 = M 1 45 := by rw [ex15_2532, h_M1_2417, up2_j (by decide)]
            refine ⟨by omega, ?_⟩
            refine ⟨by omega, ?_⟩
            intro M18_2533 h_M18_2533
            have hM18_2533 : IM (b) M18_2533 := by rw [h_M18_2533]; exact hM1_2417.up (by omega) (by simp [BM])
            intro x19_2534 ex19_2534 rx19_2534
            have bx19_2534 : 0 ≤ x19_2534 ∧ x19_2534 ≤ 8 := by rw [ex19_2534]; exact bm_c1_45.mp (hM18_2533.bx _ _)
            have fx19_2534 : x19_2534 = M 1 45 := by rw [ex19_2534, h_M18_2533, up2_n (by decide), h_M1_2417, up2_j (by decide)]
            refine ⟨by omega, ?_⟩
            refine ⟨by omega, ?_⟩
            intro M22_2535 h_M22_2535
            have hM22_2535 : IM (b) M22_2535 := by rw [h_M22_2535]; exact hM18_2533.up (by omega) (by simp [BM])
            intro x23_2536 ex23_2536 rx23_2536
            have bx23_2536 : 0 ≤ x23_2536 ∧ x23_2536 ≤ 8 := by rw [ex23_2536]; exact bm_c1_45.mp (hM22_2535.bx _ _)
            have fx23_2536 : x23_2536 = M 1 45 := by rw [ex23_2536, h_M22_2535, up2_n (by decide), h_M18_2533, up2_n (by decide), h_M1_2417, up2_j (by decide)]
            refine ⟨(by first | assumption | exact ⟨by omega, by omega⟩), ?_⟩
            intro M25_2537 h_M25_2537
            have hM25_2537 : IM (b) M25_2537 := by rw [h_M25_2537]; exact hM22_2535.up (by omega) (bm_c1_45.mpr ⟨by omega, by omega⟩)
            intro x26_2538 ex26_2538 rx26_2538
            have bx26_2538 : 0 ≤ x26_2538 ∧ x26_2538 ≤ 8 := by rw [ex26_2538]; exact bm_c1_45.mp (hM25_2537.bx _ _)
            have fx26_2538 : x26_2538 = x23_2536 + 1 := by rw [ex26_2538, h_M25_2537, up2_s]
            exact hQ _ _ (hM25_2537.mono (by omega))
          · exact hQ _ _ (hM1_2417.mono (by omega))
      · unfold qX12_heard_J51
        refine ⟨(by first | assumption | exact ⟨by omega, by omega⟩), ?_⟩
        refine sX12_flag (p0 := 1) hM1_2417  ?_
        intro x8_2541 p2542 q2543
        refine ⟨(by first | assumption | exact ⟨by omega, by omega⟩), ?_⟩
        refine ⟨(by first | assumption | exact ⟨by omega, by omega⟩ | exact iR_lR (by assumption)), ?_⟩
        refine sX12_in (p0 := p2) (p2 := x8_2541) (p4 := 6) hM1_2417  ?_
        intro x11_2544 p2545 q2546 q2547
        refine ⟨fun c => ?_, fun c => ?_⟩
        · exact hQ _ _ (hM1_2417.mono (by omega))
        · intro x13_2550 ex13_2550 rx13_2550
          have bx13_2550 : 0 ≤ x13_2550 ∧ x13_2550 ≤ 8 := by rw [ex13_2550]; exact bm_c1_45.mp (hM1_2417.bx _ _)
          have fx13_2550 : x13_2550 = M 1 45 := by rw [ex13_2550, h_M1_2417, up2_j (by decide)]
          refine ⟨fun c => ?_, fun c => ?_⟩
          · intro x15_2552 ex15_2552 rx15_2552
            have bx15_2552 : 0 ≤ x15_2552 ∧ x15_2552 ≤ 8 := by rw [ex15_2552]; exact bm_c1_45.mp (hM1_2417.bx _ _)
            have fx15_2552 : x15_2552 = M 1 45 := by rw [ex15_2552, h_M1_2417, up2_j (by decide)]
            refine ⟨by omega, ?_⟩
            refine ⟨by omega, ?_⟩
            intro M18_2553 h_M18_2553
            have hM18_2553 : IM (b) M18_2553 := by rw [h_M18_2553]; exact hM1_2417.up (by omega) (by simp [BM])
            intro x19_2554 ex19_2554 rx19_2554
            have bx19_2554 : 0 ≤ x19_2554 ∧ x19_2554 ≤ 8 := by rw [ex19_2554]; exact bm_c1_45.mp (hM18_2553.bx _ _)
            have fx19_2554 : x19_2554 = M 1 45 := by rw [ex19_2554, h_M18_2553, up2_n (by decide), h_M1_2417, up2_j (by decide)]
            refine ⟨by omega, ?_⟩
            refine ⟨by omega, ?_⟩
            intro M22_2555 h_M22_2555
            have hM22_2555 : IM (b) M22_2555 := by rw [h_M22_2555]; exact hM18_2553.up (by omega) (by simp [BM])
            intro x23_2556 ex23_2556 rx23_2556
            have bx23_2556 : 0 ≤ x23_2556 ∧ x23_2556 ≤ 8 := by rw [ex23_2556]; exact bm_c1_45.mp (hM22_2555.bx _ _)
            have fx23_2556 : x23_2556 = M 1 45 := by rw [ex23_2556, h_M22_2555, up2_n (by decide), h_M18_2553, up2_n (by decide), h_M1_2417, up2_j (by decide)]
            refine ⟨(by first | assumption | exact ⟨by omega, by omega⟩), ?_⟩
            intro M25_2557 h_M25_2557
            have hM25_2557 : IM (b) M25_2557 := by rw [h_M25_2557]; exact hM22_2555.up (by omega) (bm_c1_45.mpr ⟨by omega, by omega⟩)
            intro x26_2558 ex26_2558 rx26_2558
            have bx26_2558 : 0 ≤ x26_2558 ∧ x26_2558 ≤ 8 := by rw [ex26_2558]; exact bm_c1_45.mp (hM25_2557.bx _ _)
            have fx26_2558 : x26_2558 = x23_2556 + 1 := by rw [ex26_2558, h_M25_2557, up2_s]
            exact hQ _ _ (hM25_2557.mono (by omega))
          · exact hQ _ _ (hM1_2417.mono (by omega))
theorem sX12_forget  {b : Int} {M : Mem} {Q : Int → Mem → Prop} (hI : IM b M) (hQ : ∀ z : Int, ∀ M' : Mem, IM b M' → Q z M') : qX12_forget M Q := by
  unfold qX12_forget
  have hbn := hI.nn
  intro M1_2560 h_M1_2560
  have hM1_2560 : IM (b) M1_2560 := by rw [h_M1_2560]; exact hI.up (by omega) (by simp [BM])
  intro x2_2561 ex2_2561 rx2_2561
  have bx2_2561 : 0 ≤ x2_2561 ∧ x2_2561 ≤ 8 := by rw [ex2_2561]; exact bm_c1_45.mp (hM1_2560.bx _ _)
  have fx2_2561 : x2_2561 = M 1 45 := by rw [ex2_2561, h_M1_2560, up2_j (by decide)]
  intro M3_2562 h_M3_2562
  have hM3_2562 : IM (b) M3_2562 := by rw [h_M3_2562]; exact hM1_2560.up (by omega) (bm_c1_45.mpr ⟨by omega, by omega⟩)
  exact hQ _ _ (hM3_2562.mono (by omega))
