theorem sX10_advance_L64 {k1 : Nat} {k2 : Nat}  {Q : Mem → Prop} (hk1 : isS k1) (hk2 : isL k2) (hQ : ∀ M' : Mem, IX M' → Q M') : ∀ (n : Nat) (v4 : Int) (M : Mem), IX M → (0 ≤ v4 ∧ v4 ≤ 8) → 8 - v4 < (n : Int) → qX10_advance_L64 k1 k2 Q n v4 M := by
  intro n
  induction n with
  | zero => intro v4 M hI hv hm; exact absurd hm (by omega)
  | succ n ih =>
    intro v4 M hI hv hm
    rw [qX10_advance_L64]
    have ek1 : 0 < k1 ∧ k1 < 155 ∧ (k1 - 1) % 7 = 0 := hk1
    have ek2 : k2 = 187 ∨ k2 = 192 := hk2
    intro x13_943 ex13_943 rx13_943
    have bx13_943 : 0 ≤ x13_943 ∧ x13_943 ≤ 8 := by rw [ex13_943]; exact (bx_s0_7 hk1).mp (hI.bx _ _)
    refine ⟨(by first | assumption | exact ⟨by omega, by omega⟩), ?_⟩
    refine ⟨fun c => ?_, fun c => ?_⟩
    · intro x16_945 ex16_945 rx16_945
      have bx16_945 : -2147483648 ≤ x16_945 ∧ x16_945 ≤ 2147483647 := rx16_945
      intro x17_946 ex17_946 rx17_946
      first | (have fx17_946 : x17_946 = x16_945 + 1 := by rw [ex17_946]; exact w32_id ⟨by omega, by omega⟩) | skip
      intro M18_947 h_M18_947
      have hM18_947 : IX M18_947 := by rw [h_M18_947]; exact hI.up (isS.nsp hk1 0 (by decide)) (bx_sf0 hk1 (by decide) (by decide))
      exact hQ _ hM18_947
    · refine sX6_hasEnded (p1 := v4) hI hk1 (by omega) ?_
      intro x19_949 q950 q951
      refine ⟨fun c => ?_, fun c => ?_⟩
      · exact ih _ _ hI (by omega) (by omega)
      · refine sX10_moveMourner (p2 := v4) hI hk1 (by omega) ?_
        intro M21_954 hM21_954
        exact ih _ _ hM21_954 (by omega) (by omega)
theorem sX10_advance {k1 : Nat} {k2 : Nat} {M : Mem} {Q : Mem → Prop} (hI : IX M) (hk1 : isS k1) (hk2 : isL k2) (hQ : ∀ M' : Mem, IX M' → Q M') : qX10_advance k1 k2 M Q := by
  unfold qX10_advance
  have ek1 : 0 < k1 ∧ k1 < 155 ∧ (k1 - 1) % 7 = 0 := hk1
  have ek2 : k2 = 187 ∨ k2 = 192 := hk2
  intro M1_955 h_M1_955
  have hM1_955 : IX M1_955 := by rw [h_M1_955]; exact hI.up (by decide) (by simp [BX])
  intro x2_956 ex2_956 rx2_956
  have bx2_956 : 4 ≤ x2_956 ∧ x2_956 ≤ 30 := by rw [ex2_956]; exact (bx_c158_1).mp (hM1_955.bx _ _)
  have fx2_956 : x2_956 = M 158 1 := by rw [ex2_956, h_M1_955, up2_n (by decide)]
  refine ⟨7, ?_⟩
  refine sX10_advance_L16 hk1 hk2 ?_ ?_ ?_ _ _ _ _ hM1_955 (by omega) (by omega)
  · exact hQ
  · intro M_957 hM_957
    refine ⟨9, ?_⟩
    refine sX10_advance_L64 hk1 hk2 ?_ _ _ _ hM_957 (by omega) (by omega)
    · exact hQ
  · intro M_958 hM_958
    refine ⟨9, ?_⟩
    refine sX10_advance_L64 hk1 hk2 ?_ _ _ _ hM_958 (by omega) (by omega)
    · exact hQ
theorem sX10_forgetTallies_L12  {X31 : Mem → Prop} {Q : Mem → Prop} (hQ : ∀ M' : Mem, IX M' → Q M') (hX31 : ∀ M' : Mem, IX M' → X31 M') : ∀ (n : Nat) (v1 : Int) (M : Mem), IX M → (0 ≤ v1 ∧ v1 ≤ 30) → 30 - v1 < (n : Int) → qX10_forgetTallies_L12 X31 Q n v1 M := by
  intro n
  induction n with
  | zero => intro v1 M hI hv hm; exact absurd hm (by omega)
  | succ n ih =>
    intro v1 M hI hv hm
    rw [qX10_forgetTallies_L12]
    refine ⟨(by first | assumption | exact ⟨by omega, by omega⟩), ?_⟩
    refine ⟨fun c => ?_, fun c => ?_⟩
    · exact hX31 _ hI
    · refine ⟨by omega, ?_⟩
      refine ⟨by omega, ?_⟩
      intro M7_961 h_M7_961
      have hM7_961 : IX M7_961 := by rw [h_M7_961]; exact hI.up (by decide) (by simp [BX])
      exact ih _ _ hM7_961 (by omega) (by omega)
theorem sX10_forgetTallies_L33   {Q : Mem → Prop} (hQ : ∀ M' : Mem, IX M' → Q M') : ∀ (n : Nat) (v1 : Int) (M : Mem), IX M → (0 ≤ v1 ∧ v1 ≤ 8) → 8 - v1 < (n : Int) → qX10_forgetTallies_L33 Q n v1 M := by
  intro n
  induction n with
  | zero => intro v1 M hI hv hm; exact absurd hm (by omega)
  | succ n ih =>
    intro v1 M hI hv hm
    rw [qX10_forgetTallies_L33]
    refine ⟨(by first | assumption | exact ⟨by omega, by omega⟩), ?_⟩
    refine ⟨fun c => ?_, fun c => ?_⟩
    · exact hQ _ hI
    · refine ⟨by omega, ?_⟩
      refine ⟨by omega, ?_⟩
      intro M13_964 h_M13_964
      have hM13_964 : IX M13_964 := by rw [h_M13_964]; exact hI.up (by decide) (by simp [BX])
      exact ih _ _ hM13_964 (by omega) (by omega)
theorem sX10_forgetTallies  {M : Mem} {Q : Mem → Prop} (hI : IX M) (hQ : ∀ M' : Mem, IX M' → Q M') : qX10_forgetTallies M Q := by
  unfold qX10_forgetTallies
  intro M1_965 h_M1_965
  have hM1_965 : IX M1_965 := by rw [h_M1_965]; exact hI.up (by decide) (by simp [BX])
  intro M2_966 h_M2_966
  have hM2_966 : IX M2_966 := by rw [h_M2_966]; exact hM1_965.up (by decide) (by simp [BX])
  refine ⟨31, ?_⟩
  refine sX10_forgetTallies_L12 ?_ ?_ _ _ _ hM2_966 (by omega) (by omega)
  · exact hQ
  · intro M_967 hM_967
    refine ⟨9, ?_⟩
    refine sX10_forgetTallies_L33 ?_ _ _ _ hM_967 (by omega) (by omega)
    · exact hQ
theorem sX10_walk_L7 {k1 : Nat} {k2 : Nat} {p3 : Int}  {Q : Mem → Prop} (hk1 : isS k1) (hk2 : isL k2) (hp : p3 ≤ 200) (hQ : ∀ M' : Mem, IX M' → Q M') : ∀ (n : Nat) (v4 : Int) (M : Mem), IX M → (0 ≤ v4 ∧ v4 ≤ 200) → 200 - v4 < (n : Int) → qX10_walk_L7 k1 k2 p3 Q n v4 M := by
  intro n
  induction n with
  | zero => intro v4 M hI hv hm; exact absurd hm (by omega)
  | succ n ih =>
    intro v4 M hI hv hm
    rw [qX10_walk_L7]
    have ek1 : 0 < k1 ∧ k1 < 155 ∧ (k1 - 1) % 7 = 0 := hk1
    have ek2 : k2 = 187 ∨ k2 = 192 := hk2
    refine ⟨(by first | assumption | exact ⟨by omega, by omega⟩), ?_⟩
    refine ⟨fun c => ?_, fun c => ?_⟩
    · exact hQ _ hI
    · refine sX10_advance  hI hk1 hk2 ?_
      intro M4_970 hM4_970
      exact ih _ _ hM4_970 (by omega) (by omega)
theorem sX10_walk {k1 : Nat} {k2 : Nat} {p3 : Int} {M : Mem} {Q : Mem → Prop} (hI : IX M) (hk1 : isS k1) (hk2 : isL k2) (hp : p3 ≤ 200) (hQ : ∀ M' : Mem, IX M' → Q M') : qX10_walk k1 k2 p3 M Q := by
  unfold qX10_walk
  have ek1 : 0 < k1 ∧ k1 < 155 ∧ (k1 - 1) % 7 = 0 := hk1
  have ek2 : k2 = 187 ∨ k2 = 192 := hk2
  refine sX10_forgetTallies  hI  ?_
  intro M1_971 hM1_971
  refine ⟨201, ?_⟩
  refine sX10_walk_L7 hk1 hk2 hp ?_ _ _ _ hM1_971 (by omega) (by omega)
  · exact hQ
theorem sX11_isDone {p0 : Int} {M : Mem} {Q : Int → Mem → Prop} (hI : IX M) (hQ : ∀ z : Int, Q z M) : qX11_isDone p0 M Q := by
  unfold qX11_isDone
  refine ⟨fun c => ?_, fun c => ?_⟩
  · exact hQ _
  · refine ⟨fun c => ?_, fun c => ?_⟩
    · exact hQ _
    · exact hQ _
theorem sX1_add {k1 : Nat} {M : Mem} {Q : Mem → Prop} (hI : IX M) (hk1 : isS k1) (hQ : ∀ M' : Mem, IX M' → Q M') : qX1_add k1 M Q := by
  unfold qX1_add
  have ek1 : 0 < k1 ∧ k1 < 155 ∧ (k1 - 1) % 7 = 0 := hk1
  intro x1_976 ex1_976 rx1_976
  have bx1_976 : 0 ≤ x1_976 ∧ x1_976 ≤ 14 := by rw [ex1_976]; exact (bx_c163_1).mp (hI.bx _ _)
  intro x2_977 ex2_977 rx2_977
  have bx2_977 : 0 ≤ x2_977 ∧ x2_977 ≤ 15 := by rw [ex2_977]; exact (bx_c163_2).mp (hI.bx _ _)
  intro x3_978 ex3_978 rx3_978
  first | (have fx3_978 := rmI_b (a := x1_976 + x2_977) (b := 15) ⟨by omega, by omega⟩ ⟨by omega, by omega⟩; rw [← ex3_978] at fx3_978) | skip
  refine ⟨by omega, ?_⟩
  refine ⟨by omega, ?_⟩
  refine sX6_copyFrom  hI (isS_hist (e := x3_978) (by omega) (by omega)) hk1 ?_
  intro M6_979 hM6_979 gM6_979
  intro x7_980 ex7_980 rx7_980
  have bx7_980 : 0 ≤ x7_980 ∧ x7_980 ≤ 15 := by rw [ex7_980]; exact (bx_c163_2).mp (hM6_979.bx _ _)
  refine ⟨fun c => ?_, fun c => ?_⟩
  · intro x9_982 ex9_982 rx9_982
    have bx9_982 : 0 ≤ x9_982 ∧ x9_982 ≤ 14 := by rw [ex9_982]; exact (bx_c163_1).mp (hM6_979.bx _ _)
    intro x10_983 ex10_983 rx10_983
    first | (have fx10_983 := rmI_b (a := x9_982 + 1) (b := 15) ⟨by omega, by omega⟩ ⟨by omega, by omega⟩; rw [← ex10_983] at fx10_983) | skip
    intro M11_984 h_M11_984
    have hM11_984 : IX M11_984 := by rw [h_M11_984]; exact hM6_979.up (by decide) ((bx_c163_1).mpr ⟨by omega, by omega⟩)
    exact hQ _ hM11_984
  · intro x12_986 ex12_986 rx12_986
    have bx12_986 : 0 ≤ x12_986 ∧ x12_986 ≤ 15 := by rw [ex12_986]; exact (bx_c163_2).mp (hM6_979.bx _ _)
    refine ⟨(by first | assumption | exact ⟨by omega, by omega⟩), ?_⟩
    intro M14_987 h_M14_987
    have hM14_987 : IX M14_987 := by rw [h_M14_987]; exact hM6_979.up (by decide) ((bx_c163_2).mpr ⟨by omega, by omega⟩)
    exact hQ _ hM14_987
theorem sX11_undoable {p1 : Int} {M : Mem} {Q : Int → Mem → Prop} (hI : IX M) (hQ : ∀ z : Int, ∀ M' : Mem, IX M' → Q z M') : qX11_undoable p1 M Q := by
  unfold qX11_undoable
  refine sX11_isDone (p0 := p1) hI  ?_
  intro x1_988 q989 q990
  refine ⟨fun c => ?_, fun c => ?_⟩
  · exact hQ _ _ hI
  · refine sX1_add  hI (show isS 22 by decide) ?_
    intro M3_993 hM3_993
    exact hQ _ _ hM3_993
theorem sX4_add {p1 : Int} {M : Mem} {Q : Mem → Prop} (hI : IX M) (hQ : ∀ M' : Mem, IX M' → Q M') : qX4_add p1 M Q := by
  unfold qX4_add
  intro x1_994 ex1_994 rx1_994
  have bx1_994 : 0 ≤ x1_994 ∧ x1_994 ≤ 8 := by rw [ex1_994]; exact (bx_c167_1).mp (hI.bx _ _)
  refine ⟨fun c => ?_, fun c => ?_⟩
  · exact hQ _ hI
  · intro x3_997 ex3_997 rx3_997
    have bx3_997 : 0 ≤ x3_997 ∧ x3_997 ≤ 8 := by rw [ex3_997]; exact (bx_c167_1).mp (hI.bx _ _)
    refine ⟨by omega, ?_⟩
    refine ⟨by omega, ?_⟩
    intro M6_998 h_M6_998
    have hM6_998 : IX M6_998 := by rw [h_M6_998]; exact hI.up (by decide) (by simp [BX])
    intro x7_999 ex7_999 rx7_999
    have bx7_999 : 0 ≤ x7_999 ∧ x7_999 ≤ 8 := by rw [ex7_999]; exact (bx_c167_1).mp (hM6_998.bx _ _)
    have fx7_999 : x7_999 = M 167 1 := by rw [ex7_999, h_M6_998, up2_n (by decide)]
    refine ⟨(by first | assumption | exact ⟨by omega, by omega⟩), ?_⟩
    intro M9_1000 h_M9_1000
    have hM9_1000 : IX M9_1000 := by rw [h_M9_1000]; exact hM6_998.up (by decide) ((bx_c167_1).mpr ⟨by omega, by omega⟩)
    exact hQ _ hM9_1000
theorem sX4_clear  {M : Mem} {Q : Mem → Prop} (hI : IX M) (hQ : ∀ M' : Mem, IX M' → Q M') : qX4_clear M Q := by
  unfold qX4_clear
  intro M1_1001 h_M1_1001
  have hM1_1001 : IX M1_1001 := by rw [h_M1_1001]; exact hI.up (by decide) ((bx_c167_1).mpr ⟨by omega, by omega⟩)
  exact hQ _ hM1_1001
theorem sX4_tellTwo {p1 : Int} {p3 : Int} {M : Mem} {Q : Mem → Prop} (hI : IX M) (hQ : ∀ M' : Mem, IX M' → Q M') : qX4_tellTwo p1 p3 M Q := by
  unfold qX4_tellTwo
  refine sX4_clear  hI  ?_
  intro M1_1002 hM1_1002
  refine sX4_add (p1 := p1) hM1_1002  ?_
  intro M2_1003 hM2_1003
  refine sX4_add (p1 := p3) hM2_1003  ?_
  intro M3_1004 hM3_1004
  exact hQ _ hM3_1004
theorem sX11_steps {p1 : Int} {M : Mem} {Q : Int → Mem → Prop} (hI : IX M) (hQ : ∀ z : Int, ∀ M' : Mem, IX M' → Q z M') : qX11_steps p1 M Q := by
  unfold qX11_steps
  refine ⟨fun c => ?_, fun c => ?_⟩
  · exact hQ _ _ hI
  · refine ⟨fun c => ?_, fun c => ?_⟩
    · refine sX6_copyFrom  hI (show isS 22 by decide) (show isS 1 by decide) ?_
      intro M3_1008 hM3_1008 gM3_1008
      refine ⟨(hM3_1008).l16, ?_⟩
      refine sX10_walk (p3 := p1) hM3_1008 (show isS 1 by decide) (hM3_1008).l16 (by omega) ?_
      intro M5_1009 hM5_1009
      intro x6_1010 ex6_1010 rx6_1010
      have bx6_1010 : -2147483648 ≤ x6_1010 ∧ x6_1010 ≤ 2147483647 := rx6_1010
      intro x7_1011 ex7_1011 rx7_1011
      have bx7_1011 : -2147483648 ≤ x7_1011 ∧ x7_1011 ≤ 2147483647 := rx7_1011
      refine sX4_tellTwo (p1 := x6_1010) (p3 := x7_1011) hM5_1009  ?_
      intro M8_1012 hM8_1012
      intro x9_1013 ex9_1013 rx9_1013
      have bx9_1013 : -2147483648 ≤ x9_1013 ∧ x9_1013 ≤ 2147483647 := rx9_1013
      refine sX11_undoable (p1 := x9_1013) hM8_1012  ?_
      intro x10_1014 M10_1015 hM10_1015 q1016
      exact hQ _ _ hM10_1015
    · exact hQ _ _ hI
theorem sX6_isMourner {k0 : Nat} {p1 : Int} {M : Mem} {Q : Int → Mem → Prop} (hI : IX M) (hk0 : isS k0) (hQ : ∀ z : Int, (¬ z = 0 → 0 ≤ p1 ∧ p1 ≤ 7) → Q z M) : qX6_isMourner k0 p1 M Q := by
  unfold qX6_isMourner
  have ek0 : 0 < k0 ∧ k0 < 155 ∧ (k0 - 1) % 7 = 0 := hk0
  refine ⟨fun c => ?_, fun c => ?_⟩
  · exact hQ _ (by omega)
  · intro x2_1020 ex2_1020 rx2_1020
    have bx2_1020 : 0 ≤ x2_1020 ∧ x2_1020 ≤ 8 := by rw [ex2_1020]; exact (bx_s0_7 hk0).mp (hI.bx _ _)
    refine ⟨fun c => ?_, fun c => ?_⟩
    · exact hQ _ (by omega)
    · exact hQ _ (by omega)
theorem sX6_turn {k0 : Nat} {p1 : Int} {M : Mem} {Q : Int → Mem → Prop} (hI : IX M) (hk0 : isS k0) (hQ : ∀ z : Int, ∀ M' : Mem, IX M' → Q z M') : qX6_turn k0 p1 M Q := by
  unfold qX6_turn
  have ek0 : 0 < k0 ∧ k0 < 155 ∧ (k0 - 1) % 7 = 0 := hk0
  refine sX6_isMourner (p1 := p1) hI hk0 ?_
  intro x1_1023 p1024 q1025 q1026
  refine ⟨fun c => ?_, fun c => ?_⟩
  · refine sX6_hasEnded (p1 := p1) hI hk0 (by omega) ?_
    intro x3_1028 q1029 q1030
    refine ⟨fun c => ?_, fun c => ?_⟩
    · refine ⟨by omega, ?_⟩
      refine ⟨by omega, ?_⟩
      intro x7_1032 ex7_1032 rx7_1032
      have bx7_1032 : -1 ≤ x7_1032 ∧ x7_1032 ≤ 5 := by rw [ex7_1032]; exact (bx_s5 hk0).mp (hI.bx _ _)
      intro x8_1033 ex8_1033 rx8_1033
      have bx8_1033 : 0 ≤ x8_1033 ∧ x8_1033 ≤ 5 := by rw [ex8_1033]; exact (bx_s4 hk0).mp (hI.bx _ _)
      refine sX6_hasArrived (p1 := x8_1033) hI hk0 (by omega) ?_
      intro x9_1034 q1035 q1036
      refine ⟨fun c => ?_, fun c => ?_⟩
      · exact hQ _ _ hI
      · intro x11_1039 ex11_1039 rx11_1039
        have bx11_1039 : 0 ≤ x11_1039 ∧ x11_1039 ≤ 5 := by rw [ex11_1039]; exact (bx_s4 hk0).mp (hI.bx _ _)
        refine ⟨fun c => ?_, fun c => ?_⟩
        · intro x13_1041 ex13_1041 rx13_1041
          have bx13_1041 : 0 ≤ x13_1041 ∧ x13_1041 ≤ 5 := by rw [ex13_1041]; exact (bx_s4 hk0).mp (hI.bx _ _)
          intro M14_1042 h_M14_1042
          have hM14_1042 : IX M14_1042 := by rw [h_M14_1042]; exact hI.up (isS.nsp hk0 5 (by decide)) ((bx_s5 hk0).mpr ⟨by omega, by omega⟩)
          refine ⟨fun c => ?_, fun c => ?_⟩
          · exact hQ _ _ hM14_1042
          · exact hQ _ _ hM14_1042
        · exact hQ _ _ hI
    · exact hQ _ _ hI
  · exact hQ _ _ hI
theorem sX11_turnsTo {p1 : Int} {M : Mem} {Q : Int → Mem → Prop} (hI : IX M) (hQ : ∀ z : Int, ∀ M' : Mem, IX M' → Q z M') : qX11_turnsTo p1 M Q := by
  unfold qX11_turnsTo
  refine sX6_copyFrom  hI (show isS 22 by decide) (show isS 1 by decide) ?_
  intro M1_1048 hM1_1048 gM1_1048
  refine sX6_turn (p1 := p1) hM1_1048 (show isS 1 by decide) ?_
  intro x2_1049 M2_1050 hM2_1050 q1051
  refine sX11_undoable (p1 := x2_1049) hM2_1050  ?_
  intro x3_1052 M3_1053 hM3_1053 q1054
  exact hQ _ _ hM3_1053
theorem sX6_shove {k0 : Nat} {p1 : Int} {p2 : Int} {M : Mem} {Q : Int → Mem → Prop} (hI : IX M) (hk0 : isS k0) (hQ : ∀ z : Int, ∀ M' : Mem, IX M' → Q z M') : qX6_shove k0 p1 p2 M Q := by
  unfold qX6_shove
  have ek0 : 0 < k0 ∧ k0 < 155 ∧ (k0 - 1) % 7 = 0 := hk0
  refine sX6_isMourner (p1 := p1) hI hk0 ?_
  intro x1_1055 p1056 q1057 q1058
  refine ⟨fun c => ?_, fun c => ?_⟩
  · exact hQ _ _ hI
  · refine ⟨fun c => ?_, fun c => ?_⟩
    · exact hQ _ _ hI
    · refine ⟨fun c => ?_, fun c => ?_⟩
      · exact hQ _ _ hI
      · refine ⟨fun c => ?_, fun c => ?_⟩
        · refine sX6_hasEnded (p1 := p1) hI hk0 (by omega) ?_
          intro x6_1066 q1067 q1068
          refine ⟨fun c => ?_, fun c => ?_⟩
          · refine ⟨by omega, ?_⟩
            refine ⟨by omega, ?_⟩
            intro x10_1070 ex10_1070 rx10_1070
            have bx10_1070 : -1 ≤ x10_1070 ∧ x10_1070 ≤ 29 := by rw [ex10_1070]; exact (bx_s3 hk0).mp (hI.bx _ _)
            refine ⟨(by first | assumption | exact ⟨by omega, by omega⟩), ?_⟩
            refine sX8_putOnStreet (p1 := x10_1070 + p2) hI  ?_
            intro x12_1071 p1072 q1073
            intro M13_1074 h_M13_1074
            have hM13_1074 : IX M13_1074 := by rw [h_M13_1074]; exact hI.up (isS.nsp hk0 3 (by decide)) ((bx_s3 hk0).mpr ⟨by omega, by omega⟩)
            intro x14_1075 ex14_1075 rx14_1075
            have bx14_1075 : -1 ≤ x14_1075 ∧ x14_1075 ≤ 29 := by rw [ex14_1075]; exact (bx_s3 hk0).mp (hM13_1074.bx _ _)
            have fx14_1075 : x14_1075 = x12_1071 := by rw [ex14_1075, h_M13_1074, up2_s]
            exact hQ _ _ hM13_1074
          · exact hQ _ _ hI
        · exact hQ _ _ hI
theorem sX11_pushes {p1 : Int} {p2 : Int} {M : Mem} {Q : Int → Mem → Prop} (hI : IX M) (hQ : ∀ z : Int, ∀ M' : Mem, IX M' → Q z M') : qX11_pushes p1 p2 M Q := by
  unfold qX11_pushes
  refine sX6_copyFrom  hI (show isS 22 by decide) (show isS 1 by decide) ?_
  intro M1_1078 hM1_1078 gM1_1078
  refine sX6_shove (p1 := p1) (p2 := p2) hM1_1078 (show isS 1 by decide) ?_
  intro x2_1079 M2_1080 hM2_1080 q1081
  refine sX11_undoable (p1 := x2_1079) hM2_1080  ?_
  intro x3_1082 M3_1083 hM3_1083 q1084
  exact hQ _ _ hM3_1083
theorem sX6_isHearse {k0 : Nat} {p1 : Int} {M : Mem} {Q : Int → Mem → Prop} (hI : IX M) (hk0 : isS k0) (hQ : ∀ z : Int, (¬ z = 0 → 0 ≤ p1 ∧ p1 ≤ 5) → Q z M) : qX6_isHearse k0 p1 M Q := by
  unfold qX6_isHearse
  have ek0 : 0 < k0 ∧ k0 < 155 ∧ (k0 - 1) % 7 = 0 := hk0
  refine ⟨fun c => ?_, fun c => ?_⟩
  · exact hQ _ (by omega)
  · intro x2_1087 ex2_1087 rx2_1087
    have bx2_1087 : 0 ≤ x2_1087 ∧ x2_1087 ≤ 6 := by rw [ex2_1087]; exact (bx_s0_6 hk0).mp (hI.bx _ _)
    refine ⟨fun c => ?_, fun c => ?_⟩
    · exact hQ _ (by omega)
    · exact hQ _ (by omega)
theorem sX6_exchange {k0 : Nat} {p1 : Int} {p2 : Int} {M : Mem} {Q : Int → Mem → Prop} (hI : IX M) (hk0 : isS k0) (hQ : ∀ z : Int, ∀ M' : Mem, IX M' → Q z M') : qX6_exchange k0 p1 p2 M Q := by
  unfold qX6_exchange
  have ek0 : 0 < k0 ∧ k0 < 155 ∧ (k0 - 1) % 7 = 0 := hk0
  refine sX6_isHearse (p1 := p1) hI hk0 ?_
  intro x1_1090 p1091 q1092 q1093
  refine ⟨fun c => ?_, fun c => ?_⟩
  · exact hQ _ _ hI
  · refine sX6_isHearse (p1 := p2) hI hk0 ?_
    intro x3_1096 p1097 q1098 q1099
    refine ⟨fun c => ?_, fun c => ?_⟩
    · exact hQ _ _ hI
    · refine ⟨fun c => ?_, fun c => ?_⟩
      · refine sX6_hasArrived (p1 := p1) hI hk0 (by omega) ?_
        intro x6_1103 q1104 q1105
        refine ⟨fun c => ?_, fun c => ?_⟩
        · exact hQ _ _ hI
        · refine sX6_hasArrived (p1 := p2) hI hk0 (by omega) ?_
          intro x8_1108 q1109 q1110
          refine ⟨fun c => ?_, fun c => ?_⟩
          · refine ⟨by omega, ?_⟩
            refine ⟨by omega, ?_⟩
            intro x12_1112 ex12_1112 rx12_1112
            have bx12_1112 : -1 ≤ x12_1112 ∧ x12_1112 ≤ 29 := by rw [ex12_1112]; exact (bx_s1 hk0).mp (hI.bx _ _)
            refine ⟨by omega, ?_⟩
            refine ⟨by omega, ?_⟩
            intro x15_1113 ex15_1113 rx15_1113
            have bx15_1113 : -1 ≤ x15_1113 ∧ x15_1113 ≤ 29 := by rw [ex15_1113]; exact (bx_s1 hk0).mp (hI.bx _ _)
            intro M16_1114 h_M16_1114
            have hM16_1114 : IX M16_1114 := by rw [h_M16_1114]; exact hI.up (isS.nsp hk0 1 (by decide)) ((bx_s1 hk0).mpr ⟨by omega, by omega⟩)
            intro M17_1115 h_M17_1115
            have hM17_1115 : IX M17_1115 := by rw [h_M17_1115]; exact hM16_1114.up (isS.nsp hk0 1 (by decide)) ((bx_s1 hk0).mpr ⟨by omega, by omega⟩)
            intro x18_1116 ex18_1116 rx18_1116
            have bx18_1116 : -1 ≤ x18_1116 ∧ x18_1116 ≤ 29 := by rw [ex18_1116]; exact (bx_s1 hk0).mp (hM17_1115.bx _ _)
            intro x19_1117 ex19_1117 rx19_1117
            have bx19_1117 : -1 ≤ x19_1117 ∧ x19_1117 ≤ 29 := by rw [ex19_1117]; exact (bx_s1 hk0).mp (hM17_1115.bx _ _)
            have fx19_1117 : x19_1117 = x12_1112 := by rw [ex19_1117, h_M17_1115, up2_s]
            refine ⟨(by first | assumption | exact ⟨by omega, by omega⟩), ?_⟩
            intro x21_1118 px21_1118 nx21_1118
            have bx21_1118 : 0 ≤ x21_1118 ∧ (x18_1116 - x19_1117 = x21_1118 ∨ x18_1116 - x19_1117 = -x21_1118) := by omega
            refine ⟨(by first | assumption | exact ⟨by omega, by omega⟩), ?_⟩
            exact hQ _ _ hM17_1115
          · exact hQ _ _ hI
      · exact hQ _ _ hI
theorem sX11_swaps {p1 : Int} {p2 : Int} {M : Mem} {Q : Int → Mem → Prop} (hI : IX M) (hQ : ∀ z : Int, ∀ M' : Mem, IX M' → Q z M') : qX11_swaps p1 p2 M Q := by
  unfold qX11_swaps
  refine sX6_copyFrom  hI (show isS 22 by decide) (show isS 1 by decide) ?_
  intro M1_1121 hM1_1121 gM1_1121
  refine sX6_exchange (p1 := p1) (p2 := p2) hM1_1121 (show isS 1 by decide) ?_
  intro x2_1122 M2_1123 hM2_1123 q1124
  refine sX11_undoable (p1 := x2_1122) hM2_1123  ?_
  intro x3_1125 M3_1126 hM3_1126 q1127
  exact hQ _ _ hM3_1126
theorem sX11_doAct  {M : Mem} {Q : Int → Mem → Prop} (hI : IX M) (hQ : ∀ z : Int, ∀ M' : Mem, IX M' → Q z M') : qX11_doAct M Q := by
  unfold qX11_doAct
  refine sX9_look  hI  ?_
  intro x1_1128 p1129 q1130
  refine sX9_pass  hI  ?_
  intro M2_1131 hM2_1131 gM2_1131
  refine sX9_digit  hM2_1131  ?_
  intro x3_1132 M3_1133 hM3_1133 gM3_1133 p1134 q1135
  refine ⟨fun c => ?_, fun c => ?_, fun c => ?_, fun c => ?_, fun c => ?_⟩
  · refine sX9_digit  hM3_1133  ?_
    intro x5_1137 M5_1138 hM5_1138 gM5_1138 p1139 q1140
    refine ⟨(by first | assumption | exact ⟨by omega, by omega⟩), ?_⟩
    refine sX6_shove (p1 := x3_1132) (p2 := (-x5_1137)) hM5_1138 (show isS 1 by decide) ?_
    intro x7_1141 M7_1142 hM7_1142 q1143
    exact hQ _ _ hM7_1142
  · refine ⟨(hM3_1133).l16, ?_⟩
    refine sX10_walk (p3 := x3_1132) hM3_1133 (show isS 1 by decide) (hM3_1133).l16 (by omega) ?_
    intro M9_1145 hM9_1145
    intro x10_1146 ex10_1146 rx10_1146
    have bx10_1146 : -2147483648 ≤ x10_1146 ∧ x10_1146 ≤ 2147483647 := rx10_1146
    exact hQ _ _ hM9_1145
  · refine sX9_digit  hM3_1133  ?_
    intro x11_1148 M11_1149 hM11_1149 gM11_1149 p1150 q1151
    refine sX6_shove (p1 := x3_1132) (p2 := x11_1148) hM11_1149 (show isS 1 by decide) ?_
    intro x12_1152 M12_1153 hM12_1153 q1154
    exact hQ _ _ hM12_1153
  · refine sX6_turn (p1 := x3_1132) hM3_1133 (show isS 1 by decide) ?_
    intro x13_1156 M13_1157 hM13_1157 q1158
    exact hQ _ _ hM13_1157
  · refine sX9_digit  hM3_1133  ?_
    intro x14_1160 M14_1161 hM14_1161 gM14_1161 p1162 q1163
    refine sX6_exchange (p1 := x3_1132) (p2 := x14_1160) hM14_1161 (show isS 1 by decide) ?_
    intro x15_1164 M15_1165 hM15_1165 q1166
    exact hQ _ _ hM15_1165
theorem sX11_passAct  {M : Mem} {Q : Int → Mem → Prop} (hI : IX M) (hQ : ∀ z : Int, ∀ M' : Mem, IX M' → Q z M') : qX11_passAct M Q := by
  unfold qX11_passAct
  refine sX9_look  hI  ?_
  intro x1_1167 p1168 q1169
  refine ⟨fun c => ?_, fun c => ?_⟩
  · unfold qX11_passAct_J20
    unfold qX11_passAct_J25
    refine ⟨(by first | assumption | exact ⟨by omega, by omega⟩), ?_⟩
    refine ⟨fun c => ?_, fun c => ?_⟩
    · unfold qX11_passAct_J50
      refine sX9_pass  hI  ?_
      intro M5_1172 hM5_1172 gM5_1172
      refine sX9_digit  hM5_1172  ?_
      intro x6_1173 M6_1174 hM6_1174 gM6_1174 p1175 q1176
      refine ⟨fun c => ?_, fun c => ?_⟩
      · exact hQ _ _ hM6_1174
      · refine ⟨(by first | assumption | exact ⟨by omega, by omega⟩), ?_⟩
        refine ⟨fun c => ?_, fun c => ?_⟩
        · unfold qX11_passAct_J86
          refine ⟨(by first | assumption | exact ⟨by omega, by omega⟩), ?_⟩
          refine ⟨fun c => ?_, fun c => ?_⟩
          · unfold qX11_passAct_J96
            refine sX9_digit  hM6_1174  ?_
            intro x12_1181 M12_1182 hM12_1182 gM12_1182 p1183 q1184
            refine ⟨fun c => ?_, fun c => ?_⟩
            · exact hQ _ _ hM12_1182
            · exact hQ _ _ hM12_1182
          · refine ⟨(by first | assumption | exact ⟨by omega, by omega⟩), ?_⟩
            refine ⟨fun c => ?_, fun c => ?_⟩
            · exact hQ _ _ hM6_1174
            · unfold qX11_passAct_J96
              refine sX9_digit  hM6_1174  ?_
              intro x12_1190 M12_1191 hM12_1191 gM12_1191 p1192 q1193
              refine ⟨fun c => ?_, fun c => ?_⟩
              · exact hQ _ _ hM12_1191
              · exact hQ _ _ hM12_1191
        · refine sX9_look  hM6_1174  ?_
          intro x16_1197 p1198 q1199
          refine ⟨fun c => ?_, fun c => ?_⟩
          · unfold qX11_passAct_J86
            refine ⟨(by first | assumption | exact ⟨by omega, by omega⟩), ?_⟩
            refine ⟨fun c => ?_, fun c => ?_⟩
            · unfold qX11_passAct_J96
              refine sX9_digit  hM6_1174  ?_
              intro x12_1202 M12_1203 hM12_1203 gM12_1203 p1204 q1205
              refine ⟨fun c => ?_, fun c => ?_⟩
              · exact hQ _ _ hM12_1203
              · exact hQ _ _ hM12_1203
            · refine ⟨(by first | assumption | exact ⟨by omega, by omega⟩), ?_⟩
              refine ⟨fun c => ?_, fun c => ?_⟩
              · exact hQ _ _ hM6_1174
              · unfold qX11_passAct_J96
                refine sX9_digit  hM6_1174  ?_
                intro x12_1211 M12_1212 hM12_1212 gM12_1212 p1213 q1214
                refine ⟨fun c => ?_, fun c => ?_⟩
                · exact hQ _ _ hM12_1212
                · exact hQ _ _ hM12_1212
          · exact hQ _ _ hM6_1174
    · refine ⟨(by first | assumption | exact ⟨by omega, by omega⟩), ?_⟩
      refine ⟨fun c => ?_, fun c => ?_⟩
      · unfold qX11_passAct_J50
        refine sX9_pass  hI  ?_
        intro M5_1220 hM5_1220 gM5_1220
        refine sX9_digit  hM5_1220  ?_
        intro x6_1221 M6_1222 hM6_1222 gM6_1222 p1223 q1224
        refine ⟨fun c => ?_, fun c => ?_⟩
        · exact hQ _ _ hM6_1222
        · refine ⟨(by first | assumption | exact ⟨by omega, by omega⟩), ?_⟩
          refine ⟨fun c => ?_, fun c => ?_⟩
          · unfold qX11_passAct_J86
            refine ⟨(by first | assumption | exact ⟨by omega, by omega⟩), ?_⟩
            refine ⟨fun c => ?_, fun c => ?_⟩
            · unfold qX11_passAct_J96
              refine sX9_digit  hM6_1222  ?_
              intro x12_1229 M12_1230 hM12_1230 gM12_1230 p1231 q1232
              refine ⟨fun c => ?_, fun c => ?_⟩
              · exact hQ _ _ hM12_1230
              · exact hQ _ _ hM12_1230
            · refine ⟨(by first | assumption | exact ⟨by omega, by omega⟩), ?_⟩
              refine ⟨fun c => ?_, fun c => ?_⟩
              · exact hQ _ _ hM6_1222
              · unfold qX11_passAct_J96
                refine sX9_digit  hM6_1222  ?_
                intro x12_1238 M12_1239 hM12_1239 gM12_1239 p1240 q1241
                refine ⟨fun c => ?_, fun c => ?_⟩
                · exact hQ _ _ hM12_1239
                · exact hQ _ _ hM12_1239
          · refine sX9_look  hM6_1222  ?_
            intro x16_1245 p1246 q1247
            refine ⟨fun c => ?_, fun c => ?_⟩
            · unfold qX11_passAct_J86
              refine ⟨(by first | assumption | exact ⟨by omega, by omega⟩), ?_⟩
              refine ⟨fun c => ?_, fun c => ?_⟩
              · unfold qX11_passAct_J96
                refine sX9_digit  hM6_1222  ?_
                intro x12_1250 M12_1251 hM12_1251 gM12_1251 p1252 q1253
                refine ⟨fun c => ?_, fun c => ?_⟩
                · exact hQ _ _ hM12_1251
                · exact hQ _ _ hM12_1251
              · refine ⟨(by first | assumption | exact ⟨by omega, by omega⟩), ?_⟩
                refine ⟨fun c => ?_, fun c => ?_⟩
                · exact hQ _ _ hM6_1222
                · unfold qX11_passAct_J96
                  refine sX9_digit  hM6_1222  ?_
                  intro x12_1259 M12_1260 hM12_1260 gM12_1260 p1261 q1262
                  refine ⟨fun c => ?_, fun c => ?_⟩
                  · exact hQ _ _ hM12_1260
                  · exact hQ _ _ hM12_1260
            · exact hQ _ _ hM6_1222
      · refine ⟨fun c => ?_, fun c => ?_⟩
        · unfold qX11_passAct_J50
          refine sX9_pass  hI  ?_
          intro M5_1268 hM5_1268 gM5_1268
          refine sX9_digit  hM5_1268  ?_
          intro x6_1269 M6_1270 hM6_1270 gM6_1270 p1271 q1272
          refine ⟨fun c => ?_, fun c => ?_⟩
          · exact hQ _ _ hM6_1270
          · refine ⟨(by first | assumption | exact ⟨by omega, by omega⟩), ?_⟩
            refine ⟨fun c => ?_, fun c => ?_⟩
            · unfold qX11_passAct_J86
              refine ⟨(by first | assumption | exact ⟨by omega, by omega⟩), ?_⟩
              refine ⟨fun c => ?_, fun c => ?_⟩
              · unfold qX11_passAct_J96
                refine sX9_digit  hM6_1270  ?_
                intro x12_1277 M12_1278 hM12_1278 gM12_1278 p1279 q1280
                refine ⟨fun c => ?_, fun c => ?_⟩
                · exact hQ _ _ hM12_1278
                · exact hQ _ _ hM12_1278
              · refine ⟨(by first | assumption | exact ⟨by omega, by omega⟩), ?_⟩
                refine ⟨fun c => ?_, fun c => ?_⟩
                · exact hQ _ _ hM6_1270
                · unfold qX11_passAct_J96
                  refine sX9_digit  hM6_1270  ?_
                  intro x12_1286 M12_1287 hM12_1287 gM12_1287 p1288 q1289
                  refine ⟨fun c => ?_, fun c => ?_⟩
                  · exact hQ _ _ hM12_1287
                  · exact hQ _ _ hM12_1287
            · refine sX9_look  hM6_1270  ?_
              intro x16_1293 p1294 q1295
              refine ⟨fun c => ?_, fun c => ?_⟩
              · unfold qX11_passAct_J86
                refine ⟨(by first | assumption | exact ⟨by omega, by omega⟩), ?_⟩
                refine ⟨fun c => ?_, fun c => ?_⟩
                · unfold qX11_passAct_J96
                  refine sX9_digit  hM6_1270  ?_
                  intro x12_1298 M12_1299 hM12_1299 gM12_1299 p1300 q1301
                  refine ⟨fun c => ?_, fun c => ?_⟩
                  · exact hQ _ _ hM12_1299
                  · exact hQ _ _ hM12_1299
                · refine ⟨(by first | assumption | exact ⟨by omega, by omega⟩), ?_⟩
                  refine ⟨fun c => ?_, fun c => ?_⟩
                  · exact hQ _ _ hM6_1270
                  · unfold qX11_passAct_J96
                    refine sX9_digit  hM6_1270  ?_
                    intro x12_1307 M12_1308 hM12_1308 gM12_1308 p1309 q1310
                    refine ⟨fun c => ?_, fun c => ?_⟩
                    · exact hQ _ _ hM12_1308
                    · exact hQ _ _ hM12_1308
              · exact hQ _ _ hM6_1270
        · refine ⟨fun c => ?_, fun c => ?_⟩
          · unfold qX11_passAct_J50
            refine sX9_pass  hI  ?_
            intro M5_1316 hM5_1316 gM5_1316
            refine sX9_digit  hM5_1316  ?_
            intro x6_1317 M6_1318 hM6_1318 gM6_1318 p1319 q1320
            refine ⟨fun c => ?_, fun c => ?_⟩
            · exact hQ _ _ hM6_1318
            · refine ⟨(by first | assumption | exact ⟨by omega, by omega⟩), ?_⟩
              refine ⟨fun c => ?_, fun c => ?_⟩
              · unfold qX11_passAct_J86
                refine ⟨(by first | assumption | exact ⟨by omega, by omega⟩), ?_⟩
                refine ⟨fun c => ?_, fun c => ?_⟩
                · unfold qX11_passAct_J96
                  refine sX9_digit  hM6_1318  ?_
                  intro x12_1325 M12_1326 hM12_1326 gM12_1326 p1327 q1328
                  refine ⟨fun c => ?_, fun c => ?_⟩
                  · exact hQ _ _ hM12_1326
                  · exact hQ _ _ hM12_1326
                · refine ⟨(by first | assumption | exact ⟨by omega, by omega⟩), ?_⟩
                  refine ⟨fun c => ?_, fun c => ?_⟩
                  · exact hQ _ _ hM6_1318
                  · unfold qX11_passAct_J96
                    refine sX9_digit  hM6_1318  ?_
                    intro x12_1334 M12_1335 hM12_1335 gM12_1335 p1336 q1337
                    refine ⟨fun c => ?_, fun c => ?_⟩
                    · exact hQ _ _ hM12_1335
                    · exact hQ _ _ hM12_1335
              · refine sX9_look  hM6_1318  ?_
                intro x16_1341 p1342 q1343
                refine ⟨fun c => ?_, fun c => ?_⟩
                · unfold qX11_passAct_J86
                  refine ⟨(by first | assumption | exact ⟨by omega, by omega⟩), ?_⟩
                  refine ⟨fun c => ?_, fun c => ?_⟩
                  · unfold qX11_passAct_J96
                    refine sX9_digit  hM6_1318  ?_
                    intro x12_1346 M12_1347 hM12_1347 gM12_1347 p1348 q1349
                    refine ⟨fun c => ?_, fun c => ?_⟩
                    · exact hQ _ _ hM12_1347
                    · exact hQ _ _ hM12_1347
                  · refine ⟨(by first | assumption | exact ⟨by omega, by omega⟩), ?_⟩
                    refine ⟨fun c => ?_, fun c => ?_⟩
                    · exact hQ _ _ hM6_1318
                    · unfold qX11_passAct_J96
                      refine sX9_digit  hM6_1318  ?_
                      intro x12_1355 M12_1356 hM12_1356 gM12_1356 p1357 q1358
                      refine ⟨fun c => ?_, fun c => ?_⟩
                      · exact hQ _ _ hM12_1356
                      · exact hQ _ _ hM12_1356
                · exact hQ _ _ hM6_1318
          · exact hQ _ _ hI
  · refine ⟨fun c => ?_, fun c => ?_⟩
    · unfold qX11_passAct_J25
      refine ⟨(by first | assumption | exact ⟨by omega, by omega⟩), ?_⟩
      refine ⟨fun c => ?_, fun c => ?_⟩
      · unfold qX11_passAct_J50
        refine sX9_pass  hI  ?_
        intro M5_1366 hM5_1366 gM5_1366
        refine sX9_digit  hM5_1366  ?_
        intro x6_1367 M6_1368 hM6_1368 gM6_1368 p1369 q1370
        refine ⟨fun c => ?_, fun c => ?_⟩
        · exact hQ _ _ hM6_1368
        · refine ⟨(by first | assumption | exact ⟨by omega, by omega⟩), ?_⟩
          refine ⟨fun c => ?_, fun c => ?_⟩
          · unfold qX11_passAct_J86
            refine ⟨(by first | assumption | exact ⟨by omega, by omega⟩), ?_⟩
            refine ⟨fun c => ?_, fun c => ?_⟩
            · unfold qX11_passAct_J96
              refine sX9_digit  hM6_1368  ?_
              intro x12_1375 M12_1376 hM12_1376 gM12_1376 p1377 q1378
              refine ⟨fun c => ?_, fun c => ?_⟩
              · exact hQ _ _ hM12_1376
              · exact hQ _ _ hM12_1376
            · refine ⟨(by first | assumption | exact ⟨by omega, by omega⟩), ?_⟩
              refine ⟨fun c => ?_, fun c => ?_⟩
              · exact hQ _ _ hM6_1368
              · unfold qX11_passAct_J96
                refine sX9_digit  hM6_1368  ?_
                intro x12_1384 M12_1385 hM12_1385 gM12_1385 p1386 q1387
                refine ⟨fun c => ?_, fun c => ?_⟩
                · exact hQ _ _ hM12_1385
                · exact hQ _ _ hM12_1385
          · refine sX9_look  hM6_1368  ?_
            intro x16_1391 p1392 q1393
            refine ⟨fun c => ?_, fun c => ?_⟩
            · unfold qX11_passAct_J86
              refine ⟨(by first | assumption | exact ⟨by omega, by omega⟩), ?_⟩
              refine ⟨fun c => ?_, fun c => ?_⟩
              · unfold qX11_passAct_J96
                refine sX9_digit  hM6_1368  ?_
                intro x12_1396 M12_1397 hM12_1397 gM12_1397 p1398 q1399
                refine ⟨fun c => ?_, fun c => ?_⟩
                · exact hQ _ _ hM12_1397
                · exact hQ _ _ hM12_1397
              · refine ⟨(by first | assumption | exact ⟨by omega, by omega⟩), ?_⟩
                refine ⟨fun c => ?_, fun c => ?_⟩
                · exact hQ _ _ hM6_1368
                · unfold qX11_passAct_J96
                  refine sX9_digit  hM6_1368  ?_
                  intro x12_1405 M12_1406 hM12_1406 gM12_1406 p1407 q1408
                  refine ⟨fun c => ?_, fun c => ?_⟩
                  · exact hQ _ _ hM12_1406
                  · exact hQ _ _ hM12_1406
            · exact hQ _ _ hM6_1368
      · refine ⟨(by first | assumption | exact ⟨by omega, by omega⟩), ?_⟩
        refine ⟨fun c => ?_, fun c => ?_⟩
        · unfold qX11_passAct_J50
          refine sX9_pass  hI  ?_
          intro M5_1414 hM5_1414 gM5_1414
          refine sX9_digit  hM5_1414  ?_
          intro x6_1415 M6_1416 hM6_1416 gM6_1416 p1417 q1418
          refine ⟨fun c => ?_, fun c => ?_⟩
          · exact hQ _ _ hM6_1416
          · refine ⟨(by first | assumption | exact ⟨by omega, by omega⟩), ?_⟩
            refine ⟨fun c => ?_, fun c => ?_⟩
            · unfold qX11_passAct_J86
              refine ⟨(by first | assumption | exact ⟨by omega, by omega⟩), ?_⟩
              refine ⟨fun c => ?_, fun c => ?_⟩
              · unfold qX11_passAct_J96
                refine sX9_digit  hM6_1416  ?_
                intro x12_1423 M12_1424 hM12_1424 gM12_1424 p1425 q1426
                refine ⟨fun c => ?_, fun c => ?_⟩
                · exact hQ _ _ hM12_1424
                · exact hQ _ _ hM12_1424
              · refine ⟨(by first | assumption | exact ⟨by omega, by omega⟩), ?_⟩
                refine ⟨fun c => ?_, fun c => ?_⟩
                · exact hQ _ _ hM6_1416
                · unfold qX11_passAct_J96
                  refine sX9_digit  hM6_1416  ?_
                  intro x12_1432 M12_1433 hM12_1433 gM12_1433 p1434 q1435
                  refine ⟨fun c => ?_, fun c => ?_⟩
                  · exact hQ _ _ hM12_1433
                  · exact hQ _ _ hM12_1433
            · refine sX9_look  hM6_1416  ?_
              intro x16_1439 p1440 q1441
              refine ⟨fun c => ?_, fun c => ?_⟩
              · unfold qX11_passAct_J86
                refine ⟨(by first | assumption | exact ⟨by omega, by omega⟩), ?_⟩
                refine ⟨fun c => ?_, fun c => ?_⟩
                · unfold qX11_passAct_J96
                  refine sX9_digit  hM6_1416  ?_
                  intro x12_1444 M12_1445 hM12_1445 gM12_1445 p1446 q1447
                  refine ⟨fun c => ?_, fun c => ?_⟩
                  · exact hQ _ _ hM12_1445
                  · exact hQ _ _ hM12_1445
                · refine ⟨(by first | assumption | exact ⟨by omega, by omega⟩), ?_⟩
                  refine ⟨fun c => ?_, fun c => ?_⟩
                  · exact hQ _ _ hM6_1416
                  · unfold qX11_passAct_J96
                    refine sX9_digit  hM6_1416  ?_
                    intro x12_1453 M12_1454 hM12_1454 gM12_1454 p1455 q1456
                    refine ⟨fun c => ?_, fun c => ?_⟩
                    · exact hQ _ _ hM12_1454
                    · exact hQ _ _ hM12_1454
              · exact hQ _ _ hM6_1416
        · refine ⟨fun c => ?_, fun c => ?_⟩
          · unfold qX11_passAct_J50
            refine sX9_pass  hI  ?_
            intro M5_1462 hM5_1462 gM5_1462
            refine sX9_digit  hM5_1462  ?_
            intro x6_1463 M6_1464 hM6_1464 gM6_1464 p1465 q1466
            refine ⟨fun c => ?_, fun c => ?_⟩
            · exact hQ _ _ hM6_1464
            · refine ⟨(by first | assumption | exact ⟨by omega, by omega⟩), ?_⟩
              refine ⟨fun c => ?_, fun c => ?_⟩
              · unfold qX11_passAct_J86
                refine ⟨(by first | assumption | exact ⟨by omega, by omega⟩), ?_⟩
                refine ⟨fun c => ?_, fun c => ?_⟩
                · unfold qX11_passAct_J96
                  refine sX9_digit  hM6_1464  ?_
                  intro x12_1471 M12_1472 hM12_1472 gM12_1472 p1473 q1474
                  refine ⟨fun c => ?_, fun c => ?_⟩
                  · exact hQ _ _ hM12_1472
                  · exact hQ _ _ hM12_1472
                · refine ⟨(by first | assumption | exact ⟨by omega, by omega⟩), ?_⟩
                  refine ⟨fun c => ?_, fun c => ?_⟩
                  · exact hQ _ _ hM6_1464
                  · unfold qX11_passAct_J96
                    refine sX9_digit  hM6_1464  ?_
                    intro x12_1480 M12_1481 hM12_1481 gM12_1481 p1482 q1483
                    refine ⟨fun c => ?_, fun c => ?_⟩
                    · exact hQ _ _ hM12_1481
                    · exact hQ _ _ hM12_1481
              · refine sX9_look  hM6_1464  ?_
                intro x16_1487 p1488 q1489
                refine ⟨fun c => ?_, fun c => ?_⟩
                · unfold qX11_passAct_J86
                  refine ⟨(by first | assumption | exact ⟨by omega, by omega⟩), ?_⟩
                  refine ⟨fun c => ?_, fun c => ?_⟩
                  · unfold qX11_passAct_J96
                    refine sX9_digit  hM6_1464  ?_
                    intro x12_1492 M12_1493 hM12_1493 gM12_1493 p1494 q1495
                    refine ⟨fun c => ?_, fun c => ?_⟩
                    · exact hQ _ _ hM12_1493
                    · exact hQ _ _ hM12_1493
                  · refine ⟨(by first | assumption | exact ⟨by omega, by omega⟩), ?_⟩
                    refine ⟨fun c => ?_, fun c => ?_⟩
                    · exact hQ _ _ hM6_1464
                    · unfold qX11_passAct_J96
                      refine sX9_digit  hM6_1464  ?_
                      intro x12_1501 M12_1502 hM12_1502 gM12_1502 p1503 q1504
                      refine ⟨fun c => ?_, fun c => ?_⟩
                      · exact hQ _ _ hM12_1502
                      · exact hQ _ _ hM12_1502
                · exact hQ _ _ hM6_1464
          · refine ⟨fun c => ?_, fun c => ?_⟩
            · unfold qX11_passAct_J50
              refine sX9_pass  hI  ?_
              intro M5_1510 hM5_1510 gM5_1510
              refine sX9_digit  hM5_1510  ?_
              intro x6_1511 M6_1512 hM6_1512 gM6_1512 p1513 q1514
              refine ⟨fun c => ?_, fun c => ?_⟩
              · exact hQ _ _ hM6_1512
              · refine ⟨(by first | assumption | exact ⟨by omega, by omega⟩), ?_⟩
                refine ⟨fun c => ?_, fun c => ?_⟩
                · unfold qX11_passAct_J86
                  refine ⟨(by first | assumption | exact ⟨by omega, by omega⟩), ?_⟩
                  refine ⟨fun c => ?_, fun c => ?_⟩
                  · unfold qX11_passAct_J96
                    refine sX9_digit  hM6_1512  ?_
                    intro x12_1519 M12_1520 hM12_1520 gM12_1520 p1521 q1522
                    refine ⟨fun c => ?_, fun c => ?_⟩
                    · exact hQ _ _ hM12_1520
                    · exact hQ _ _ hM12_1520
                  · refine ⟨(by first | assumption | exact ⟨by omega, by omega⟩), ?_⟩
                    refine ⟨fun c => ?_, fun c => ?_⟩
                    · exact hQ _ _ hM6_1512
                    · unfold qX11_passAct_J96
                      refine sX9_digit  hM6_1512  ?_
                      intro x12_1528 M12_1529 hM12_1529 gM12_1529 p1530 q1531
                      refine ⟨fun c => ?_, fun c => ?_⟩
                      · exact hQ _ _ hM12_1529
                      · exact hQ _ _ hM12_1529
                · refine sX9_look  hM6_1512  ?_
                  intro x16_1535 p1536 q1537
                  refine ⟨fun c => ?_, fun c => ?_⟩
                  · unfold qX11_passAct_J86
                    refine ⟨(by first | assumption | exact ⟨by omega, by omega⟩), ?_⟩
                    refine ⟨fun c => ?_, fun c => ?_⟩
                    · unfold qX11_passAct_J96
                      refine sX9_digit  hM6_1512  ?_
                      intro x12_1540 M12_1541 hM12_1541 gM12_1541 p1542 q1543
                      refine ⟨fun c => ?_, fun c => ?_⟩
                      · exact hQ _ _ hM12_1541
                      · exact hQ _ _ hM12_1541
                    · refine ⟨(by first | assumption | exact ⟨by omega, by omega⟩), ?_⟩
                      refine ⟨fun c => ?_, fun c => ?_⟩
                      · exact hQ _ _ hM6_1512
                      · unfold qX11_passAct_J96
                        refine sX9_digit  hM6_1512  ?_
                        intro x12_1549 M12_1550 hM12_1550 gM12_1550 p1551 q1552
                        refine ⟨fun c => ?_, fun c => ?_⟩
                        · exact hQ _ _ hM12_1550
                        · exact hQ _ _ hM12_1550
                  · exact hQ _ _ hM6_1512
            · exact hQ _ _ hI
    · unfold qX11_passAct_J20
      unfold qX11_passAct_J25
      refine ⟨(by first | assumption | exact ⟨by omega, by omega⟩), ?_⟩
      refine ⟨fun c => ?_, fun c => ?_⟩
      · unfold qX11_passAct_J50
        refine sX9_pass  hI  ?_
        intro M5_1559 hM5_1559 gM5_1559
        refine sX9_digit  hM5_1559  ?_
        intro x6_1560 M6_1561 hM6_1561 gM6_1561 p1562 q1563
        refine ⟨fun c => ?_, fun c => ?_⟩
        · exact hQ _ _ hM6_1561
        · refine ⟨(by first | assumption | exact ⟨by omega, by omega⟩), ?_⟩
          refine ⟨fun c => ?_, fun c => ?_⟩
          · unfold qX11_passAct_J86
            refine ⟨(by first | assumption | exact ⟨by omega, by omega⟩), ?_⟩
            refine ⟨fun c => ?_, fun c => ?_⟩
            · unfold qX11_passAct_J96
              refine sX9_digit  hM6_1561  ?_
              intro x12_1568 M12_1569 hM12_1569 gM12_1569 p1570 q1571
              refine ⟨fun c => ?_, fun c => ?_⟩
              · exact hQ _ _ hM12_1569
              · exact hQ _ _ hM12_1569
            · refine ⟨(by first | assumption | exact ⟨by omega, by omega⟩), ?_⟩
              refine ⟨fun c => ?_, fun c => ?_⟩
              · exact hQ _ _ hM6_1561
              · unfold qX11_passAct_J96
                refine sX9_digit  hM6_1561  ?_
                intro x12_1577 M12_1578 hM12_1578 gM12_1578 p1579 q1580
                refine ⟨fun c => ?_, fun c => ?_⟩
                · exact hQ _ _ hM12_1578
                · exact hQ _ _ hM12_1578
          · refine sX9_look  hM6_1561  ?_
            intro x16_1584 p1585 q1586
            refine ⟨fun c => ?_, fun c => ?_⟩
            · unfold qX11_passAct_J86
              refine ⟨(by first | assumption | exact ⟨by omega, by omega⟩), ?_⟩
              refine ⟨fun c => ?_, fun c => ?_⟩
              · unfold qX11_passAct_J96
                refine sX9_digit  hM6_1561  ?_
                intro x12_1589 M12_1590 hM12_1590 gM12_1590 p1591 q1592
                refine ⟨fun c => ?_, fun c => ?_⟩
                · exact hQ _ _ hM12_1590
                · exact hQ _ _ hM12_1590
              · refine ⟨(by first | assumption | exact ⟨by omega, by omega⟩), ?_⟩
                refine ⟨fun c => ?_, fun c => ?_⟩
                · exact hQ _ _ hM6_1561
                · unfold qX11_passAct_J96
                  refine sX9_digit  hM6_1561  ?_
                  intro x12_1598 M12_1599 hM12_1599 gM12_1599 p1600 q1601
                  refine ⟨fun c => ?_, fun c => ?_⟩
                  · exact hQ _ _ hM12_1599
                  · exact hQ _ _ hM12_1599
            · exact hQ _ _ hM6_1561
      · refine ⟨(by first | assumption | exact ⟨by omega, by omega⟩), ?_⟩
        refine ⟨fun c => ?_, fun c => ?_⟩
        · unfold qX11_passAct_J50
          refine sX9_pass  hI  ?_
          intro M5_1607 hM5_1607 gM5_1607
          refine sX9_digit  hM5_1607  ?_
          intro x6_1608 M6_1609 hM6_1609 gM6_1609 p1610 q1611
          refine ⟨fun c => ?_, fun c => ?_⟩
          · exact hQ _ _ hM6_1609
          · refine ⟨(by first | assumption | exact ⟨by omega, by omega⟩), ?_⟩
            refine ⟨fun c => ?_, fun c => ?_⟩
            · unfold qX11_passAct_J86
              refine ⟨(by first | assumption | exact ⟨by omega, by omega⟩), ?_⟩
              refine ⟨fun c => ?_, fun c => ?_⟩
              · unfold qX11_passAct_J96
                refine sX9_digit  hM6_1609  ?_
                intro x12_1616 M12_1617 hM12_1617 gM12_1617 p1618 q1619
                refine ⟨fun c => ?_, fun c => ?_⟩
                · exact hQ _ _ hM12_1617
                · exact hQ _ _ hM12_1617
              · refine ⟨(by first | assumption | exact ⟨by omega, by omega⟩), ?_⟩
                refine ⟨fun c => ?_, fun c => ?_⟩
                · exact hQ _ _ hM6_1609
                · unfold qX11_passAct_J96
                  refine sX9_digit  hM6_1609  ?_
                  intro x12_1625 M12_1626 hM12_1626 gM12_1626 p1627 q1628
                  refine ⟨fun c => ?_, fun c => ?_⟩
                  · exact hQ _ _ hM12_1626
                  · exact hQ _ _ hM12_1626
            · refine sX9_look  hM6_1609  ?_
              intro x16_1632 p1633 q1634
              refine ⟨fun c => ?_, fun c => ?_⟩
              · unfold qX11_passAct_J86
                refine ⟨(by first | assumption | exact ⟨by omega, by omega⟩), ?_⟩
                refine ⟨fun c => ?_, fun c => ?_⟩
                · unfold qX11_passAct_J96
                  refine sX9_digit  hM6_1609  ?_
                  intro x12_1637 M12_1638 hM12_1638 gM12_1638 p1639 q1640
                  refine ⟨fun c => ?_, fun c => ?_⟩
                  · exact hQ _ _ hM12_1638
                  · exact hQ _ _ hM12_1638
                · refine ⟨(by first | assumption | exact ⟨by omega, by omega⟩), ?_⟩
                  refine ⟨fun c => ?_, fun c => ?_⟩
                  · exact hQ _ _ hM6_1609
                  · unfold qX11_passAct_J96
                    refine sX9_digit  hM6_1609  ?_
                    intro x12_1646 M12_1647 hM12_1647 gM12_1647 p1648 q1649
                    refine ⟨fun c => ?_, fun c => ?_⟩
                    · exact hQ _ _ hM12_1647
                    · exact hQ _ _ hM12_1647
              · exact hQ _ _ hM6_1609
        · refine ⟨fun c => ?_, fun c => ?_⟩
          · unfold qX11_passAct_J50
            refine sX9_pass  hI  ?_
            intro M5_1655 hM5_1655 gM5_1655
            refine sX9_digit  hM5_1655  ?_
            intro x6_1656 M6_1657 hM6_1657 gM6_1657 p1658 q1659
            refine ⟨fun c => ?_, fun c => ?_⟩
            · exact hQ _ _ hM6_1657
            · refine ⟨(by first | assumption | exact ⟨by omega, by omega⟩), ?_⟩
              refine ⟨fun c => ?_, fun c => ?_⟩
              · unfold qX11_passAct_J86
                refine ⟨(by first | assumption | exact ⟨by omega, by omega⟩), ?_⟩
                refine ⟨fun c => ?_, fun c => ?_⟩
                · unfold qX11_passAct_J96
                  refine sX9_digit  hM6_1657  ?_
                  intro x12_1664 M12_1665 hM12_1665 gM12_1665 p1666 q1667
                  refine ⟨fun c => ?_, fun c => ?_⟩
                  · exact hQ _ _ hM12_1665
                  · exact hQ _ _ hM12_1665
                · refine ⟨(by first | assumption | exact ⟨by omega, by omega⟩), ?_⟩
                  refine ⟨fun c => ?_, fun c => ?_⟩
                  · exact hQ _ _ hM6_1657
                  · unfold qX11_passAct_J96
                    refine sX9_digit  hM6_1657  ?_
                    intro x12_1673 M12_1674 hM12_1674 gM12_1674 p1675 q1676
                    refine ⟨fun c => ?_, fun c => ?_⟩
                    · exact hQ _ _ hM12_1674
                    · exact hQ _ _ hM12_1674
              · refine sX9_look  hM6_1657  ?_
                intro x16_1680 p1681 q1682
                refine ⟨fun c => ?_, fun c => ?_⟩
                · unfold qX11_passAct_J86
                  refine ⟨(by first | assumption | exact ⟨by omega, by omega⟩), ?_⟩
                  refine ⟨fun c => ?_, fun c => ?_⟩
                  · unfold qX11_passAct_J96
                    refine sX9_digit  hM6_1657  ?_
                    intro x12_1685 M12_1686 hM12_1686 gM12_1686 p1687 q1688
                    refine ⟨fun c => ?_, fun c => ?_⟩
                    · exact hQ _ _ hM12_1686
                    · exact hQ _ _ hM12_1686
                  · refine ⟨(by first | assumption | exact ⟨by omega, by omega⟩), ?_⟩
                    refine ⟨fun c => ?_, fun c => ?_⟩
                    · exact hQ _ _ hM6_1657
                    · unfold qX11_passAct_J96
                      refine sX9_digit  hM6_1657  ?_
                      intro x12_1694 M12_1695 hM12_1695 gM12_1695 p1696 q1697
                      refine ⟨fun c => ?_, fun c => ?_⟩
                      · exact hQ _ _ hM12_1695
                      · exact hQ _ _ hM12_1695
                · exact hQ _ _ hM6_1657
          · refine ⟨fun c => ?_, fun c => ?_⟩
            · unfold qX11_passAct_J50
              refine sX9_pass  hI  ?_
              intro M5_1703 hM5_1703 gM5_1703
              refine sX9_digit  hM5_1703  ?_
              intro x6_1704 M6_1705 hM6_1705 gM6_1705 p1706 q1707
              refine ⟨fun c => ?_, fun c => ?_⟩
              · exact hQ _ _ hM6_1705
              · refine ⟨(by first | assumption | exact ⟨by omega, by omega⟩), ?_⟩
                refine ⟨fun c => ?_, fun c => ?_⟩
                · unfold qX11_passAct_J86
                  refine ⟨(by first | assumption | exact ⟨by omega, by omega⟩), ?_⟩
                  refine ⟨fun c => ?_, fun c => ?_⟩
                  · unfold qX11_passAct_J96
                    refine sX9_digit  hM6_1705  ?_
                    intro x12_1712 M12_1713 hM12_1713 gM12_1713 p1714 q1715
                    refine ⟨fun c => ?_, fun c => ?_⟩
                    · exact hQ _ _ hM12_1713
                    · exact hQ _ _ hM12_1713
                  · refine ⟨(by first | assumption | exact ⟨by omega, by omega⟩), ?_⟩
                    refine ⟨fun c => ?_, fun c => ?_⟩
                    · exact hQ _ _ hM6_1705
                    · unfold qX11_passAct_J96
                      refine sX9_digit  hM6_1705  ?_
                      intro x12_1721 M12_1722 hM12_1722 gM12_1722 p1723 q1724
                      refine ⟨fun c => ?_, fun c => ?_⟩
                      · exact hQ _ _ hM12_1722
                      · exact hQ _ _ hM12_1722
                · refine sX9_look  hM6_1705  ?_
                  intro x16_1728 p1729 q1730
                  refine ⟨fun c => ?_, fun c => ?_⟩
                  · unfold qX11_passAct_J86
                    refine ⟨(by first | assumption | exact ⟨by omega, by omega⟩), ?_⟩
                    refine ⟨fun c => ?_, fun c => ?_⟩
                    · unfold qX11_passAct_J96
                      refine sX9_digit  hM6_1705  ?_
                      intro x12_1733 M12_1734 hM12_1734 gM12_1734 p1735 q1736
                      refine ⟨fun c => ?_, fun c => ?_⟩
                      · exact hQ _ _ hM12_1734
                      · exact hQ _ _ hM12_1734
                    · refine ⟨(by first | assumption | exact ⟨by omega, by omega⟩), ?_⟩
                      refine ⟨fun c => ?_, fun c => ?_⟩
                      · exact hQ _ _ hM6_1705
                      · unfold qX11_passAct_J96
                        refine sX9_digit  hM6_1705  ?_
                        intro x12_1742 M12_1743 hM12_1743 gM12_1743 p1744 q1745
                        refine ⟨fun c => ?_, fun c => ?_⟩
                        · exact hQ _ _ hM12_1743
                        · exact hQ _ _ hM12_1743
                  · exact hQ _ _ hM6_1705
            · exact hQ _ _ hI
theorem sX11_hourFault_L11  {X48 : Mem → Prop} {Q : Int → Mem → Prop} (hQ : ∀ z : Int, ∀ M' : Mem, IX M' → (-1 ≤ z ∧ z ≤ 80) → Q z M') (hX48 : ∀ M' : Mem, IX M' → X48 M') : ∀ (n : Nat) (v1 : Int) (M : Mem), IX M → (0 ≤ v1 ∧ v1 ≤ 60) → 60 - v1 < (n : Int) → qX11_hourFault_L11 X48 Q n v1 M := by
  intro n
  induction n with
  | zero => intro v1 M hI hv hm; exact absurd hm (by omega)
  | succ n ih =>
    intro v1 M hI hv hm
    rw [qX11_hourFault_L11]
    refine ⟨(by first | assumption | exact ⟨by omega, by omega⟩), ?_⟩
    refine ⟨fun c => ?_, fun c => ?_⟩
    · exact hX48 _ hI
    · refine sX9_isRead  hI  ?_
      intro x4_1752 q1753 q1754
      refine ⟨fun c => ?_, fun c => ?_⟩
      · exact hX48 _ hI
      · refine sX11_passAct  hI  ?_
        intro x6_1757 M6_1758 hM6_1758 q1759 q1760
        refine ⟨fun c => ?_, fun c => ?_⟩
        · exact ih _ _ hM6_1758 (by omega) (by omega)
        · intro x8_1763 ex8_1763 rx8_1763
          have bx8_1763 : 0 ≤ x8_1763 ∧ x8_1763 ≤ 80 := by rw [ex8_1763]; exact (bx_c156_2).mp (hM6_1758.bx _ _)
          exact hQ _ _ hM6_1758 (by omega)
theorem sX11_hourFault  {M : Mem} {Q : Int → Mem → Prop} (hI : IX M) (hQ : ∀ z : Int, ∀ M' : Mem, IX M' → (-1 ≤ z ∧ z ≤ 80) → Q z M') : qX11_hourFault M Q := by
  unfold qX11_hourFault
  refine sX9_open (p1 := 60) hI (by omega) ?_
  intro M1_1764 hM1_1764 gM1_1764
  refine ⟨61, ?_⟩
  refine sX11_hourFault_L11 ?_ ?_ _ _ _ hM1_1764 (by omega) (by omega)
  · exact hQ
  · intro M_1765 hM_1765
    unfold qX11_hourFault_J48
    refine sX9_isWhole  hM_1765  ?_
    intro x10_1766 q1767 q1768
    refine ⟨fun c => ?_, fun c => ?_⟩
    · intro x12_1770 ex12_1770 rx12_1770
      have bx12_1770 : 0 ≤ x12_1770 ∧ x12_1770 ≤ 80 := by rw [ex12_1770]; exact (bx_c156_2).mp (hM_1765.bx _ _)
      exact hQ _ _ hM_1765 (by omega)
    · exact hQ _ _ hM_1765 (by omega)
theorem sX11_hour_L32  {X92 : Int → Int → Int → Mem → Prop} {Q : Int → Mem → Prop} (hQ : ∀ z : Int, ∀ M' : Mem, IX M' → Q z M') (hX92 : ∀ w1 w2 w3 : Int, ∀ M' : Mem, IX M' → (-1 ≤ w1 ∧ w1 ≤ 80 ∧ 0 ≤ w2 ∧ w2 ≤ 60 ∧ 0 ≤ w3 ∧ w3 ≤ 1) → X92 w1 w2 w3 M') : ∀ (n : Nat) (v1 v2 v3 v4 : Int) (M : Mem), IX M → (-1 ≤ v1 ∧ v1 ≤ 80 ∧ 0 ≤ v2 ∧ v2 ≤ v4 ∧ 0 ≤ v3 ∧ v3 ≤ 1 ∧ 0 ≤ v4 ∧ v4 ≤ 60) → 60 - v4 < (n : Int) → qX11_hour_L32 X92 Q n v1 v2 v3 v4 M := by
  intro n
  induction n with
  | zero => intro v1 v2 v3 v4 M hI hv hm; exact absurd hm (by omega)
  | succ n ih =>
    intro v1 v2 v3 v4 M hI hv hm
    rw [qX11_hour_L32]
    refine ⟨(by first | assumption | exact ⟨by omega, by omega⟩), ?_⟩
    refine ⟨fun c => ?_, fun c => ?_⟩
    · exact hX92 _ _ _ _ hI (by omega)
    · refine ⟨(by first | assumption | exact ⟨by omega, by omega⟩), ?_⟩
      refine ⟨fun c => ?_, fun c => ?_⟩
      · exact hX92 _ _ _ _ hI (by omega)
      · refine ⟨(by first | assumption | exact ⟨by omega, by omega⟩), ?_⟩
        refine ⟨fun c => ?_, fun c => ?_⟩
        · exact hX92 _ _ _ _ hI (by omega)
        · refine sX9_isRead  hI  ?_
          intro x10_1778 q1779 q1780
          refine ⟨fun c => ?_, fun c => ?_⟩
          · exact hX92 _ _ _ _ hI (by omega)
          · refine sX11_doAct  hI  ?_
            intro x12_1783 M12_1784 hM12_1784 q1785
            refine sX11_isDone (p0 := x12_1783) hM12_1784  ?_
            intro x13_1786 q1787 q1788
            refine ⟨fun c => ?_, fun c => ?_⟩
            · unfold qX11_hour_J73
              refine ⟨(by first | assumption | exact ⟨by omega, by omega⟩), ?_⟩
              refine ⟨fun c => ?_, fun c => ?_⟩
              · exact ih _ _ _ _ _ hM12_1784 (by omega) (by omega)
              · exact ih _ _ _ _ _ hM12_1784 (by omega) (by omega)
            · unfold qX11_hour_J73
              refine ⟨(by first | assumption | exact ⟨by omega, by omega⟩), ?_⟩
              refine ⟨fun c => ?_, fun c => ?_⟩
              · exact ih _ _ _ _ _ hM12_1784 (by omega) (by omega)
              · exact ih _ _ _ _ _ hM12_1784 (by omega) (by omega)
theorem sX11_hour  {M : Mem} {Q : Int → Mem → Prop} (hI : IX M) (hQ : ∀ z : Int, ∀ M' : Mem, IX M' → Q z M') : qX11_hour M Q := by
  unfold qX11_hour
  refine sX11_hourFault  hI  ?_
  intro x1_1795 M1_1796 hM1_1796 p1797 q1798
  refine sX6_copyFrom  hM1_1796 (show isS 22 by decide) (show isS 1 by decide) ?_
  intro M2_1799 hM2_1799 gM2_1799
  refine sX9_open (p1 := 60) hM2_1799 (by omega) ?_
  intro M3_1800 hM3_1800 gM3_1800
  refine ⟨61, ?_⟩
  refine sX11_hour_L32 ?_ ?_ _ _ _ _ _ _ hM3_1800 (by omega) (by omega)
  · exact hQ
  · intro v1_1801 v2_1802 v3_1803 M_1804 hM_1804 p1805
    unfold qX11_hour_J92
    refine sX9_clear  hM_1804  ?_
    intro M18_1806 hM18_1806 gM18_1806
    refine ⟨(by first | assumption | exact ⟨by omega, by omega⟩), ?_⟩
    refine ⟨fun c => ?_, fun c => ?_⟩
    · refine ⟨(by first | assumption | exact ⟨by omega, by omega⟩), ?_⟩
      refine ⟨fun c => ?_, fun c => ?_⟩
      · unfold qX11_hour_J123
        refine ⟨(by first | assumption | exact ⟨by omega, by omega⟩), ?_⟩
        refine ⟨fun c => ?_, fun c => ?_⟩
        · unfold qX11_hour_J136
          intro x25_1810 ex25_1810 rx25_1810
          have bx25_1810 : -2147483648 ≤ x25_1810 ∧ x25_1810 ≤ 2147483647 := rx25_1810
          refine ⟨(by first | assumption | exact ⟨by omega, by omega⟩ | exact iR_lR (by first | assumption | exact ⟨by omega, by omega⟩)), ?_⟩
          refine sX4_tellTwo (p1 := 0) (p3 := x25_1810) hM18_1806  ?_
          intro M27_1811 hM27_1811
          refine ⟨(by first | assumption | exact ⟨by omega, by omega⟩), ?_⟩
          exact hQ _ _ hM27_1811
        · unfold qX11_hour_J136
          intro x25_1813 ex25_1813 rx25_1813
          have bx25_1813 : -2147483648 ≤ x25_1813 ∧ x25_1813 ≤ 2147483647 := rx25_1813
          refine ⟨(by first | assumption | exact ⟨by omega, by omega⟩ | exact iR_lR (by first | assumption | exact ⟨by omega, by omega⟩)), ?_⟩
          refine sX4_tellTwo (p1 := 1) (p3 := x25_1813) hM18_1806  ?_
          intro M27_1814 hM27_1814
          refine ⟨(by first | assumption | exact ⟨by omega, by omega⟩), ?_⟩
          exact hQ _ _ hM27_1814
      · refine sX1_add  hM18_1806 (show isS 22 by decide) ?_
        intro M29_1816 hM29_1816
        unfold qX11_hour_J123
        refine ⟨(by first | assumption | exact ⟨by omega, by omega⟩), ?_⟩
        refine ⟨fun c => ?_, fun c => ?_⟩
        · unfold qX11_hour_J136
          intro x25_1818 ex25_1818 rx25_1818
          have bx25_1818 : -2147483648 ≤ x25_1818 ∧ x25_1818 ≤ 2147483647 := rx25_1818
          refine ⟨(by first | assumption | exact ⟨by omega, by omega⟩ | exact iR_lR (by first | assumption | exact ⟨by omega, by omega⟩)), ?_⟩
          refine sX4_tellTwo (p1 := 0) (p3 := x25_1818) hM29_1816  ?_
          intro M27_1819 hM27_1819
          refine ⟨(by first | assumption | exact ⟨by omega, by omega⟩), ?_⟩
          exact hQ _ _ hM27_1819
        · unfold qX11_hour_J136
          intro x25_1821 ex25_1821 rx25_1821
          have bx25_1821 : -2147483648 ≤ x25_1821 ∧ x25_1821 ≤ 2147483647 := rx25_1821
          refine ⟨(by first | assumption | exact ⟨by omega, by omega⟩ | exact iR_lR (by first | assumption | exact ⟨by omega, by omega⟩)), ?_⟩
          refine sX4_tellTwo (p1 := 1) (p3 := x25_1821) hM29_1816  ?_
          intro M27_1822 hM27_1822
          refine ⟨(by first | assumption | exact ⟨by omega, by omega⟩), ?_⟩
          exact hQ _ _ hM27_1822
    · refine ⟨(by first | assumption | exact ⟨by omega, by omega⟩), ?_⟩
      exact hQ _ _ hM18_1806
theorem sX1_takeBack {k1 : Nat} {M : Mem} {Q : Int → Mem → Prop} (hI : IX M) (hk1 : isS k1) (hQ : ∀ z : Int, ∀ M' : Mem, IX M' → Q z M') : qX1_takeBack k1 M Q := by
  unfold qX1_takeBack
  have ek1 : 0 < k1 ∧ k1 < 155 ∧ (k1 - 1) % 7 = 0 := hk1
  intro x1_1824 ex1_1824 rx1_1824
  have bx1_1824 : 0 ≤ x1_1824 ∧ x1_1824 ≤ 15 := by rw [ex1_1824]; exact (bx_c163_2).mp (hI.bx _ _)
  refine ⟨fun c => ?_, fun c => ?_⟩
  · intro x3_1826 ex3_1826 rx3_1826
    have bx3_1826 : 0 ≤ x3_1826 ∧ x3_1826 ≤ 15 := by rw [ex3_1826]; exact (bx_c163_2).mp (hI.bx _ _)
    refine ⟨(by first | assumption | exact ⟨by omega, by omega⟩), ?_⟩
    intro M5_1827 h_M5_1827
    have hM5_1827 : IX M5_1827 := by rw [h_M5_1827]; exact hI.up (by decide) ((bx_c163_2).mpr ⟨by omega, by omega⟩)
    intro x6_1828 ex6_1828 rx6_1828
    have bx6_1828 : 0 ≤ x6_1828 ∧ x6_1828 ≤ 14 := by rw [ex6_1828]; exact (bx_c163_1).mp (hM5_1827.bx _ _)
    have fx6_1828 : x6_1828 = M 163 1 := by rw [ex6_1828, h_M5_1827, up2_j (by decide)]
    intro x7_1829 ex7_1829 rx7_1829
    have bx7_1829 : 0 ≤ x7_1829 ∧ x7_1829 ≤ 15 := by rw [ex7_1829]; exact (bx_c163_2).mp (hM5_1827.bx _ _)
    have fx7_1829 : x7_1829 = x3_1826 - 1 := by rw [ex7_1829, h_M5_1827, up2_s]
    intro x8_1830 ex8_1830 rx8_1830
    first | (have fx8_1830 := rmI_b (a := x6_1828 + x7_1829) (b := 15) ⟨by omega, by omega⟩ ⟨by omega, by omega⟩; rw [← ex8_1830] at fx8_1830) | skip
    refine ⟨by omega, ?_⟩
    refine ⟨by omega, ?_⟩
    refine sX6_copyFrom  hM5_1827 hk1 (isS_hist (e := x8_1830) (by omega) (by omega)) ?_
    intro M11_1831 hM11_1831 gM11_1831
    exact hQ _ _ hM11_1831
  · exact hQ _ _ hI
theorem sX11_undo  {M : Mem} {Q : Int → Mem → Prop} (hI : IX M) (hQ : ∀ z : Int, ∀ M' : Mem, IX M' → Q z M') : qX11_undo M Q := by
  unfold qX11_undo
  refine sX1_takeBack  hI (show isS 1 by decide) ?_
  intro x1_1833 M1_1834 hM1_1834 q1835 q1836
  refine ⟨fun c => ?_, fun c => ?_⟩
  · exact hQ _ _ hM1_1834
  · intro x3_1839 ex3_1839 rx3_1839
    have bx3_1839 : 0 ≤ x3_1839 ∧ x3_1839 ≤ 15 := by rw [ex3_1839]; exact (bx_c163_2).mp (hM1_1834.bx _ _)
    exact hQ _ _ hM1_1834
theorem sX11_line_L17   {Q : Int → Mem → Prop} (hQ : ∀ z : Int, ∀ M' : Mem, IX M' → Q z M') : ∀ (n : Nat) (v1 v2 : Int) (M : Mem), IX M → (-1 ≤ v1 ∧ v1 ≤ 30 ∧ 0 ≤ v2 ∧ v2 ≤ 6) → 6 - v2 < (n : Int) → qX11_line_L17 Q n v1 v2 M := by
  intro n
  induction n with
  | zero => intro v1 v2 M hI hv hm; exact absurd hm (by omega)
  | succ n ih =>
    intro v1 v2 M hI hv hm
    rw [qX11_line_L17]
    refine ⟨(by first | assumption | exact ⟨by omega, by omega⟩), ?_⟩
    refine ⟨fun c => ?_, fun c => ?_⟩
    · intro x5_1841 ex5_1841 rx5_1841
      have bx5_1841 : 0 ≤ x5_1841 ∧ x5_1841 ≤ 8 := by rw [ex5_1841]; exact (bx_c167_1).mp (hI.bx _ _)
      exact hQ _ _ hI
    · refine ⟨(by first | assumption | exact ⟨by omega, by omega⟩), ?_⟩
      refine sX6_foremostBelow (p1 := v1) hI (show isS 1 by decide) ?_
      intro x7_1843 p1844 q1845
      refine ⟨fun c => ?_, fun c => ?_⟩
      · refine ⟨by omega, ?_⟩
        refine ⟨by omega, ?_⟩
        intro x11_1847 ex11_1847 rx11_1847
        have bx11_1847 : -1 ≤ x11_1847 ∧ x11_1847 ≤ 29 := by rw [ex11_1847]; exact (bx_s1 (show isS 1 by decide)).mp (hI.bx _ _)
        refine sX4_add (p1 := x7_1843) hI  ?_
        intro M12_1848 hM12_1848
        exact ih _ _ _ hM12_1848 (by omega) (by omega)
      · intro x13_1850 ex13_1850 rx13_1850
        have bx13_1850 : 0 ≤ x13_1850 ∧ x13_1850 ≤ 8 := by rw [ex13_1850]; exact (bx_c167_1).mp (hI.bx _ _)
        exact hQ _ _ hI
theorem sX11_line  {M : Mem} {Q : Int → Mem → Prop} (hI : IX M) (hQ : ∀ z : Int, ∀ M' : Mem, IX M' → Q z M') : qX11_line M Q := by
  unfold qX11_line
  refine sX4_clear  hI  ?_
  intro M1_1851 hM1_1851
  intro x2_1852 ex2_1852 rx2_1852
  have bx2_1852 : 4 ≤ x2_1852 ∧ x2_1852 ≤ 30 := by rw [ex2_1852]; exact (bx_c158_1).mp (hM1_1851.bx _ _)
  refine ⟨7, ?_⟩
  refine sX11_line_L17 ?_ _ _ _ _ hM1_1851 (by omega) (by omega)
  · exact hQ
theorem sX11_ahead_L48 {p1 : Int}  {Q : Int → Mem → Prop} (hQ : ∀ z : Int, ∀ M' : Mem, IX M' → Q z M') : ∀ (n : Nat) (v2 : Int) (M : Mem), IX M → (0 ≤ v2 ∧ v2 ≤ 6) → 6 - v2 < (n : Int) → qX11_ahead_L48 p1 Q n v2 M := by
  intro n
  induction n with
  | zero => intro v2 M hI hv hm; exact absurd hm (by omega)
  | succ n ih =>
    intro v2 M hI hv hm
    rw [qX11_ahead_L48]
    intro x7_1853 ex7_1853 rx7_1853
    have bx7_1853 : 0 ≤ x7_1853 ∧ x7_1853 ≤ 6 := by rw [ex7_1853]; exact (bx_s0_6 (show isS 8 by decide)).mp (hI.bx _ _)
    refine ⟨(by first | assumption | exact ⟨by omega, by omega⟩), ?_⟩
    refine ⟨fun c => ?_, fun c => ?_⟩
    · intro x10_1855 ex10_1855 rx10_1855
      have bx10_1855 : -2147483648 ≤ x10_1855 ∧ x10_1855 ≤ 2147483647 := rx10_1855
      exact hQ _ _ hI
    · refine ⟨by omega, ?_⟩
      refine ⟨by omega, ?_⟩
      intro x13_1857 ex13_1857 rx13_1857
      have bx13_1857 : -1 ≤ x13_1857 ∧ x13_1857 ≤ 29 := by rw [ex13_1857]; exact (bx_s1 (show isS 8 by decide)).mp (hI.bx _ _)
      refine sX4_add (p1 := x13_1857) hI  ?_
      intro M14_1858 hM14_1858
      exact ih _ _ hM14_1858 (by omega) (by omega)
theorem sX11_ahead {p1 : Int} {M : Mem} {Q : Int → Mem → Prop} (hI : IX M) (hQ : ∀ z : Int, ∀ M' : Mem, IX M' → Q z M') : qX11_ahead p1 M Q := by
  unfold qX11_ahead
  refine ⟨fun c => ?_, fun c => ?_⟩
  · exact hQ _ _ hI
  · refine ⟨fun c => ?_, fun c => ?_⟩
    · refine sX6_copyFrom  hI (show isS 8 by decide) (show isS 1 by decide) ?_
      intro M3_1862 hM3_1862 gM3_1862
      refine ⟨(hM3_1862).l16, ?_⟩
      refine sX10_walk (p3 := p1) hM3_1862 (show isS 8 by decide) (hM3_1862).l16 (by omega) ?_
      intro M5_1863 hM5_1863
      refine sX4_clear  hM5_1863  ?_
      intro M6_1864 hM6_1864
      refine ⟨7, ?_⟩
      refine sX11_ahead_L48 ?_ _ _ _ hM6_1864 (by omega) (by omega)
      · exact hQ
    · exact hQ _ _ hI
theorem sX4_tellOne {p1 : Int} {M : Mem} {Q : Mem → Prop} (hI : IX M) (hQ : ∀ M' : Mem, IX M' → Q M') : qX4_tellOne p1 M Q := by
  unfold qX4_tellOne
  refine sX4_clear  hI  ?_
  intro M1_1866 hM1_1866
  refine sX4_add (p1 := p1) hM1_1866  ?_
  intro M2_1867 hM2_1867
  exact hQ _ hM2_1867
theorem sX11_arrives_L26 {p1 : Int} {X65 : Int → Mem → Prop} {Q : Int → Mem → Prop} (hQ : ∀ z : Int, ∀ M' : Mem, IX M' → Q z M') (hX65 : ∀ w1 : Int, ∀ M' : Mem, IX M' → (0 ≤ w1 ∧ w1 ≤ 200 ∧ 0 ≤ p1 ∧ p1 ≤ 5) → X65 w1 M') : ∀ (n : Nat) (v2 : Int) (M : Mem), IX M → (0 ≤ v2 ∧ v2 ≤ 200 ∧ 0 ≤ p1 ∧ p1 ≤ 5) → 200 - v2 < (n : Int) → qX11_arrives_L26 p1 X65 Q n v2 M := by
  intro n
  induction n with
  | zero => intro v2 M hI hv hm; exact absurd hm (by omega)
  | succ n ih =>
    intro v2 M hI hv hm
    rw [qX11_arrives_L26]
    refine ⟨(by first | assumption | exact ⟨by omega, by omega⟩), ?_⟩
    refine ⟨fun c => ?_, fun c => ?_⟩
    · exact hX65 _ _ hI (by omega)
    · refine sX6_hasArrived (p1 := p1) hI (show isS 8 by decide) (by omega) ?_
      intro x6_1870 q1871 q1872
      refine ⟨fun c => ?_, fun c => ?_⟩
      · exact hX65 _ _ hI (by omega)
      · refine ⟨(hI).l16, ?_⟩
        refine sX10_advance  hI (show isS 8 by decide) (hI).l16 ?_
        intro M9_1875 hM9_1875
        exact ih _ _ hM9_1875 (by omega) (by omega)
theorem sX11_arrives {p1 : Int} {M : Mem} {Q : Int → Mem → Prop} (hI : IX M) (hQ : ∀ z : Int, ∀ M' : Mem, IX M' → Q z M') : qX11_arrives p1 M Q := by
  unfold qX11_arrives
  refine sX6_isHearse (p1 := p1) hI (show isS 1 by decide) ?_
  intro x1_1876 p1877 q1878 q1879
  refine ⟨fun c => ?_, fun c => ?_⟩
  · refine sX6_copyFrom  hI (show isS 8 by decide) (show isS 1 by decide) ?_
    intro M3_1881 hM3_1881 gM3_1881
    refine ⟨201, ?_⟩
    refine sX11_arrives_L26 ?_ ?_ _ _ _ hM3_1881 (by omega) (by omega)
    · exact hQ
    · intro v2_1882 M_1883 hM_1883 p1884
      unfold qX11_arrives_J65
      refine sX6_hasArrived (p1 := p1) hM_1883 (show isS 8 by decide) (by omega) ?_
      intro x11_1885 q1886 q1887
      refine ⟨fun c => ?_, fun c => ?_⟩
      · refine ⟨by omega, ?_⟩
        refine ⟨by omega, ?_⟩
        intro x15_1889 ex15_1889 rx15_1889
        have bx15_1889 : -2147483648 ≤ x15_1889 ∧ x15_1889 ≤ 2147483647 := rx15_1889
        refine sX4_tellOne (p1 := x15_1889) hM_1883  ?_
        intro M16_1890 hM16_1890
        refine ⟨(by first | assumption | exact ⟨by omega, by omega⟩), ?_⟩
        exact hQ _ _ hM16_1890
      · exact hQ _ _ hM_1883
  · exact hQ _ _ hI
theorem sX11_jam_L44 {p1 : Int} {X84 : Int → Mem → Prop} {Q : Int → Mem → Prop} (hQ : ∀ z : Int, ∀ M' : Mem, IX M' → Q z M') (hX84 : ∀ w1 : Int, ∀ M' : Mem, IX M' → (0 ≤ w1 ∧ w1 ≤ 29) → X84 w1 M') : ∀ (n : Nat) (v2 v3 : Int) (M : Mem), IX M → (0 ≤ v2 ∧ v2 ≤ 29 ∧ 1 ≤ v3 ∧ v3 ≤ 30) → 30 - v3 < (n : Int) → qX11_jam_L44 p1 X84 Q n v2 v3 M := by
  intro n
  induction n with
  | zero => intro v2 v3 M hI hv hm; exact absurd hm (by omega)
  | succ n ih =>
    intro v2 v3 M hI hv hm
    rw [qX11_jam_L44]
    intro x6_1893 ex6_1893 rx6_1893
    have bx6_1893 : 4 ≤ x6_1893 ∧ x6_1893 ≤ 30 := by rw [ex6_1893]; exact (bx_c158_1).mp (hI.bx _ _)
    refine ⟨(by first | assumption | exact ⟨by omega, by omega⟩), ?_⟩
    refine ⟨fun c => ?_, fun c => ?_⟩
    · exact hX84 _ _ hI (by omega)
    · refine ⟨by omega, ?_⟩
      refine ⟨by omega, ?_⟩
      intro x11_1896 ex11_1896 rx11_1896
      have bx11_1896 : -2147483648 ≤ x11_1896 ∧ x11_1896 ≤ 2147483647 := rx11_1896
      refine ⟨by omega, ?_⟩
      refine ⟨by omega, ?_⟩
      intro x14_1897 ex14_1897 rx14_1897
      have bx14_1897 : -2147483648 ≤ x14_1897 ∧ x14_1897 ≤ 2147483647 := rx14_1897
      refine ⟨fun c => ?_, fun c => ?_⟩
      · exact ih _ _ _ hI (by omega) (by omega)
      · exact ih _ _ _ hI (by omega) (by omega)
theorem sX11_jam {p1 : Int} {M : Mem} {Q : Int → Mem → Prop} (hI : IX M) (hQ : ∀ z : Int, ∀ M' : Mem, IX M' → Q z M') : qX11_jam p1 M Q := by
  unfold qX11_jam
  refine ⟨fun c => ?_, fun c => ?_⟩
  · exact hQ _ _ hI
  · refine ⟨fun c => ?_, fun c => ?_⟩
    · refine sX6_copyFrom  hI (show isS 8 by decide) (show isS 1 by decide) ?_
      intro M3_1903 hM3_1903 gM3_1903
      refine ⟨(hM3_1903).l16, ?_⟩
      refine sX10_walk (p3 := p1) hM3_1903 (show isS 8 by decide) (hM3_1903).l16 (by omega) ?_
      intro M5_1904 hM5_1904
      refine ⟨31, ?_⟩
      refine sX11_jam_L44 ?_ ?_ _ _ _ _ hM5_1904 (by omega) (by omega)
      · exact hQ
      · intro v2_1905 M_1906 hM_1906 p1907
        refine ⟨by omega, ?_⟩
        refine ⟨by omega, ?_⟩
        intro x19_1908 ex19_1908 rx19_1908
        have bx19_1908 : -2147483648 ≤ x19_1908 ∧ x19_1908 ≤ 2147483647 := rx19_1908
        intro x20_1909 ex20_1909 rx20_1909
        have bx20_1909 : -2147483648 ≤ x20_1909 ∧ x20_1909 ≤ 2147483647 := rx20_1909
        refine sX4_tellTwo (p1 := x19_1908) (p3 := x20_1909) hM_1906  ?_
        intro M21_1910 hM21_1910
        refine ⟨(by first | assumption | exact ⟨by omega, by omega⟩), ?_⟩
        exact hQ _ _ hM21_1910
    · exact hQ _ _ hI
theorem sX6_isAheadOf {k0 : Nat} {p1 : Int} {p2 : Int} {M : Mem} {Q : Int → Mem → Prop} (hI : IX M) (hk0 : isS k0) (hp : 0 ≤ p1 ∧ p1 ≤ 5 ∧ 0 ≤ p2 ∧ p2 ≤ 5) (hQ : ∀ z : Int, Q z M) : qX6_isAheadOf k0 p1 p2 M Q := by
  unfold qX6_isAheadOf
  have ek0 : 0 < k0 ∧ k0 < 155 ∧ (k0 - 1) % 7 = 0 := hk0
  refine sX6_hasArrived (p1 := p1) hI hk0 (by omega) ?_
  intro x1_1912 q1913 q1914
  refine ⟨fun c => ?_, fun c => ?_⟩
  · refine sX6_hasArrived (p1 := p2) hI hk0 (by omega) ?_
    intro x3_1916 q1917 q1918
    refine ⟨fun c => ?_, fun c => ?_⟩
    · exact hQ _
    · refine ⟨by omega, ?_⟩
      refine ⟨by omega, ?_⟩
      intro x7_1921 ex7_1921 rx7_1921
      have bx7_1921 : -1 ≤ x7_1921 ∧ x7_1921 ≤ 29 := by rw [ex7_1921]; exact (bx_s1 hk0).mp (hI.bx _ _)
      refine ⟨by omega, ?_⟩
      refine ⟨by omega, ?_⟩
      intro x10_1922 ex10_1922 rx10_1922
      have bx10_1922 : -1 ≤ x10_1922 ∧ x10_1922 ≤ 29 := by rw [ex10_1922]; exact (bx_s1 hk0).mp (hI.bx _ _)
      refine ⟨fun c => ?_, fun c => ?_⟩
      · exact hQ _
      · exact hQ _
  · refine sX6_hasArrived (p1 := p2) hI hk0 (by omega) ?_
    intro x12_1926 q1927 q1928
    refine ⟨fun c => ?_, fun c => ?_⟩
    · exact hQ _
    · refine ⟨by omega, ?_⟩
      refine ⟨by omega, ?_⟩
      intro x16_1931 ex16_1931 rx16_1931
      have bx16_1931 : -2147483648 ≤ x16_1931 ∧ x16_1931 ≤ 2147483647 := rx16_1931
      refine ⟨by omega, ?_⟩
      refine ⟨by omega, ?_⟩
      intro x19_1932 ex19_1932 rx19_1932
      have bx19_1932 : -2147483648 ≤ x19_1932 ∧ x19_1932 ≤ 2147483647 := rx19_1932
      refine ⟨fun c => ?_, fun c => ?_⟩
      · exact hQ _
      · exact hQ _
