theorem sX2_addLetter {k0 : Nat} {p1 : Int} {M : Mem} {Q : Mem → Prop} (hI : IX M) (hk0 : isL k0) (hp : 0 ≤ p1 ∧ p1 ≤ 6) (hQ : ∀ M' : Mem, IX M' → Fr (fun i => i = k0 ∨ i = k0 + 1 ∨ i = k0 + 2) M M' → Q M') : qX2_addLetter k0 p1 M Q := by
  unfold qX2_addLetter
  have ek0 : k0 = 187 ∨ k0 = 192 := hk0
  refine sX2_add (p1 := 301) (p2 := p1) hI hk0 (by omega) ?_
  intro M1_1 hM1_1 gM1_1
  have hFM1_1 : Fr (fun i => i = k0 ∨ i = k0 + 1 ∨ i = k0 + 2) M M1_1 := (Fr.rf).tr (gM1_1.mono (by intro i h; omega))
  intro x2_2 ex2_2 rx2_2
  have bx2_2 : -2147483648 ≤ x2_2 ∧ x2_2 ≤ 2147483647 := rx2_2
  intro x3_3 ex3_3 rx3_3
  first | (have fx3_3 := slI_1 (b := p1) ⟨by omega, by omega⟩; rw [← ex3_3] at fx3_3) | skip
  intro x4_4 ex4_4 rx4_4
  first | (have fx4_4 := oI_64 (a := x2_2) (b := x3_3) ⟨by omega, by omega⟩ ⟨by omega, by omega⟩; rw [← ex4_4] at fx4_4) | skip
  intro M5_5 h_M5_5
  have hM5_5 : IX M5_5 := by rw [h_M5_5]; exact hM1_1.up (isL.nsp0 hk0) (bx_lf0 hk0 (by decide))
  have hFM5_5 : Fr (fun i => i = k0 ∨ i = k0 + 1 ∨ i = k0 + 2) M M5_5 := by rw [h_M5_5]; exact (hFM1_1).up (by omega)
  exact hQ _ hM5_5 hFM5_5
theorem sX2_clear {k0 : Nat} {M : Mem} {Q : Mem → Prop} (hI : IX M) (hk0 : isL k0) (hQ : ∀ M' : Mem, IX M' → Q M') : qX2_clear k0 M Q := by
  unfold qX2_clear
  have ek0 : k0 = 187 ∨ k0 = 192 := hk0
  intro M1_6 h_M1_6
  have hM1_6 : IX M1_6 := by rw [h_M1_6]; exact hI.up (isL.nsp0 hk0) ((bx_l4 hk0).mpr ⟨by omega, by omega⟩)
  intro M2_7 h_M2_7
  have hM2_7 : IX M2_7 := by rw [h_M2_7]; exact hM1_6.up (isL.nsp0 hk0) (bx_lf0 hk0 (by decide))
  exact hQ _ hM2_7
theorem sX2_becomePlain {k0 : Nat} {M : Mem} {Q : Mem → Prop} (hI : IX M) (hk0 : isL k0) (hQ : ∀ M' : Mem, IX M' → Q M') : qX2_becomePlain k0 M Q := by
  unfold qX2_becomePlain
  have ek0 : k0 = 187 ∨ k0 = 192 := hk0
  refine sX2_clear  hI hk0 ?_
  intro M1_8 hM1_8
  refine sX2_add (p1 := 300) (p2 := 1) hM1_8 hk0 (by omega) ?_
  intro M2_9 hM2_9 gM2_9
  refine sX2_addLetter (p1 := 1) hM2_9 hk0 (by omega) ?_
  intro M3_10 hM3_10 gM3_10
  refine sX2_add (p1 := 300) (p2 := 2) hM3_10 hk0 (by omega) ?_
  intro M4_11 hM4_11 gM4_11
  refine sX2_add (p1 := 62) (p2 := 0) hM4_11 hk0 (by omega) ?_
  intro M5_12 hM5_12 gM5_12
  refine sX2_add (p1 := 43) (p2 := 0) hM5_12 hk0 (by omega) ?_
  intro M6_13 hM6_13 gM6_13
  exact hQ _ hM6_13
theorem sX9_addFour_L16 {p1 : Int}  {Q : Int → Mem → Prop} (hQ : ∀ z : Int, ∀ M' : Mem, IX M' → Q z M') : ∀ (n : Nat) (v2 : Int) (M : Mem), IX M → (8 * M 156 1 + v2 ≤ 632 ∧ -8 ≤ v2 ∧ v2 ≤ 24) → v2 + 8 < (n : Int) → qX9_addFour_L16 p1 Q n v2 M := by
  intro n
  induction n with
  | zero => intro v2 M hI hv hm; exact absurd hm (by omega)
  | succ n ih =>
    intro v2 M hI hv hm
    rw [qX9_addFour_L16]
    refine ⟨(by first | assumption | exact ⟨by omega, by omega⟩), ?_⟩
    refine ⟨fun c => ?_, fun c => ?_⟩
    · exact hQ _ _ hI
    · intro x6_16 ex6_16 rx6_16
      have bx6_16 : 0 ≤ x6_16 ∧ x6_16 ≤ 80 := by rw [ex6_16]; exact (bx_c156_1).mp (hI.bx _ _)
      intro x7_17 ex7_17 rx7_17
      intro x8_18 ex8_18 rx8_18
      have fx8_18 := aI_255 x7_17; rw [← ex8_18] at fx8_18
      refine ⟨by omega, ?_⟩
      refine ⟨by omega, ?_⟩
      intro M11_19 h_M11_19
      have hM11_19 : IX M11_19 := by rw [h_M11_19]; exact hI.up (by decide) ((bx_c157).mpr ⟨by omega, by omega⟩)
      intro x12_20 ex12_20 rx12_20
      have bx12_20 : 0 ≤ x12_20 ∧ x12_20 ≤ 80 := by rw [ex12_20]; exact (bx_c156_1).mp (hM11_19.bx _ _)
      have fx12_20 : x12_20 = M 156 1 := by rw [ex12_20, h_M11_19, up2_n (by decide)]
      refine ⟨(by first | assumption | exact ⟨by omega, by omega⟩), ?_⟩
      intro M14_21 h_M14_21
      have hM14_21 : IX M14_21 := by rw [h_M14_21]; exact hM11_19.up (by decide) ((bx_c156_1).mpr ⟨by omega, by omega⟩)
      have t22 : M14_21 156 1 = x12_20 + 1 := by rw [h_M14_21, up2_s]
      exact ih _ _ hM14_21 (by omega) (by omega)
theorem sX9_addFour {p1 : Int} {M : Mem} {Q : Int → Mem → Prop} (hI : IX M) (hQ : ∀ z : Int, ∀ M' : Mem, IX M' → Q z M') : qX9_addFour p1 M Q := by
  unfold qX9_addFour
  intro x1_23 ex1_23 rx1_23
  have bx1_23 : 0 ≤ x1_23 ∧ x1_23 ≤ 80 := by rw [ex1_23]; exact (bx_c156_1).mp (hI.bx _ _)
  refine ⟨(by first | assumption | exact ⟨by omega, by omega⟩), ?_⟩
  refine ⟨fun c => ?_, fun c => ?_⟩
  · refine ⟨40, ?_⟩
    refine sX9_addFour_L16 ?_ _ _ _ hI (by omega) (by omega)
    · exact hQ
  · exact hQ _ _ hI
theorem sX11_sign {p1 : Int} {M : Mem} {Q : Int → Mem → Prop} (hI : IX M) (hQ : ∀ z : Int, ∀ M' : Mem, IX M' → Q z M') : qX11_sign p1 M Q := by
  unfold qX11_sign
  refine sX9_addFour (p1 := p1) hI  ?_
  intro x1_26 M1_27 hM1_27 q28 q29
  refine ⟨fun c => ?_, fun c => ?_⟩
  · exact hQ _ _ hM1_27
  · intro x3_32 ex3_32 rx3_32
    have bx3_32 : 0 ≤ x3_32 ∧ x3_32 ≤ 80 := by rw [ex3_32]; exact (bx_c156_1).mp (hM1_27.bx _ _)
    exact hQ _ _ hM1_27
theorem sX9_cutTo {p1 : Int} {M : Mem} {Q : Int → Mem → Prop} (hI : IX M) (hQ : ∀ z : Int, ∀ M' : Mem, IX M' → Q z M') : qX9_cutTo p1 M Q := by
  unfold qX9_cutTo
  refine ⟨fun c => ?_, fun c => ?_⟩
  · exact hQ _ _ hI
  · intro x2_35 ex2_35 rx2_35
    have bx2_35 : 0 ≤ x2_35 ∧ x2_35 ≤ 80 := by rw [ex2_35]; exact (bx_c156_1).mp (hI.bx _ _)
    refine ⟨fun c => ?_, fun c => ?_⟩
    · intro M4_37 h_M4_37
      have hM4_37 : IX M4_37 := by rw [h_M4_37]; exact hI.up (by decide) ((bx_c156_1).mpr ⟨by omega, by omega⟩)
      exact hQ _ _ hM4_37
    · exact hQ _ _ hI
theorem sX11_end {p1 : Int} {M : Mem} {Q : Int → Mem → Prop} (hI : IX M) (hQ : ∀ z : Int, ∀ M' : Mem, IX M' → Q z M') : qX11_end p1 M Q := by
  unfold qX11_end
  refine sX9_cutTo (p1 := p1) hI  ?_
  intro x1_39 M1_40 hM1_40 q41 q42
  refine ⟨by omega, ?_⟩
  exact hQ _ _ hM1_40
theorem sX9_signAt {p1 : Int} {M : Mem} {Q : Int → Mem → Prop} (hI : IX M) (hQ : ∀ z : Int, (-1 ≤ z ∧ z ≤ 255) → Q z M) : qX9_signAt p1 M Q := by
  unfold qX9_signAt
  refine ⟨fun c => ?_, fun c => ?_⟩
  · exact hQ _ (by omega)
  · intro x2_45 ex2_45 rx2_45
    have bx2_45 : 0 ≤ x2_45 ∧ x2_45 ≤ 80 := by rw [ex2_45]; exact (bx_c156_1).mp (hI.bx _ _)
    refine ⟨fun c => ?_, fun c => ?_⟩
    · exact hQ _ (by omega)
    · refine ⟨by omega, ?_⟩
      refine ⟨by omega, ?_⟩
      intro x6_48 ex6_48 rx6_48
      have bx6_48 : 0 ≤ x6_48 ∧ x6_48 ≤ 255 := by rw [ex6_48]; exact (bx_c157).mp (hI.bx _ _)
      exact hQ _ (by omega)
theorem sX11_avenueFault_L2  {X48 : Mem → Prop} {Q : Int → Mem → Prop} {M0 : Mem} (hQ : ∀ z : Int, (-1 ≤ z ∧ z ≤ 80 ∧ (z = -1 → 4 ≤ M0 156 1 ∧ M0 156 1 ≤ 30)) → Q z M0) (hX48 : (M0 156 1 ≤ 30) → X48 M0) : ∀ (n : Nat) (v1 : Int), IX M0 → (0 ≤ v1 ∧ v1 ≤ 30) → 30 - v1 < (n : Int) → qX11_avenueFault_L2 X48 Q n v1 M0 := by
  intro n
  induction n with
  | zero => intro v1 hI hv hm; exact absurd hm (by omega)
  | succ n ih =>
    intro v1 hI hv hm
    rw [qX11_avenueFault_L2]
    intro x1_49 ex1_49 rx1_49
    have bx1_49 : 0 ≤ x1_49 ∧ x1_49 ≤ 80 := by rw [ex1_49]; exact (bx_c156_1).mp (hI.bx _ _)
    refine ⟨(by first | assumption | exact ⟨by omega, by omega⟩), ?_⟩
    refine ⟨fun c => ?_, fun c => ?_⟩
    · exact hX48 (by omega)
    · refine sX9_signAt (p1 := v1) hI  ?_
      intro x4_52 p53 q54
      refine ⟨fun c => ?_, fun c => ?_⟩
      · exact hQ _ (by omega)
      · refine ⟨fun c => ?_, fun c => ?_⟩
        · exact ih _ hI (by omega) (by omega)
        · refine ⟨fun c => ?_, fun c => ?_⟩
          · exact ih _ hI (by omega) (by omega)
          · exact hQ _ (by omega)
theorem sX11_avenueFault  {M : Mem} {Q : Int → Mem → Prop} (hI : IX M) (hQ : ∀ z : Int, (-1 ≤ z ∧ z ≤ 80 ∧ (z = -1 → 4 ≤ M 156 1 ∧ M 156 1 ≤ 30)) → Q z M) : qX11_avenueFault M Q := by
  unfold qX11_avenueFault
  refine ⟨31, ?_⟩
  refine sX11_avenueFault_L2 ?_ ?_ _ _ hI (by omega) (by omega)
  · exact hQ
  · intro p61
    intro x9_62 ex9_62 rx9_62
    have bx9_62 : 0 ≤ x9_62 ∧ x9_62 ≤ 80 := by rw [ex9_62]; exact (bx_c156_1).mp (hI.bx _ _)
    refine ⟨fun c => ?_, fun c => ?_⟩
    · exact hQ _ (by omega)
    · intro x11_65 ex11_65 rx11_65
      have bx11_65 : 0 ≤ x11_65 ∧ x11_65 ≤ 80 := by rw [ex11_65]; exact (bx_c156_1).mp (hI.bx _ _)
      exact hQ _ (by omega)
theorem sX11_forgetKept_L2   {Q : Mem → Prop} (hQ : ∀ M' : Mem, IX M' → Q M') : ∀ (n : Nat) (v1 : Int) (M : Mem), IX M → (0 ≤ v1 ∧ v1 ≤ 3) → 3 - v1 < (n : Int) → qX11_forgetKept_L2 Q n v1 M := by
  intro n
  induction n with
  | zero => intro v1 M hI hv hm; exact absurd hm (by omega)
  | succ n ih =>
    intro v1 M hI hv hm
    rw [qX11_forgetKept_L2]
    refine ⟨(by first | assumption | exact ⟨by omega, by omega⟩), ?_⟩
    refine ⟨fun c => ?_, fun c => ?_⟩
    · exact hQ _ hI
    · refine ⟨by omega, ?_⟩
      refine ⟨by omega, ?_⟩
      intro M5_68 h_M5_68
      have hM5_68 : IX M5_68 := by rw [h_M5_68]; exact hI.up (by decide) (by simp [BX])
      exact ih _ _ hM5_68 (by omega) (by omega)
theorem sX11_forgetKept  {M : Mem} {Q : Mem → Prop} (hI : IX M) (hQ : ∀ M' : Mem, IX M' → Q M') : qX11_forgetKept M Q := by
  unfold qX11_forgetKept
  refine ⟨4, ?_⟩
  refine sX11_forgetKept_L2 ?_ _ _ _ hI (by omega) (by omega)
  · exact hQ
theorem sX1_clear  {M : Mem} {Q : Mem → Prop} (hI : IX M) (hQ : ∀ M' : Mem, IX M' → Q M') : qX1_clear M Q := by
  unfold qX1_clear
  intro M1_69 h_M1_69
  have hM1_69 : IX M1_69 := by rw [h_M1_69]; exact hI.up (by decide) ((bx_c163_2).mpr ⟨by omega, by omega⟩)
  exact hQ _ hM1_69
theorem sX6_clear {k0 : Nat} {M : Mem} {Q : Mem → Prop} (hI : IX M) (hk0 : isS k0) (hQ : ∀ M' : Mem, IX M' → Q M') : qX6_clear k0 M Q := by
  unfold qX6_clear
  have ek0 : 0 < k0 ∧ k0 < 155 ∧ (k0 - 1) % 7 = 0 := hk0
  intro M1_70 h_M1_70
  have hM1_70 : IX M1_70 := by rw [h_M1_70]; exact hI.up (isS.nsp hk0 0 (by decide)) ((bx_s0_6 hk0).mpr ⟨by omega, by omega⟩)
  intro M2_71 h_M2_71
  have hM2_71 : IX M2_71 := by rw [h_M2_71]; exact hM1_70.up (isS.nsp hk0 0 (by decide)) ((bx_s0_7 hk0).mpr ⟨by omega, by omega⟩)
  intro M3_72 h_M3_72
  have hM3_72 : IX M3_72 := by rw [h_M3_72]; exact hM2_71.up (isS.nsp hk0 0 (by decide)) (bx_sf0 hk0 (by decide) (by decide))
  intro M4_73 h_M4_73
  have hM4_73 : IX M4_73 := by rw [h_M4_73]; exact hM3_72.up (isS.nsp hk0 0 (by decide)) (bx_sf0 hk0 (by decide) (by decide))
  intro M5_74 h_M5_74
  have hM5_74 : IX M5_74 := by rw [h_M5_74]; exact hM4_73.up (isS.nsp hk0 0 (by decide)) (bx_sf0 hk0 (by decide) (by decide))
  exact hQ _ hM5_74
theorem sX8_become_L15   {Q : Mem → Prop} (hQ : ∀ M' : Mem, IX M' → Q M') : ∀ (n : Nat) (v2 : Int) (M : Mem), IX M → (0 ≤ v2 ∧ v2 ≤ 30) → 30 - v2 < (n : Int) → qX8_become_L15 Q n v2 M := by
  intro n
  induction n with
  | zero => intro v2 M hI hv hm; exact absurd hm (by omega)
  | succ n ih =>
    intro v2 M hI hv hm
    rw [qX8_become_L15]
    intro x4_75 ex4_75 rx4_75
    have bx4_75 : 4 ≤ x4_75 ∧ x4_75 ≤ 30 := by rw [ex4_75]; exact (bx_c158_1).mp (hI.bx _ _)
    refine ⟨(by first | assumption | exact ⟨by omega, by omega⟩), ?_⟩
    refine ⟨fun c => ?_, fun c => ?_⟩
    · exact hQ _ hI
    · intro x7_78 ex7_78 rx7_78
      have bx7_78 : -2147483648 ≤ x7_78 ∧ x7_78 ≤ 2147483647 := rx7_78
      refine sX9_signAt (p1 := v2) hI  ?_
      intro x8_79 p80 q81
      refine ⟨fun c => ?_, fun c => ?_⟩
      · unfold qX8_become_J45
        intro x10_83 ex10_83 rx10_83
        first | (have fx10_83 := oI_64 (a := x7_78) (b := 0) ⟨by omega, by omega⟩ ⟨by omega, by omega⟩; rw [← ex10_83] at fx10_83) | skip
        intro M11_84 h_M11_84
        have hM11_84 : IX M11_84 := by rw [h_M11_84]; exact hI.up (by decide) (by simp [BX])
        exact ih _ _ hM11_84 (by omega) (by omega)
      · intro x12_86 ex12_86 rx12_86
        first | (have fx12_86 := slI_1 (b := v2) ⟨by omega, by omega⟩; rw [← ex12_86] at fx12_86) | skip
        unfold qX8_become_J45
        intro x10_87 ex10_87 rx10_87
        first | (have fx10_87 := oI_64 (a := x7_78) (b := x12_86) ⟨by omega, by omega⟩ ⟨by omega, by omega⟩; rw [← ex10_87] at fx10_87) | skip
        intro M11_88 h_M11_88
        have hM11_88 : IX M11_88 := by rw [h_M11_88]; exact hI.up (by decide) (by simp [BX])
        exact ih _ _ hM11_88 (by omega) (by omega)
theorem sX8_become  {M : Mem} {Q : Mem → Prop} (hI : IX M) (hp : 4 ≤ M 156 1 ∧ M 156 1 ≤ 30) (hQ : ∀ M' : Mem, IX M' → Q M') : qX8_become M Q := by
  unfold qX8_become
  intro x1_89 ex1_89 rx1_89
  have bx1_89 : 0 ≤ x1_89 ∧ x1_89 ≤ 80 := by rw [ex1_89]; exact (bx_c156_1).mp (hI.bx _ _)
  intro M2_90 h_M2_90
  have hM2_90 : IX M2_90 := by rw [h_M2_90]; exact hI.up (by decide) ((bx_c158_1).mpr ⟨by omega, by omega⟩)
  intro M3_91 h_M3_91
  have hM3_91 : IX M3_91 := by rw [h_M3_91]; exact hM2_90.up (by decide) (by simp [BX])
  refine ⟨31, ?_⟩
  refine sX8_become_L15 ?_ _ _ _ hM3_91 (by omega) (by omega)
  · exact hQ
theorem sX9_clear  {M : Mem} {Q : Mem → Prop} (hI : IX M) (hQ : ∀ M' : Mem, IX M' → Fr (fun i => i = 156) M M' → Q M') : qX9_clear M Q := by
  unfold qX9_clear
  intro M1_92 h_M1_92
  have hM1_92 : IX M1_92 := by rw [h_M1_92]; exact hI.up (by decide) ((bx_c156_1).mpr ⟨by omega, by omega⟩)
  have hFM1_92 : Fr (fun i => i = 156) M M1_92 := by rw [h_M1_92]; exact (Fr.rf).up (by omega)
  exact hQ _ hM1_92 hFM1_92
theorem sX11_avenue  {M : Mem} {Q : Int → Mem → Prop} (hI : IX M) (hQ : ∀ z : Int, ∀ M' : Mem, IX M' → Q z M') : qX11_avenue M Q := by
  unfold qX11_avenue
  refine sX11_avenueFault  hI  ?_
  intro x1_93 p94 q95
  intro x2_96 ex2_96 rx2_96
  have bx2_96 : 0 ≤ x2_96 ∧ x2_96 ≤ 80 := by rw [ex2_96]; exact (bx_c156_1).mp (hI.bx _ _)
  refine ⟨fun c => ?_, fun c => ?_⟩
  · unfold qX11_avenue_J47
    refine sX9_clear  hI  ?_
    intro M4_98 hM4_98 gM4_98
    refine ⟨(by first | assumption | exact ⟨by omega, by omega⟩), ?_⟩
    refine ⟨fun c => ?_, fun c => ?_⟩
    · refine ⟨(by first | assumption | exact ⟨by omega, by omega⟩), ?_⟩
      exact hQ _ _ hM4_98
    · refine ⟨(by first | assumption | exact ⟨by omega, by omega⟩), ?_⟩
      exact hQ _ _ hM4_98
  · refine sX8_become  hI (by omega) ?_
    intro M9_102 hM9_102
    refine sX6_clear  hM9_102 (show isS 1 by decide) ?_
    intro M10_103 hM10_103
    refine sX1_clear  hM10_103  ?_
    intro M11_104 hM11_104
    refine sX11_forgetKept  hM11_104  ?_
    intro M12_105 hM12_105
    unfold qX11_avenue_J47
    refine sX9_clear  hM12_105  ?_
    intro M4_106 hM4_106 gM4_106
    refine ⟨(by first | assumption | exact ⟨by omega, by omega⟩), ?_⟩
    refine ⟨fun c => ?_, fun c => ?_⟩
    · refine ⟨(by first | assumption | exact ⟨by omega, by omega⟩), ?_⟩
      exact hQ _ _ hM4_106
    · refine ⟨(by first | assumption | exact ⟨by omega, by omega⟩), ?_⟩
      exact hQ _ _ hM4_106
theorem sX8_gate  {M : Mem} {Q : Int → Mem → Prop} (hI : IX M) (hQ : ∀ z : Int, (3 ≤ z ∧ z ≤ 29 ∧ z = M 158 1 - 1) → Q z M) : qX8_gate M Q := by
  unfold qX8_gate
  intro x1_109 ex1_109 rx1_109
  have bx1_109 : 4 ≤ x1_109 ∧ x1_109 ≤ 30 := by rw [ex1_109]; exact (bx_c158_1).mp (hI.bx _ _)
  refine ⟨(by first | assumption | exact ⟨by omega, by omega⟩), ?_⟩
  exact hQ _ (by omega)
theorem sX9_back  {M : Mem} {Q : Mem → Prop} (hI : IX M) (hQ : ∀ M' : Mem, IX M' → Fr (fun i => i = 156) M M' → Q M') : qX9_back M Q := by
  unfold qX9_back
  intro x1_110 ex1_110 rx1_110
  have bx1_110 : 0 ≤ x1_110 ∧ x1_110 ≤ 80 := by rw [ex1_110]; exact (bx_c156_2).mp (hI.bx _ _)
  refine ⟨fun c => ?_, fun c => ?_⟩
  · exact hQ _ hI Fr.rf
  · intro x3_113 ex3_113 rx3_113
    have bx3_113 : 0 ≤ x3_113 ∧ x3_113 ≤ 80 := by rw [ex3_113]; exact (bx_c156_2).mp (hI.bx _ _)
    refine ⟨(by first | assumption | exact ⟨by omega, by omega⟩), ?_⟩
    intro M5_114 h_M5_114
    have hM5_114 : IX M5_114 := by rw [h_M5_114]; exact hI.up (by decide) ((bx_c156_2).mpr ⟨by omega, by omega⟩)
    have hFM5_114 : Fr (fun i => i = 156) M M5_114 := by rw [h_M5_114]; exact (Fr.rf).up (by omega)
    exact hQ _ hM5_114 hFM5_114
theorem sX9_look  {M : Mem} {Q : Int → Mem → Prop} (hI : IX M) (hQ : ∀ z : Int, (-1 ≤ z ∧ z ≤ 255) → Q z M) : qX9_look M Q := by
  unfold qX9_look
  intro x1_115 ex1_115 rx1_115
  have bx1_115 : 0 ≤ x1_115 ∧ x1_115 ≤ 80 := by rw [ex1_115]; exact (bx_c156_2).mp (hI.bx _ _)
  intro x2_116 ex2_116 rx2_116
  have bx2_116 : 0 ≤ x2_116 ∧ x2_116 ≤ 80 := by rw [ex2_116]; exact (bx_c156_3).mp (hI.bx _ _)
  refine ⟨fun c => ?_, fun c => ?_⟩
  · exact hQ _ (by omega)
  · intro x4_119 ex4_119 rx4_119
    have bx4_119 : 0 ≤ x4_119 ∧ x4_119 ≤ 80 := by rw [ex4_119]; exact (bx_c156_2).mp (hI.bx _ _)
    refine ⟨by omega, ?_⟩
    refine ⟨by omega, ?_⟩
    intro x7_120 ex7_120 rx7_120
    have bx7_120 : 0 ≤ x7_120 ∧ x7_120 ≤ 255 := by rw [ex7_120]; exact (bx_c157).mp (hI.bx _ _)
    exact hQ _ (by omega)
theorem sX9_pass  {M : Mem} {Q : Mem → Prop} (hI : IX M) (hQ : ∀ M' : Mem, IX M' → Fr (fun i => i = 156) M M' → Q M') : qX9_pass M Q := by
  unfold qX9_pass
  intro x1_121 ex1_121 rx1_121
  have bx1_121 : 0 ≤ x1_121 ∧ x1_121 ≤ 80 := by rw [ex1_121]; exact (bx_c156_2).mp (hI.bx _ _)
  intro x2_122 ex2_122 rx2_122
  have bx2_122 : 0 ≤ x2_122 ∧ x2_122 ≤ 80 := by rw [ex2_122]; exact (bx_c156_3).mp (hI.bx _ _)
  refine ⟨fun c => ?_, fun c => ?_⟩
  · exact hQ _ hI Fr.rf
  · intro x4_125 ex4_125 rx4_125
    have bx4_125 : 0 ≤ x4_125 ∧ x4_125 ≤ 80 := by rw [ex4_125]; exact (bx_c156_2).mp (hI.bx _ _)
    refine ⟨(by first | assumption | exact ⟨by omega, by omega⟩), ?_⟩
    intro M6_126 h_M6_126
    have hM6_126 : IX M6_126 := by rw [h_M6_126]; exact hI.up (by decide) ((bx_c156_2).mpr ⟨by omega, by omega⟩)
    have hFM6_126 : Fr (fun i => i = 156) M M6_126 := by rw [h_M6_126]; exact (Fr.rf).up (by omega)
    exact hQ _ hM6_126 hFM6_126
theorem sX9_digit  {M : Mem} {Q : Int → Mem → Prop} (hI : IX M) (hQ : ∀ z : Int, ∀ M' : Mem, IX M' → Fr (fun i => i = 156) M M' → (-1 ≤ z ∧ z ≤ 9) → Q z M') : qX9_digit M Q := by
  unfold qX9_digit
  refine sX9_look  hI  ?_
  intro x1_127 p128 q129
  refine ⟨fun c => ?_, fun c => ?_⟩
  · exact hQ _ _ hI Fr.rf (by omega)
  · refine ⟨fun c => ?_, fun c => ?_⟩
    · refine sX9_pass  hI  ?_
      intro M4_133 hM4_133 gM4_133
      have hFM4_133 : Fr (fun i => i = 156) M M4_133 := (Fr.rf).tr (gM4_133.mono (by intro i h; omega))
      refine ⟨(by first | assumption | exact ⟨by omega, by omega⟩), ?_⟩
      exact hQ _ _ hM4_133 hFM4_133 (by omega)
    · exact hQ _ _ hI Fr.rf (by omega)
theorem sX9_number_L10 {p1 : Int}  {Q : Int → Mem → Prop} {M0 : Mem} (hp : p1 = 2 ∨ p1 = 3) (hQ : ∀ z : Int, ∀ M' : Mem, IX M' → Fr (fun i => i = 156) M0 M' → (-1 ≤ z ∧ z ≤ 999 ∧ (p1 = 2 → z ≤ 99)) → Q z M') : ∀ (n : Nat) (v2 v3 v4 : Int) (M : Mem), IX M → Fr (fun i => i = 156) M0 M → (1 ≤ v4 ∧ v4 ≤ p1 ∧ -1 ≤ v3 ∧ v3 ≤ 9 ∧ -1 ≤ v2 ∧ v2 ≤ 999 ∧ (v4 = 1 → v2 ≤ 9) ∧ (v4 = 2 → v2 ≤ 99) ∧ (v3 = -1 ∨ 0 ≤ v2)) → 4 - v4 < (n : Int) → qX9_number_L10 p1 Q n v2 v3 v4 M := by
  intro n
  induction n with
  | zero => intro v2 v3 v4 M hI hF hv hm; exact absurd hm (by omega)
  | succ n ih =>
    intro v2 v3 v4 M hI hF hv hm
    rw [qX9_number_L10]
    refine ⟨(by first | assumption | exact ⟨by omega, by omega⟩), ?_⟩
    refine ⟨fun c => ?_, fun c => ?_⟩
    · refine ⟨(by first | assumption | exact ⟨by omega, by omega⟩), ?_⟩
      exact hQ _ _ hI hF (by omega)
    · refine ⟨(by first | assumption | exact ⟨by omega, by omega⟩), ?_⟩
      refine ⟨fun c => ?_, fun c => ?_⟩
      · refine ⟨(by first | assumption | exact ⟨by omega, by omega⟩), ?_⟩
        exact hQ _ _ hI hF (by omega)
      · refine sX9_digit  hI  ?_
        intro x8_139 M8_140 hM8_140 gM8_140 p141 q142
        have hFM8_140 : Fr (fun i => i = 156) M0 M8_140 := (hF).tr (gM8_140.mono (by intro i h; omega))
        refine ⟨fun c => ?_, fun c => ?_⟩
        · exact ih _ _ _ _ hM8_140 hFM8_140 (by omega) (by omega)
        · exact ih _ _ _ _ hM8_140 hFM8_140 (by omega) (by omega)
theorem sX9_number {p1 : Int} {M : Mem} {Q : Int → Mem → Prop} (hI : IX M) (hp : p1 = 2 ∨ p1 = 3) (hQ : ∀ z : Int, ∀ M' : Mem, IX M' → Fr (fun i => i = 156) M M' → (-1 ≤ z ∧ z ≤ 999 ∧ (p1 = 2 → z ≤ 99)) → Q z M') : qX9_number p1 M Q := by
  unfold qX9_number
  refine sX9_digit  hI  ?_
  intro x1_145 M1_146 hM1_146 gM1_146 p147 q148
  have hFM1_146 : Fr (fun i => i = 156) M M1_146 := (Fr.rf).tr (gM1_146.mono (by intro i h; omega))
  refine ⟨5, ?_⟩
  refine sX9_number_L10 hp ?_ _ _ _ _ _ hM1_146 hFM1_146 (by omega) (by omega)
  · exact hQ
theorem sX11_readCell  {M : Mem} {Q : Int → Mem → Prop} (hI : IX M) (hQ : ∀ z : Int, ∀ M' : Mem, IX M' → Fr (fun i => i = 156) M M' → (-1 ≤ z ∧ z ≤ 29) → Q z M') : qX11_readCell M Q := by
  unfold qX11_readCell
  refine sX9_number (p1 := 2) hI (by omega) ?_
  intro x1_149 M1_150 hM1_150 gM1_150 p151 q152
  have hFM1_150 : Fr (fun i => i = 156) M M1_150 := (Fr.rf).tr (gM1_150.mono (by intro i h; omega))
  refine sX8_gate  hM1_150  ?_
  intro x2_153 p154 q155
  refine ⟨fun c => ?_, fun c => ?_⟩
  · exact hQ _ _ hM1_150 hFM1_150 (by omega)
  · refine sX9_back  hM1_150  ?_
    intro M4_158 hM4_158 gM4_158
    have hFM4_158 : Fr (fun i => i = 156) M M4_158 := (hFM1_150).tr (gM4_158.mono (by intro i h; omega))
    exact hQ _ _ hM4_158 hFM4_158 (by omega)
theorem sX6_addHearse {k0 : Nat} {p1 : Int} {M : Mem} {Q : Mem → Prop} (hI : IX M) (hk0 : isS k0) (hp : M k0 6 ≤ 5 ∧ -1 ≤ p1 ∧ p1 ≤ 29) (hQ : ∀ M' : Mem, IX M' → Q M') : qX6_addHearse k0 p1 M Q := by
  unfold qX6_addHearse
  have ek0 : 0 < k0 ∧ k0 < 155 ∧ (k0 - 1) % 7 = 0 := hk0
  intro x1_159 ex1_159 rx1_159
  have bx1_159 : 0 ≤ x1_159 ∧ x1_159 ≤ 6 := by rw [ex1_159]; exact (bx_s0_6 hk0).mp (hI.bx _ _)
  refine ⟨by omega, ?_⟩
  refine ⟨by omega, ?_⟩
  intro M4_160 h_M4_160
  have hM4_160 : IX M4_160 := by rw [h_M4_160]; exact hI.up (isS.nsp hk0 1 (by decide)) ((bx_s1 hk0).mpr ⟨by omega, by omega⟩)
  intro x5_161 ex5_161 rx5_161
  have bx5_161 : 0 ≤ x5_161 ∧ x5_161 ≤ 6 := by rw [ex5_161]; exact (bx_s0_6 hk0).mp (hM4_160.bx _ _)
  have fx5_161 : x5_161 = M k0 6 := by rw [ex5_161, h_M4_160, up2_n (by omega)]
  refine ⟨by omega, ?_⟩
  refine ⟨by omega, ?_⟩
  intro M8_162 h_M8_162
  have hM8_162 : IX M8_162 := by rw [h_M8_162]; exact hM4_160.up (isS.nsp hk0 2 (by decide)) (bx_sf2 hk0)
  intro x9_163 ex9_163 rx9_163
  have bx9_163 : 0 ≤ x9_163 ∧ x9_163 ≤ 6 := by rw [ex9_163]; exact (bx_s0_6 hk0).mp (hM8_162.bx _ _)
  have fx9_163 : x9_163 = M k0 6 := by rw [ex9_163, h_M8_162, up2_n (by omega), h_M4_160, up2_n (by omega)]
  refine ⟨(by first | assumption | exact ⟨by omega, by omega⟩), ?_⟩
  intro M11_164 h_M11_164
  have hM11_164 : IX M11_164 := by rw [h_M11_164]; exact hM8_162.up (isS.nsp hk0 0 (by decide)) ((bx_s0_6 hk0).mpr ⟨by omega, by omega⟩)
  exact hQ _ hM11_164
theorem sX6_hearseOn_L2 {k0 : Nat} {p1 : Int}  {Q : Int → Mem → Prop} {M0 : Mem} (hk0 : isS k0) (hQ : ∀ z : Int, (-1 ≤ z ∧ z ≤ 5) → Q z M0) : ∀ (n : Nat) (v2 : Int), IX M0 → (0 ≤ v2 ∧ v2 ≤ 6) → 6 - v2 < (n : Int) → qX6_hearseOn_L2 k0 p1 Q n v2 M0 := by
  intro n
  induction n with
  | zero => intro v2 hI hv hm; exact absurd hm (by omega)
  | succ n ih =>
    intro v2 hI hv hm
    rw [qX6_hearseOn_L2]
    have ek0 : 0 < k0 ∧ k0 < 155 ∧ (k0 - 1) % 7 = 0 := hk0
    intro x1_165 ex1_165 rx1_165
    have bx1_165 : 0 ≤ x1_165 ∧ x1_165 ≤ 6 := by rw [ex1_165]; exact (bx_s0_6 hk0).mp (hI.bx _ _)
    refine ⟨(by first | assumption | exact ⟨by omega, by omega⟩), ?_⟩
    refine ⟨fun c => ?_, fun c => ?_⟩
    · exact hQ _ (by omega)
    · refine ⟨by omega, ?_⟩
      refine ⟨by omega, ?_⟩
      intro x6_168 ex6_168 rx6_168
      have bx6_168 : -1 ≤ x6_168 ∧ x6_168 ≤ 29 := by rw [ex6_168]; exact (bx_s1 hk0).mp (hI.bx _ _)
      refine ⟨fun c => ?_, fun c => ?_⟩
      · exact ih _ hI (by omega) (by omega)
      · exact hQ _ (by omega)
theorem sX6_hearseOn {k0 : Nat} {p1 : Int} {M : Mem} {Q : Int → Mem → Prop} (hI : IX M) (hk0 : isS k0) (hQ : ∀ z : Int, (-1 ≤ z ∧ z ≤ 5) → Q z M) : qX6_hearseOn k0 p1 M Q := by
  unfold qX6_hearseOn
  have ek0 : 0 < k0 ∧ k0 < 155 ∧ (k0 - 1) % 7 = 0 := hk0
  refine ⟨7, ?_⟩
  refine sX6_hearseOn_L2 hk0 ?_ _ _ hI (by omega) (by omega)
  · exact hQ
theorem sX11_readHearse  {M : Mem} {Q : Int → Mem → Prop} (hI : IX M) (hQ : ∀ z : Int, ∀ M' : Mem, IX M' → Q z M') : qX11_readHearse M Q := by
  unfold qX11_readHearse
  intro x1_171 ex1_171 rx1_171
  have bx1_171 : 0 ≤ x1_171 ∧ x1_171 ≤ 6 := by rw [ex1_171]; exact (bx_s0_6 (show isS 8 by decide)).mp (hI.bx _ _)
  refine ⟨fun c => ?_, fun c => ?_⟩
  · refine sX11_readCell  hI  ?_
    intro x3_173 M3_174 hM3_174 gM3_174 p175 q176
    have t177 : M3_174 8 6 = M 8 6 := by rw [gM3_174 8 (by decide)]
    refine ⟨fun c => ?_, fun c => ?_⟩
    · refine sX6_hearseOn (p1 := x3_173) hM3_174 (show isS 8 by decide) ?_
      intro x5_179 p180 q181
      refine ⟨fun c => ?_, fun c => ?_⟩
      · refine sX6_addHearse (p1 := x3_173) hM3_174 (show isS 8 by decide) (by omega) ?_
        intro M7_183 hM7_183
        exact hQ _ _ hM7_183
      · refine sX9_back  hM3_174  ?_
        intro M8_185 hM8_185 gM8_185
        have t186 : M8_185 8 6 = M3_174 8 6 := by rw [gM8_185 8 (by decide)]
        exact hQ _ _ hM8_185
    · exact hQ _ _ hM3_174
  · exact hQ _ _ hI
theorem sX6_addMourner {k0 : Nat} {p1 : Int} {p2 : Int} {M : Mem} {Q : Mem → Prop} (hI : IX M) (hk0 : isS k0) (hp : M k0 7 ≤ 7 ∧ -1 ≤ p1 ∧ p1 ≤ 29 ∧ 0 ≤ p2 ∧ p2 ≤ 5) (hQ : ∀ M' : Mem, IX M' → Q M') : qX6_addMourner k0 p1 p2 M Q := by
  unfold qX6_addMourner
  have ek0 : 0 < k0 ∧ k0 < 155 ∧ (k0 - 1) % 7 = 0 := hk0
  intro x1_189 ex1_189 rx1_189
  have bx1_189 : 0 ≤ x1_189 ∧ x1_189 ≤ 8 := by rw [ex1_189]; exact (bx_s0_7 hk0).mp (hI.bx _ _)
  refine ⟨by omega, ?_⟩
  refine ⟨by omega, ?_⟩
  intro M4_190 h_M4_190
  have hM4_190 : IX M4_190 := by rw [h_M4_190]; exact hI.up (isS.nsp hk0 3 (by decide)) ((bx_s3 hk0).mpr ⟨by omega, by omega⟩)
  intro x5_191 ex5_191 rx5_191
  have bx5_191 : 0 ≤ x5_191 ∧ x5_191 ≤ 8 := by rw [ex5_191]; exact (bx_s0_7 hk0).mp (hM4_190.bx _ _)
  have fx5_191 : x5_191 = M k0 7 := by rw [ex5_191, h_M4_190, up2_n (by omega)]
  refine ⟨by omega, ?_⟩
  refine ⟨by omega, ?_⟩
  intro M8_192 h_M8_192
  have hM8_192 : IX M8_192 := by rw [h_M8_192]; exact hM4_190.up (isS.nsp hk0 4 (by decide)) ((bx_s4 hk0).mpr ⟨by omega, by omega⟩)
  intro x9_193 ex9_193 rx9_193
  have bx9_193 : 0 ≤ x9_193 ∧ x9_193 ≤ 8 := by rw [ex9_193]; exact (bx_s0_7 hk0).mp (hM8_192.bx _ _)
  have fx9_193 : x9_193 = M k0 7 := by rw [ex9_193, h_M8_192, up2_n (by omega), h_M4_190, up2_n (by omega)]
  refine ⟨by omega, ?_⟩
  refine ⟨by omega, ?_⟩
  intro M12_194 h_M12_194
  have hM12_194 : IX M12_194 := by rw [h_M12_194]; exact hM8_192.up (isS.nsp hk0 5 (by decide)) ((bx_s5 hk0).mpr ⟨by omega, by omega⟩)
  intro x13_195 ex13_195 rx13_195
  have bx13_195 : 0 ≤ x13_195 ∧ x13_195 ≤ 8 := by rw [ex13_195]; exact (bx_s0_7 hk0).mp (hM12_194.bx _ _)
  have fx13_195 : x13_195 = M k0 7 := by rw [ex13_195, h_M12_194, up2_n (by omega), h_M8_192, up2_n (by omega), h_M4_190, up2_n (by omega)]
  refine ⟨by omega, ?_⟩
  refine ⟨by omega, ?_⟩
  intro M16_196 h_M16_196
  have hM16_196 : IX M16_196 := by rw [h_M16_196]; exact hM12_194.up (isS.nsp hk0 6 (by decide)) (bx_sf6 hk0)
  intro x17_197 ex17_197 rx17_197
  have bx17_197 : 0 ≤ x17_197 ∧ x17_197 ≤ 8 := by rw [ex17_197]; exact (bx_s0_7 hk0).mp (hM16_196.bx _ _)
  have fx17_197 : x17_197 = M k0 7 := by rw [ex17_197, h_M16_196, up2_n (by omega), h_M12_194, up2_n (by omega), h_M8_192, up2_n (by omega), h_M4_190, up2_n (by omega)]
  refine ⟨(by first | assumption | exact ⟨by omega, by omega⟩), ?_⟩
  intro M19_198 h_M19_198
  have hM19_198 : IX M19_198 := by rw [h_M19_198]; exact hM16_196.up (isS.nsp hk0 0 (by decide)) ((bx_s0_7 hk0).mpr ⟨by omega, by omega⟩)
  exact hQ _ hM19_198
theorem sX11_readMourner  {M : Mem} {Q : Int → Mem → Prop} (hI : IX M) (hQ : ∀ z : Int, ∀ M' : Mem, IX M' → Q z M') : qX11_readMourner M Q := by
  unfold qX11_readMourner
  intro x1_199 ex1_199 rx1_199
  have bx1_199 : 0 ≤ x1_199 ∧ x1_199 ≤ 8 := by rw [ex1_199]; exact (bx_s0_7 (show isS 8 by decide)).mp (hI.bx _ _)
  refine ⟨fun c => ?_, fun c => ?_⟩
  · refine sX11_readCell  hI  ?_
    intro x3_201 M3_202 hM3_202 gM3_202 p203 q204
    have t205 : M3_202 8 7 = M 8 7 := by rw [gM3_202 8 (by decide)]
    refine sX9_look  hM3_202  ?_
    intro x4_206 p207 q208
    refine ⟨fun c => ?_, fun c => ?_⟩
    · exact hQ _ _ hM3_202
    · refine ⟨(by first | assumption | exact ⟨by omega, by omega⟩), ?_⟩
      refine ⟨fun c => ?_, fun c => ?_⟩
      · exact hQ _ _ hM3_202
      · intro x8_213 ex8_213 rx8_213
        have bx8_213 : 0 ≤ x8_213 ∧ x8_213 ≤ 6 := by rw [ex8_213]; exact (bx_s0_6 (show isS 8 by decide)).mp (hM3_202.bx _ _)
        refine ⟨fun c => ?_, fun c => ?_⟩
        · refine sX9_pass  hM3_202  ?_
          intro M10_215 hM10_215 gM10_215
          have t216 : M10_215 8 7 = M3_202 8 7 := by rw [gM10_215 8 (by decide)]
          refine sX6_addMourner (p1 := x3_201) (p2 := x4_206 - 97) hM10_215 (show isS 8 by decide) (by omega) ?_
          intro M11_217 hM11_217
          exact hQ _ _ hM11_217
        · exact hQ _ _ hM3_202
  · exact hQ _ _ hI
theorem sX9_isWhole  {M : Mem} {Q : Int → Mem → Prop} (hI : IX M) (hQ : ∀ z : Int, Q z M) : qX9_isWhole M Q := by
  unfold qX9_isWhole
  intro x1_220 ex1_220 rx1_220
  have bx1_220 : 0 ≤ x1_220 ∧ x1_220 ≤ 80 := by rw [ex1_220]; exact (bx_c156_2).mp (hI.bx _ _)
  intro x2_221 ex2_221 rx2_221
  have bx2_221 : 0 ≤ x2_221 ∧ x2_221 ≤ 80 := by rw [ex2_221]; exact (bx_c156_1).mp (hI.bx _ _)
  refine ⟨fun c => ?_, fun c => ?_⟩
  · exact hQ _
  · exact hQ _
theorem sX9_open {p1 : Int} {M : Mem} {Q : Mem → Prop} (hI : IX M) (hp : 0 ≤ p1 ∧ p1 ≤ 80) (hQ : ∀ M' : Mem, IX M' → Fr (fun i => i = 156) M M' → Q M') : qX9_open p1 M Q := by
  unfold qX9_open
  intro M1_224 h_M1_224
  have hM1_224 : IX M1_224 := by rw [h_M1_224]; exact hI.up (by decide) ((bx_c156_2).mpr ⟨by omega, by omega⟩)
  have hFM1_224 : Fr (fun i => i = 156) M M1_224 := by rw [h_M1_224]; exact (Fr.rf).up (by omega)
  intro x2_225 ex2_225 rx2_225
  have bx2_225 : 0 ≤ x2_225 ∧ x2_225 ≤ 80 := by rw [ex2_225]; exact (bx_c156_1).mp (hM1_224.bx _ _)
  have fx2_225 : x2_225 = M 156 1 := by rw [ex2_225, h_M1_224, up2_j (by decide)]
  intro x3_226 ex3_226 rx3_226
  intro M4_227 h_M4_227
  have hM4_227 : IX M4_227 := by rw [h_M4_227]; exact hM1_224.up (by decide) ((bx_c156_3).mpr ⟨by omega, by omega⟩)
  have hFM4_227 : Fr (fun i => i = 156) M M4_227 := by rw [h_M4_227]; exact (hFM1_224).up (by omega)
  exact hQ _ hM4_227 hFM4_227
theorem sX9_skip {p1 : Int} {M : Mem} {Q : Int → Mem → Prop} (hI : IX M) (hQ : ∀ z : Int, ∀ M' : Mem, IX M' → Fr (fun i => i = 156) M M' → Q z M') : qX9_skip p1 M Q := by
  unfold qX9_skip
  refine sX9_look  hI  ?_
  intro x1_228 p229 q230
  refine ⟨fun c => ?_, fun c => ?_⟩
  · refine sX9_pass  hI  ?_
    intro M3_232 hM3_232 gM3_232
    have hFM3_232 : Fr (fun i => i = 156) M M3_232 := (Fr.rf).tr (gM3_232.mono (by intro i h; omega))
    exact hQ _ _ hM3_232 hFM3_232
  · exact hQ _ _ hI Fr.rf
theorem sX11_readLines_L33 {p1 : Int} {X90 : Int → Mem → Prop} {Q : Int → Mem → Prop} (hQ : ∀ z : Int, ∀ M' : Mem, IX M' → Q z M') (hX90 : ∀ w1 : Int, ∀ M' : Mem, IX M' → (0 ≤ w1 ∧ w1 ≤ 81) → X90 w1 M') : ∀ (n : Nat) (v2 v3 : Int) (M : Mem), IX M → (0 ≤ v2 ∧ v2 ≤ 81 ∧ 0 ≤ v3 ∧ v3 ≤ 1) → 81 - v2 < (n : Int) → qX11_readLines_L33 p1 X90 Q n v2 v3 M := by
  intro n
  induction n with
  | zero => intro v2 v3 M hI hv hm; exact absurd hm (by omega)
  | succ n ih =>
    intro v2 v3 M hI hv hm
    rw [qX11_readLines_L33]
    refine ⟨(by first | assumption | exact ⟨by omega, by omega⟩), ?_⟩
    refine ⟨fun c => ?_, fun c => ?_⟩
    · exact hX90 _ _ hI (by omega)
    · refine ⟨(by first | assumption | exact ⟨by omega, by omega⟩), ?_⟩
      refine ⟨fun c => ?_, fun c => ?_⟩
      · exact hX90 _ _ hI (by omega)
      · refine ⟨fun c => ?_, fun c => ?_⟩
        · refine sX11_readMourner  hI  ?_
          intro x10_239 M10_240 hM10_240 q241 q242
          refine ⟨fun c => ?_, fun c => ?_⟩
          · unfold qX11_readLines_J74
            refine sX9_skip (p1 := 59) hM10_240  ?_
            intro x12_244 M12_245 hM12_245 gM12_245 q246 q247
            exact ih _ _ _ hM12_245 (by omega) (by omega)
          · intro x13_249 ex13_249 rx13_249
            have bx13_249 : 0 ≤ x13_249 ∧ x13_249 ≤ 80 := by rw [ex13_249]; exact (bx_c156_2).mp (hM10_240.bx _ _)
            refine ⟨(by first | assumption | exact ⟨by omega, by omega⟩), ?_⟩
            exact hQ _ _ hM10_240
        · refine sX11_readHearse  hI  ?_
          intro x15_251 M15_252 hM15_252 q253 q254
          refine ⟨fun c => ?_, fun c => ?_⟩
          · intro x17_256 ex17_256 rx17_256
            have bx17_256 : 0 ≤ x17_256 ∧ x17_256 ≤ 80 := by rw [ex17_256]; exact (bx_c156_2).mp (hM15_252.bx _ _)
            refine ⟨(by first | assumption | exact ⟨by omega, by omega⟩), ?_⟩
            exact hQ _ _ hM15_252
          · unfold qX11_readLines_J74
            refine sX9_skip (p1 := 59) hM15_252  ?_
            intro x12_258 M12_259 hM12_259 gM12_259 q260 q261
            exact ih _ _ _ hM12_259 (by omega) (by omega)
theorem sX11_readLines {p1 : Int} {M : Mem} {Q : Int → Mem → Prop} (hI : IX M) (hQ : ∀ z : Int, ∀ M' : Mem, IX M' → Q z M') : qX11_readLines p1 M Q := by
  unfold qX11_readLines
  refine sX6_copyFrom  hI (show isS 8 by decide) (show isS 1 by decide) ?_
  intro M1_262 hM1_262 gM1_262
  refine ⟨fun c => ?_, fun c => ?_⟩
  · unfold qX11_readLines_J26
    refine ⟨(by first | assumption | exact ⟨by omega, by omega⟩), ?_⟩
    refine sX9_open (p1 := 39) hM1_262 (by omega) ?_
    intro M4_264 hM4_264 gM4_264
    refine ⟨82, ?_⟩
    refine sX11_readLines_L33 ?_ ?_ _ _ _ _ hM4_264 (by omega) (by omega)
    · exact hQ
    · intro v2_265 M_266 hM_266 p267
      unfold qX11_readLines_J90
      refine sX9_isWhole  hM_266  ?_
      intro x20_268 q269 q270
      refine ⟨fun c => ?_, fun c => ?_⟩
      · refine sX6_copyFrom  hM_266 (show isS 1 by decide) (show isS 8 by decide) ?_
        intro M22_272 hM22_272 gM22_272
        refine sX1_clear  hM22_272  ?_
        intro M23_273 hM23_273
        refine ⟨(by first | assumption | exact ⟨by omega, by omega⟩), ?_⟩
        exact hQ _ _ hM23_273
      · intro x25_275 ex25_275 rx25_275
        have bx25_275 : 0 ≤ x25_275 ∧ x25_275 ≤ 80 := by rw [ex25_275]; exact (bx_c156_2).mp (hM_266.bx _ _)
        refine ⟨(by first | assumption | exact ⟨by omega, by omega⟩), ?_⟩
        exact hQ _ _ hM_266
  · unfold qX11_readLines_J26
    refine ⟨(by first | assumption | exact ⟨by omega, by omega⟩), ?_⟩
    refine sX9_open (p1 := 17) hM1_262 (by omega) ?_
    intro M4_277 hM4_277 gM4_277
    refine ⟨82, ?_⟩
    refine sX11_readLines_L33 ?_ ?_ _ _ _ _ hM4_277 (by omega) (by omega)
    · exact hQ
    · intro v2_278 M_279 hM_279 p280
      unfold qX11_readLines_J90
      refine sX9_isWhole  hM_279  ?_
      intro x20_281 q282 q283
      refine ⟨fun c => ?_, fun c => ?_⟩
      · refine sX6_copyFrom  hM_279 (show isS 1 by decide) (show isS 8 by decide) ?_
        intro M22_285 hM22_285 gM22_285
        refine sX1_clear  hM22_285  ?_
        intro M23_286 hM23_286
        refine ⟨(by first | assumption | exact ⟨by omega, by omega⟩), ?_⟩
        exact hQ _ _ hM23_286
      · intro x25_288 ex25_288 rx25_288
        have bx25_288 : 0 ≤ x25_288 ∧ x25_288 ≤ 80 := by rw [ex25_288]; exact (bx_c156_2).mp (hM_279.bx _ _)
        refine ⟨(by first | assumption | exact ⟨by omega, by omega⟩), ?_⟩
        exact hQ _ _ hM_279
theorem sX9_isEmpty  {M : Mem} {Q : Int → Mem → Prop} (hI : IX M) (hQ : ∀ z : Int, Q z M) : qX9_isEmpty M Q := by
  unfold qX9_isEmpty
  intro x1_289 ex1_289 rx1_289
  have bx1_289 : 0 ≤ x1_289 ∧ x1_289 ≤ 80 := by rw [ex1_289]; exact (bx_c156_1).mp (hI.bx _ _)
  refine ⟨fun c => ?_, fun c => ?_⟩
  · exact hQ _
  · exact hQ _
theorem sX11_hearses  {M : Mem} {Q : Int → Mem → Prop} (hI : IX M) (hQ : ∀ z : Int, ∀ M' : Mem, IX M' → Q z M') : qX11_hearses M Q := by
  unfold qX11_hearses
  refine sX9_isEmpty  hI  ?_
  intro x1_292 q293 q294
  refine ⟨fun c => ?_, fun c => ?_⟩
  · refine sX11_readLines (p1 := 1) hI  ?_
    intro x3_296 M3_297 hM3_297 q298
    unfold qX11_hearses_J19
    refine sX9_clear  hM3_297  ?_
    intro M4_299 hM4_299 gM4_299
    refine ⟨(by first | assumption | exact ⟨by omega, by omega⟩), ?_⟩
    exact hQ _ _ hM4_299
  · unfold qX11_hearses_J19
    refine sX9_clear  hI  ?_
    intro M4_301 hM4_301 gM4_301
    refine ⟨(by first | assumption | exact ⟨by omega, by omega⟩), ?_⟩
    exact hQ _ _ hM4_301
