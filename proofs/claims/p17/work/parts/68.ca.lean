theorem sX2_addLetter {k0 : Nat} {p1 : Int} {M : Mem} {Q : Mem → Prop} (hI : IX M) (hk0 : isL k0) (hp : 0 ≤ p1 ∧ p1 ≤ 6) (hQ : ∀ M' : Mem, IX M' → Fr (fun i => i = k0 ∨ i = k0 + 1 ∨ i = k0 + 2) M M' → Q M') : qX2_addLetter k0 p1 M Q := by
  unfold qX2_addLetter
  have ek0 : k0 = 187 ∨ k0 = 192 := hk0
  refine sX2_add (p1 := 301) (p2 := p1) hI hk0 (by omega) ?_
  intro M1_1 hM1_1 gM1_1
  have hFM1_1 : Fr (fun i => i = k0 ∨ i = k0 + 1 ∨ i = k0 + 2) M M1_1 := (Fr.rf).tr (gM1_1.mono (by intro i h; omega))
  intro x2_2 ex2_2 rx2_2
  have bx2_2 : -2147483648 ≤ x2_2 ∧ x2_2 ≤ 2147483647 := rx2_2
  intro x3_3 ex3_3 rx3_3
  first | (have fx3_3 := slI_1 (b := p1) (by omega); rw [← ex3_3] at fx3_3) | skip
  intro x4_4 ex4_4 rx4_4
  first | (have fx4_4 := oI_64 (a := x2_2) (b := x3_3) (by omega) (by omega); rw [← ex4_4] at fx4_4) | skip
  intro M5_5 h_M5_5
  have hM5_5 : IX M5_5 := by rw [h_M5_5]; exact hM1_1.up (isL.nsp0 hk0) (bx_lf0 hk0 (by decide))
  have hFM5_5 : Fr (fun i => i = k0 ∨ i = k0 + 1 ∨ i = k0 + 2) M M5_5 := by rw [h_M5_5]; exact (hFM1_1).up (by omega)
  exact hQ _ hM5_5 hFM5_5
theorem sX2_clear {k0 : Nat} {M : Mem} {Q : Mem → Prop} (hI : IX M) (hk0 : isL k0) (hQ : ∀ M' : Mem, IX M' → Q M') : qX2_clear k0 M Q := by
  unfold qX2_clear
  have ek0 : k0 = 187 ∨ k0 = 192 := hk0
  intro M1_6 h_M1_6
  have hM1_6 : IX M1_6 := by rw [h_M1_6]; exact hI.up (isL.nsp0 hk0) ((bx_l4 hk0).mpr (by omega))
  intro M2_7 h_M2_7
  have hM2_7 : IX M2_7 := by rw [h_M2_7]; exact hM1_6.up (isL.nsp0 hk0) (bx_lf0 hk0 (by decide))
  exact hQ _ hM2_7
theorem sX2_becomePlain {k0 : Nat} {M : Mem} {Q : Mem → Prop} (hI : IX M) (hk0 : isL k0) (hQ : ∀ M' : Mem, IX M' → Q M') : qX2_becomePlain k0 M Q := by
  unfold qX2_becomePlain
  have ek0 : k0 = 187 ∨ k0 = 192 := hk0
  refine sX2_clear  hI hk0 ?_
  intro M1_8 hM1_8
  refine sX2_add (p1 := 300) (p2 := 1) hM1_8 hk0 (by omega) ?_
  intro M2_9 hM2_9 gM2_9
  refine sX2_addLetter (p1 := 1) hM2_9 hk0 (by omega) ?_
  intro M3_10 hM3_10 gM3_10
  refine sX2_add (p1 := 300) (p2 := 2) hM3_10 hk0 (by omega) ?_
  intro M4_11 hM4_11 gM4_11
  refine sX2_add (p1 := 62) (p2 := 0) hM4_11 hk0 (by omega) ?_
  intro M5_12 hM5_12 gM5_12
  refine sX2_add (p1 := 43) (p2 := 0) hM5_12 hk0 (by omega) ?_
  intro M6_13 hM6_13 gM6_13
  exact hQ _ hM6_13
theorem sX8_gate  {M : Mem} {Q : Int → Mem → Prop} (hI : IX M) (hQ : ∀ z : Int, (3 ≤ z ∧ z ≤ 29 ∧ z = M 158 1 - 1) → Q z M) : qX8_gate M Q := by
  unfold qX8_gate
  intro x1_109 ex1_109 rx1_109
  have bx1_109 : 4 ≤ x1_109 ∧ x1_109 ≤ 30 := by rw [ex1_109]; exact (bx_c158_1).mp (hI.bx _ _)
  refine ⟨(by first | assumption | exact (by omega)), ?_⟩
  exact hQ _ (by omega)
theorem sX9_look  {M : Mem} {Q : Int → Mem → Prop} (hI : IX M) (hQ : ∀ z : Int, (-1 ≤ z ∧ z ≤ 255) → Q z M) : qX9_look M Q := by
  unfold qX9_look
  intro x1_115 ex1_115 rx1_115
  have bx1_115 : 0 ≤ x1_115 ∧ x1_115 ≤ 80 := by rw [ex1_115]; exact (bx_c156_2).mp (hI.bx _ _)
  intro x2_116 ex2_116 rx2_116
  have bx2_116 : 0 ≤ x2_116 ∧ x2_116 ≤ 80 := by rw [ex2_116]; exact (bx_c156_3).mp (hI.bx _ _)
  refine ⟨fun c => ?_, fun c => ?_⟩
  · exact hQ _ (by omega)
  · intro x4_119 ex4_119 rx4_119
    have bx4_119 : 0 ≤ x4_119 ∧ x4_119 ≤ 80 := by rw [ex4_119]; exact (bx_c156_2).mp (hI.bx _ _)
    refine ⟨by omega, ?_⟩
    refine ⟨by omega, ?_⟩
    intro x7_120 ex7_120 rx7_120
    have bx7_120 : 0 ≤ x7_120 ∧ x7_120 ≤ 255 := by rw [ex7_120]; exact (bx_c157).mp (hI.bx _ _)
    exact hQ _ (by omega)
theorem sX9_pass  {M : Mem} {Q : Mem → Prop} (hI : IX M) (hQ : ∀ M' : Mem, IX M' → Fr (fun i => i = 156) M M' → Q M') : qX9_pass M Q := by
  unfold qX9_pass
  intro x1_121 ex1_121 rx1_121
  have bx1_121 : 0 ≤ x1_121 ∧ x1_121 ≤ 80 := by rw [ex1_121]; exact (bx_c156_2).mp (hI.bx _ _)
  intro x2_122 ex2_122 rx2_122
  have bx2_122 : 0 ≤ x2_122 ∧ x2_122 ≤ 80 := by rw [ex2_122]; exact (bx_c156_3).mp (hI.bx _ _)
  refine ⟨fun c => ?_, fun c => ?_⟩
  · exact hQ _ hI Fr.rf
  · intro x4_125 ex4_125 rx4_125
    have bx4_125 : 0 ≤ x4_125 ∧ x4_125 ≤ 80 := by rw [ex4_125]; exact (bx_c156_2).mp (hI.bx _ _)
    refine ⟨(by first | assumption | exact (by omega)), ?_⟩
    intro M6_126 h_M6_126
    have hM6_126 : IX M6_126 := by rw [h_M6_126]; exact hI.up (by decide) ((bx_c156_2).mpr (by omega))
    have hFM6_126 : Fr (fun i => i = 156) M M6_126 := by rw [h_M6_126]; exact (Fr.rf).up (by omega)
    exact hQ _ hM6_126 hFM6_126
theorem sX9_digit  {M : Mem} {Q : Int → Mem → Prop} (hI : IX M) (hQ : ∀ z : Int, ∀ M' : Mem, IX M' → Fr (fun i => i = 156) M M' → (-1 ≤ z ∧ z ≤ 9) → Q z M') : qX9_digit M Q := by
  unfold qX9_digit
  refine sX9_look  hI  ?_
  intro x1_127 p128 q129
  refine ⟨fun c => ?_, fun c => ?_⟩
  · exact hQ _ _ hI Fr.rf (by omega)
  · refine ⟨fun c => ?_, fun c => ?_⟩
    · refine sX9_pass  hI  ?_
      intro M4_133 hM4_133 gM4_133
      have hFM4_133 : Fr (fun i => i = 156) M M4_133 := (Fr.rf).tr (gM4_133.mono (by intro i h; omega))
      refine ⟨(by first | assumption | exact (by omega)), ?_⟩
      exact hQ _ _ hM4_133 hFM4_133 (by omega)
    · exact hQ _ _ hI Fr.rf (by omega)
theorem sX9_number_L10 {p1 : Int}  {Q : Int → Mem → Prop} {M0 : Mem} (hp : p1 = 2 ∨ p1 = 3) (hQ : ∀ z : Int, ∀ M' : Mem, IX M' → Fr (fun i => i = 156) M0 M' → (-1 ≤ z ∧ z ≤ 999 ∧ (p1 = 2 → z ≤ 99)) → Q z M') : ∀ (n : Nat) (v2 v3 v4 : Int) (M : Mem), IX M → Fr (fun i => i = 156) M0 M → (1 ≤ v4 ∧ v4 ≤ p1 ∧ -1 ≤ v3 ∧ v3 ≤ 9 ∧ -1 ≤ v2 ∧ v2 ≤ 999 ∧ (v4 = 1 → v2 ≤ 9) ∧ (v4 = 2 → v2 ≤ 99) ∧ (v3 = -1 ∨ 0 ≤ v2)) → 4 - v4 < (n : Int) → qX9_number_L10 p1 Q n v2 v3 v4 M := by
  intro n
  induction n with
  | zero => intro v2 v3 v4 M hI hF hv hm; exact absurd hm (by omega)
  | succ n ih =>
    intro v2 v3 v4 M hI hF hv hm
    rw [qX9_number_L10]
    refine ⟨(by first | assumption | exact (by omega)), ?_⟩
    refine ⟨fun c => ?_, fun c => ?_⟩
    · refine ⟨(by first | assumption | exact (by omega)), ?_⟩
      exact hQ _ _ hI hF (by omega)
    · refine ⟨(by first | assumption | exact (by omega)), ?_⟩
      refine ⟨fun c => ?_, fun c => ?_⟩
      · refine ⟨(by first | assumption | exact (by omega)), ?_⟩
        exact hQ _ _ hI hF (by omega)
      · refine sX9_digit  hI  ?_
        intro x8_139 M8_140 hM8_140 gM8_140 p141 q142
        have hFM8_140 : Fr (fun i => i = 156) M0 M8_140 := (hF).tr (gM8_140.mono (by intro i h; omega))
        refine ⟨fun c => ?_, fun c => ?_⟩
        · exact ih _ _ _ _ hM8_140 hFM8_140 (by omega) (by omega)
        · exact ih _ _ _ _ hM8_140 hFM8_140 (by omega) (by omega)
theorem sX9_number {p1 : Int} {M : Mem} {Q : Int → Mem → Prop} (hI : IX M) (hp : p1 = 2 ∨ p1 = 3) (hQ : ∀ z : Int, ∀ M' : Mem, IX M' → Fr (fun i => i = 156) M M' → (-1 ≤ z ∧ z ≤ 999 ∧ (p1 = 2 → z ≤ 99)) → Q z M') : qX9_number p1 M Q := by
  unfold qX9_number
  refine sX9_digit  hI  ?_
  intro x1_145 M1_146 hM1_146 gM1_146 p147 q148
  have hFM1_146 : Fr (fun i => i = 156) M M1_146 := (Fr.rf).tr (gM1_146.mono (by intro i h; omega))
  refine ⟨5, ?_⟩
  refine sX9_number_L10 hp ?_ _ _ _ _ _ hM1_146 hFM1_146 (by omega) (by omega)
  · exact hQ
theorem sX6_hearseOn_L2 {k0 : Nat} {p1 : Int}  {Q : Int → Mem → Prop} {M0 : Mem} (hk0 : isS k0) (hQ : ∀ z : Int, (-1 ≤ z ∧ z ≤ 5) → Q z M0) : ∀ (n : Nat) (v2 : Int), IX M0 → (0 ≤ v2 ∧ v2 ≤ 6) → 6 - v2 < (n : Int) → qX6_hearseOn_L2 k0 p1 Q n v2 M0 := by
  intro n
  induction n with
  | zero => intro v2 hI hv hm; exact absurd hm (by omega)
  | succ n ih =>
    intro v2 hI hv hm
    rw [qX6_hearseOn_L2]
    have ek0 : 0 < k0 ∧ k0 < 155 ∧ (k0 - 1) % 7 = 0 := hk0
    intro x1_165 ex1_165 rx1_165
    have bx1_165 : 0 ≤ x1_165 ∧ x1_165 ≤ 6 := by rw [ex1_165]; exact (bx_s0_6 hk0).mp (hI.bx _ _)
    refine ⟨(by first | assumption | exact (by omega)), ?_⟩
    refine ⟨fun c => ?_, fun c => ?_⟩
    · exact hQ _ (by omega)
    · refine ⟨by omega, ?_⟩
      refine ⟨by omega, ?_⟩
      intro x6_168 ex6_168 rx6_168
      have bx6_168 : -1 ≤ x6_168 ∧ x6_168 ≤ 29 := by rw [ex6_168]; exact (bx_s1 hk0).mp (hI.bx _ _)
      refine ⟨fun c => ?_, fun c => ?_⟩
      · exact ih _ hI (by omega) (by omega)
      · exact hQ _ (by omega)
theorem sX6_hearseOn {k0 : Nat} {p1 : Int} {M : Mem} {Q : Int → Mem → Prop} (hI : IX M) (hk0 : isS k0) (hQ : ∀ z : Int, (-1 ≤ z ∧ z ≤ 5) → Q z M) : qX6_hearseOn k0 p1 M Q := by
  unfold qX6_hearseOn
  have ek0 : 0 < k0 ∧ k0 < 155 ∧ (k0 - 1) % 7 = 0 := hk0
  refine ⟨7, ?_⟩
  refine sX6_hearseOn_L2 hk0 ?_ _ _ hI (by omega) (by omega)
  · exact hQ
theorem sX9_isWhole  {M : Mem} {Q : Int → Mem → Prop} (hI : IX M) (hQ : ∀ z : Int, Q z M) : qX9_isWhole M Q := by
  unfold qX9_isWhole
  intro x1_220 ex1_220 rx1_220
  have bx1_220 : 0 ≤ x1_220 ∧ x1_220 ≤ 80 := by rw [ex1_220]; exact (bx_c156_2).mp (hI.bx _ _)
  intro x2_221 ex2_221 rx2_221
  have bx2_221 : 0 ≤ x2_221 ∧ x2_221 ≤ 80 := by rw [ex2_221]; exact (bx_c156_1).mp (hI.bx _ _)
  refine ⟨fun c => ?_, fun c => ?_⟩
  · exact hQ _
  · exact hQ _
theorem sX9_open {p1 : Int} {M : Mem} {Q : Mem → Prop} (hI : IX M) (hp : 0 ≤ p1 ∧ p1 ≤ 80) (hQ : ∀ M' : Mem, IX M' → Fr (fun i => i = 156) M M' → Q M') : qX9_open p1 M Q := by
  unfold qX9_open
  intro M1_224 h_M1_224
  have hM1_224 : IX M1_224 := by rw [h_M1_224]; exact hI.up (by decide) ((bx_c156_2).mpr (by omega))
  have hFM1_224 : Fr (fun i => i = 156) M M1_224 := by rw [h_M1_224]; exact (Fr.rf).up (by omega)
  intro x2_225 ex2_225 rx2_225
  have bx2_225 : 0 ≤ x2_225 ∧ x2_225 ≤ 80 := by rw [ex2_225]; exact (bx_c156_1).mp (hM1_224.bx _ _)
  have fx2_225 : x2_225 = M 156 1 := by rw [ex2_225, h_M1_224, up2_j (by decide)]
  intro x3_226 ex3_226 rx3_226
  intro M4_227 h_M4_227
  have hM4_227 : IX M4_227 := by rw [h_M4_227]; exact hM1_224.up (by decide) ((bx_c156_3).mpr (by omega))
  have hFM4_227 : Fr (fun i => i = 156) M M4_227 := by rw [h_M4_227]; exact (hFM1_224).up (by omega)
  exact hQ _ hM4_227 hFM4_227
theorem sX9_isEmpty  {M : Mem} {Q : Int → Mem → Prop} (hI : IX M) (hQ : ∀ z : Int, Q z M) : qX9_isEmpty M Q := by
  unfold qX9_isEmpty
  intro x1_289 ex1_289 rx1_289
  have bx1_289 : 0 ≤ x1_289 ∧ x1_289 ≤ 80 := by rw [ex1_289]; exact (bx_c156_1).mp (hI.bx _ _)
  refine ⟨fun c => ?_, fun c => ?_⟩
  · exact hQ _
  · exact hQ _
