/-! THE STATE on both sides: what no step changes (cut), now, what can be undone, what is kept -/
theorem rmI_e {a b : Int} (ha : 0 ≤ a ∧ a ≤ 2147483647) (hb : 1 ≤ b ∧ b ≤ 2147483647) : rmI a b = a % b := by
  have h0 : 0 ≤ a / b := Int.ediv_nonneg ha.1 (by omega)
  have h1 : a / b ≤ a := Int.ediv_le_self b ha.1
  have q : iI a / iI b = iI (a / b) := by
    rw [← iI_toI (iI a / iI b)]
    exact congrArg iI (dvI_e ha hb)
  have hm : a - a / b * b = a % b := by
    have := Int.emod_add_mul_ediv a b
    have e : a / b * b = b * (a / b) := Int.mul_comm _ _
    omega
  have hr0 : 0 ≤ a % b := Int.emod_nonneg a (by omega)
  have hr1 : a % b < b := Int.emod_lt_of_pos a (by omega)
  unfold rmI
  rw [q, ← hm]
  have : iI a - iI (a / b) * iI b = iI (a - a / b * b) := by
    unfold iI
    rw [Int32.ofInt_sub, Int32.ofInt_mul]
  rw [this]
  exact iI_toInt ⟨by omega, by omega⟩
/-- what no step changes -/
def cut (M : Mem) : Mem := fun k j => if cE k j then M k j else 0
theorem cut_p {M : Mem} {k : Nat} {j : Int} (h : cE k j) : cut M k j = M k j := by unfold cut; rw [if_pos h]
theorem cut_CE (M : Mem) : CE (cut M) M := fun k j h => (cut_p h).symm
theorem cut_eq {M0 M : Mem} (h : CE (cut M0) M) : cut M = cut M0 := by
  funext k j
  by_cases c : cE k j
  · rw [cut_p c, h k j c]
  · show (if cE k j then M k j else 0) = (if cE k j then M0 k j else 0)
    rw [if_neg c, if_neg c]
theorem cut_of {M0 M : Mem} (h : ∀ k j, cE k j → M k j = M0 k j) : cut M = cut M0 := cut_eq (fun k j c => (h k j c).trans (cut_p c).symm)
theorem cut13 (M : Mem) : cut M 1 3 = M 1 3 := cut_p cE13
theorem cut14 (M : Mem) : cut M 1 4 = M 1 4 := cut_p cE14
theorem cut15 (M : Mem) : cut M 1 5 = M 1 5 := cut_p cE15
theorem cut17 (M : Mem) : cut M 1 7 = M 1 7 := cut_p cE17
theorem cut124 (M : Mem) : cut M 1 24 = M 1 24 := cut_p cE124
theorem cut2 (M : Mem) : cut M 2 = M 2 := funext fun j => cut_p (cE2 j)
theorem cut3 (M : Mem) : cut M 3 = M 3 := funext fun j => cut_p (cE3 j)
theorem cut4 (M : Mem) : cut M 4 = M 4 := funext fun j => cut_p (cE4 j)
theorem cut11 (M : Mem) : cut M 11 = M 11 := funext fun j => cut_p (cE11 j)
theorem cut_EB {M : Mem} {b : Int} (h : IM b M) : EBx (cut M) := by
  have h3 := bm_c1_3.mp (h.bx 1 3)
  have h4 := bm_c1_4.mp (h.bx 1 4)
  have h5 := bm_c1_5.mp (h.bx 1 5)
  unfold EBx
  rw [cut13, cut14, cut15]
  exact ⟨h3, h4, h5⟩
theorem cut_W {M : Mem} {b : Int} (h : IM b M) : WFC (cut M 11) (cut M 1 24) := by
  rw [cut11, cut124]
  exact h.2
def sg (f : Int → Int) (a : Int) : Int → Int := fun j => f (38 * a + j)
theorem WR.cg {E : Mem} {r r' : Int → Int} (hW : WR E r) (hE : EBx E) (h : ∀ j, 0 ≤ j → j < 38 → r' j = r j) : WR E r' := by
  obtain ⟨a, b, c, d, e⟩ := hW
  have f := hE.f
  obtain ⟨g1, g2, g3⟩ := hE
  refine ⟨fun i j p1 p2 p3 p4 q s => ?_, fun i p q => ?_, fun m p q => ?_, ?_, ?_⟩
  · rw [h i (by omega) (by omega)] at q s
    rw [h j (by omega) (by omega)] at q
    exact a i j p1 p2 p3 p4 q s
  · rw [h i (by omega) (by omega), h (6 + i) (by omega) (by omega)]
    exact b i p q
  · rw [h (21 + m) (by omega) (by omega), h (13 + m) (by omega) (by omega), h (29 + m) (by omega) (by omega)]
    exact c m p q
  · rw [h 12 (by decide) (by decide), d]
    exact arF_cg (fun i p q => by rw [h i p (by omega)])
  · rw [h 37 (by decide) (by decide)]
    exact e
theorem SC.cg {E M : Mem} {k : Nat} {r r' : Int → Int} (hC : SC E M k r) (hE : EBx E) (h : ∀ j, 0 ≤ j → j < 38 → r' j = r j) : SC E M k r' := by
  obtain ⟨a1, a2, a3, a4, a5, a6, a7, a8, a9, a10, a11⟩ := hC
  have f := hE.f
  obtain ⟨g1, g2, g3⟩ := hE
  refine ⟨a1, a2, fun j p q => ?_, fun j p q => ?_, ?_, fun m p q => ?_, a7, fun m p q => ?_, fun m p q => ?_, ?_, ?_⟩
  · rw [h j (by omega) (by omega)]; exact a3 j p q
  · rw [h (6 + j) (by omega) (by omega)]; exact a4 j p q
  · rw [h 12 (by decide) (by decide)]; exact a5
  · rw [h (13 + m) (by omega) (by omega)]; exact a6 m p q
  · rw [h (21 + m) (by omega) (by omega)]; exact a8 m p q
  · rw [h (29 + m) (by omega) (by omega)]; exact a9 m p q
  · rw [h 37 (by decide) (by decide)]; exact a10
  · rw [a11]; exact egF_cg (fun i p q => by rw [h (29 + i) (by omega) (by omega)])
-- one scene is copied over another
theorem gX6_copyFrom {k0 k1 : Nat} {M : Mem} {Q : Mem → Prop} (hI : IX M) (hk0 : isS k0) (hk1 : isS k1) (hne : k0 ≠ k1) (hQ : ∀ M' : Mem, IX M' → Ks (fun k _ => k0 ≤ k ∧ k ≤ k0 + 6) M M' → (∀ (E : Mem) (r : Int → Int), SC E M k1 r → SC E M' k0 r) → M' k0 6 = M k1 6 ∧ M' k0 7 = M k1 7 → Q M') : qX6_copyFrom k0 k1 M Q := by
  have ek0 : 0 < k0 ∧ k0 < 155 ∧ (k0 - 1) % 7 = 0 := hk0
  have ek1 : 0 < k1 ∧ k1 < 155 ∧ (k1 - 1) % 7 = 0 := hk1
  unfold qX6_copyFrom
  intro M1 h1 M2 h2 M3 h3 M4 h4 M5 h5 M6 h6 x7 e7 _ M8 h8 x9 e9 _ M10 h10 x11 e11 _ M12 h12 x13 e13 _ M14 h14 x15 e15 _ M16 h16
  have i1 : IX M1 := by rw [h1]; exact hI.cp (hk0.nsp 1 (by decide)) (fun j v q => (bx_s1 hk0).mpr ((bx_s1 hk1).mp q))
  have i2 : IX M2 := by rw [h2]; exact i1.cp (hk0.nsp 2 (by decide)) (fun j v q => bx_sf2 hk0)
  have i3 : IX M3 := by rw [h3]; exact i2.cp (hk0.nsp 3 (by decide)) (fun j v q => (bx_s3 hk0).mpr ((bx_s3 hk1).mp q))
  have i4 : IX M4 := by rw [h4]; exact i3.cp (hk0.nsp 4 (by decide)) (fun j v q => (bx_s4 hk0).mpr ((bx_s4 hk1).mp q))
  have i5 : IX M5 := by rw [h5]; exact i4.cp (hk0.nsp 5 (by decide)) (fun j v q => (bx_s5 hk0).mpr ((bx_s5 hk1).mp q))
  have i6 : IX M6 := by rw [h6]; exact i5.cp (hk0.nsp 6 (by decide)) (fun j v q => bx_sf6 hk0)
  have b7 : 0 ≤ x7 ∧ x7 ≤ 6 := by rw [e7]; exact (bx_s0_6 hk1).mp (i6.bx _ _)
  have i8 : IX M8 := by rw [h8]; exact i6.up (hk0.nsp 0 (by decide)) ((bx_s0_6 hk0).mpr b7)
  have b9 : 0 ≤ x9 ∧ x9 ≤ 8 := by rw [e9]; exact (bx_s0_7 hk1).mp (i8.bx _ _)
  have i10 : IX M10 := by rw [h10]; exact i8.up (hk0.nsp 0 (by decide)) ((bx_s0_7 hk0).mpr b9)
  have i12 : IX M12 := by rw [h12]; exact i10.up (hk0.nsp 0 (by decide)) (bx_sf0 hk0 (by decide) (by decide))
  have i14 : IX M14 := by rw [h14]; exact i12.up (hk0.nsp 0 (by decide)) (bx_sf0 hk0 (by decide) (by decide))
  have i16 : IX M16 := by rw [h16]; exact i14.up (hk0.nsp 0 (by decide)) (bx_sf0 hk0 (by decide) (by decide))
  have c1 : ∀ j, 0 ≤ j → j < 6 → M16 (k0 + 1) j = M (k1 + 1) j := by
    intro j a q
    rw [h16, up2_n (by omega), h14, up2_n (by omega), h12, up2_n (by omega), h10, up2_n (by omega), h8, up2_n (by omega), h6, cp2_n (by omega), h5, cp2_n (by omega), h4, cp2_n (by omega), h3, cp2_n (by omega), h2, cp2_n (by omega), h1, cp2_s a q]
  have c2 : ∀ j, 0 ≤ j → j < 6 → M16 (k0 + 2) j = M (k1 + 2) j := by
    intro j a q
    rw [h16, up2_n (by omega), h14, up2_n (by omega), h12, up2_n (by omega), h10, up2_n (by omega), h8, up2_n (by omega), h6, cp2_n (by omega), h5, cp2_n (by omega), h4, cp2_n (by omega), h3, cp2_n (by omega), h2, cp2_s a q, h1, cp2_n (by omega)]
  have c3 : ∀ j, 0 ≤ j → j < 8 → M16 (k0 + 3) j = M (k1 + 3) j := by
    intro j a q
    rw [h16, up2_n (by omega), h14, up2_n (by omega), h12, up2_n (by omega), h10, up2_n (by omega), h8, up2_n (by omega), h6, cp2_n (by omega), h5, cp2_n (by omega), h4, cp2_n (by omega), h3, cp2_s a q, h2, cp2_n (by omega), h1, cp2_n (by omega)]
  have c4 : ∀ j, 0 ≤ j → j < 8 → M16 (k0 + 4) j = M (k1 + 4) j := by
    intro j a q
    rw [h16, up2_n (by omega), h14, up2_n (by omega), h12, up2_n (by omega), h10, up2_n (by omega), h8, up2_n (by omega), h6, cp2_n (by omega), h5, cp2_n (by omega), h4, cp2_s a q, h3, cp2_n (by omega), h2, cp2_n (by omega), h1, cp2_n (by omega)]
  have c5 : ∀ j, 0 ≤ j → j < 8 → M16 (k0 + 5) j = M (k1 + 5) j := by
    intro j a q
    rw [h16, up2_n (by omega), h14, up2_n (by omega), h12, up2_n (by omega), h10, up2_n (by omega), h8, up2_n (by omega), h6, cp2_n (by omega), h5, cp2_s a q, h4, cp2_n (by omega), h3, cp2_n (by omega), h2, cp2_n (by omega), h1, cp2_n (by omega)]
  have c6 : ∀ j, 0 ≤ j → j < 8 → M16 (k0 + 6) j = M (k1 + 6) j := by
    intro j a q
    rw [h16, up2_n (by omega), h14, up2_n (by omega), h12, up2_n (by omega), h10, up2_n (by omega), h8, up2_n (by omega), h6, cp2_s a q, h5, cp2_n (by omega), h4, cp2_n (by omega), h3, cp2_n (by omega), h2, cp2_n (by omega), h1, cp2_n (by omega)]
  have d6 : M16 k0 6 = M k1 6 := by rw [h16, up2_j (by decide), h14, up2_j (by decide), h12, up2_j (by decide), h10, up2_j (by decide), h8, up2_s, e7, h6, cp2_n (by omega), h5, cp2_n (by omega), h4, cp2_n (by omega), h3, cp2_n (by omega), h2, cp2_n (by omega), h1, cp2_n (by omega)]
  have d7 : M16 k0 7 = M k1 7 := by rw [h16, up2_j (by decide), h14, up2_j (by decide), h12, up2_j (by decide), h10, up2_s, e9, h8, up2_n (by omega), h6, cp2_n (by omega), h5, cp2_n (by omega), h4, cp2_n (by omega), h3, cp2_n (by omega), h2, cp2_n (by omega), h1, cp2_n (by omega)]
  have d8 : M16 k0 8 = M k1 8 := by rw [h16, up2_j (by decide), h14, up2_j (by decide), h12, up2_s, e11, h10, up2_n (by omega), h8, up2_n (by omega), h6, cp2_n (by omega), h5, cp2_n (by omega), h4, cp2_n (by omega), h3, cp2_n (by omega), h2, cp2_n (by omega), h1, cp2_n (by omega)]
  have d9 : M16 k0 9 = M k1 9 := by rw [h16, up2_j (by decide), h14, up2_s, e13, h12, up2_n (by omega), h10, up2_n (by omega), h8, up2_n (by omega), h6, cp2_n (by omega), h5, cp2_n (by omega), h4, cp2_n (by omega), h3, cp2_n (by omega), h2, cp2_n (by omega), h1, cp2_n (by omega)]
  have d10 : M16 k0 10 = M k1 10 := by rw [h16, up2_s, e15, h14, up2_n (by omega), h12, up2_n (by omega), h10, up2_n (by omega), h8, up2_n (by omega), h6, cp2_n (by omega), h5, cp2_n (by omega), h4, cp2_n (by omega), h3, cp2_n (by omega), h2, cp2_n (by omega), h1, cp2_n (by omega)]
  refine hQ _ i16 ?_ ?_ ⟨d6, d7⟩
  · rw [h16, h14, h12, h10, h8, h6, h5, h4, h3, h2, h1]
    exact ((((((((((Ks.rf.cp (fun _ => by omega)).cp (fun _ => by omega)).cp (fun _ => by omega)).cp (fun _ => by omega)).cp (fun _ => by omega)).cp (fun _ => by omega)).wr (by omega)).wr (by omega)).wr (by omega)).wr (by omega)).wr (by omega)
  · intro E r h
    obtain ⟨a1, a2, a3, a4, a5, a6, a7, a8, a9, a10, a11⟩ := h
    exact ⟨d6.trans a1, d7.trans a2, fun j p q => (c1 j p q).trans (a3 j p q), fun j p q => (c2 j p q).trans (a4 j p q), d8.trans a5, fun j p q => (c3 j p q).trans (a6 j p q), fun j p q => (c4 j p q).trans (a7 j p q), fun j p q => (c5 j p q).trans (a8 j p q), fun j p q => (c6 j p q).trans (a9 j p q), d10.trans a10, d9.trans a11⟩
-- the history of the class
def CADD (M M' : Mem) (k1 : Nat) : Prop := (∀ (E : Mem) (r : Int → Int), SC E M k1 r → SC E M' (50 + 7 * ((M 163 1 + M 163 2) % 15).toNat) r) ∧ (∀ (s : Int) (i : Nat) (j : Int), 0 ≤ s → s < 15 → s ≠ (M 163 1 + M 163 2) % 15 → i ≤ 6 → M' (50 + 7 * s.toNat + i) j = M (50 + 7 * s.toNat + i) j) ∧ (M 163 2 ≤ 14 ∧ M' 163 1 = M 163 1 ∧ M' 163 2 = M 163 2 + 1 ∨ 15 ≤ M 163 2 ∧ M' 163 1 = (M 163 1 + 1) % 15 ∧ M' 163 2 = M 163 2)
abbrev kHi (k : Nat) (j : Int) : Prop := (50 ≤ k ∧ k ≤ 154) ∨ (k = 163 ∧ (j = 1 ∨ j = 2))
theorem gX1_add {k1 : Nat} {M : Mem} {Q : Mem → Prop} (hI : IX M) (hk1 : isS k1) (hlt : k1 < 50) (hQ : ∀ M' : Mem, IX M' → Ks kHi M M' → CADD M M' k1 → Q M') : qX1_add k1 M Q := by
  have b1 := bx_c163_1.mp (hI.bx 163 1)
  have b2 := bx_c163_2.mp (hI.bx 163 2)
  unfold qX1_add
  intro x1 e1 _ x2 e2 _ x3 e3 _
  have f3 : x3 = (M 163 1 + M 163 2) % 15 := by rw [e3, rmI_e ⟨by omega, by omega⟩ (by decide), e1, e2]
  refine ⟨by omega, by omega, ?_⟩
  refine gX6_copyFrom hI (isS_hist (e := x3) (by omega) (by omega)) hk1 (by omega) ?_
  intro M6 i6 k6 s6 _ x7 e7 _
  have f7 : x7 = M 163 2 := by rw [e7]; exact k6 163 2 (by omega)
  have g1 : M6 163 1 = M 163 1 := k6 163 1 (by omega)
  have g2 : M6 163 2 = M 163 2 := k6 163 2 (by omega)
  rw [f3] at s6 k6
  have fin : ∀ (j v : Int), (j = 1 ∨ j = 2) → IX (up2 M6 163 j v) → (M 163 2 ≤ 14 ∧ up2 M6 163 j v 163 1 = M 163 1 ∧ up2 M6 163 j v 163 2 = M 163 2 + 1 ∨ 15 ≤ M 163 2 ∧ up2 M6 163 j v 163 1 = (M 163 1 + 1) % 15 ∧ up2 M6 163 j v 163 2 = M 163 2) → Q (up2 M6 163 j v) := by
    intro j v hj hi hc
    refine hQ _ hi ((k6.mono (by intro k i h; exact Or.inl (by omega))).wr (Or.inr ⟨rfl, hj⟩)) ⟨fun E r h => ?_, fun s i t h1 h2 h3 h4 => ?_, hc⟩
    · exact (s6 E r h).fr (fun i t hi => by rw [up2_n (by omega)])
    · rw [up2_n (by omega)]
      exact k6 _ t (by omega)
  refine ⟨fun c => ?_, fun c => ?_⟩
  · intro x9 e9 _ x10 e10 _ M11 h11
    have f10 : x10 = (M 163 1 + 1) % 15 := by rw [e10, rmI_e ⟨by omega, by omega⟩ (by decide), e9, g1]
    rw [h11]
    exact fin 1 x10 (Or.inl rfl) (i6.up (by decide) (bx_c163_1.mpr ⟨by omega, by omega⟩)) (Or.inr ⟨by omega, by rw [up2_s]; exact f10, by rw [up2_j (by decide)]; exact g2⟩)
  · intro x12 e12 _
    refine ⟨⟨by omega, by omega⟩, ?_⟩
    intro M14 h14
    rw [h14]
    exact fin 2 (x12 + 1) (Or.inr rfl) (i6.up (by decide) (bx_c163_2.mpr ⟨by omega, by omega⟩)) (Or.inl ⟨by omega, by rw [up2_j (by decide)]; exact g1, by rw [up2_s]; omega⟩)
theorem gX1_takeBack {k1 : Nat} {M : Mem} {Q : Int → Mem → Prop} (hI : IX M) (hk1 : isS k1) (hlt : k1 < 50) (hQ : ∀ (z : Int) (M' : Mem), IX M' → Ks (fun k j => (k1 ≤ k ∧ k ≤ k1 + 6) ∨ (k = 163 ∧ j = 2)) M M' → (M 163 2 = 0 ∧ z = 0 ∧ M' = M ∨ 0 < M 163 2 ∧ z = 1 ∧ M' 163 2 = M 163 2 - 1 ∧ ∀ (E : Mem) (r : Int → Int), SC E M (50 + 7 * ((M 163 1 + (M 163 2 - 1)) % 15).toNat) r → SC E M' k1 r) → Q z M') : qX1_takeBack k1 M Q := by
  have b1 := bx_c163_1.mp (hI.bx 163 1)
  have b2 := bx_c163_2.mp (hI.bx 163 2)
  unfold qX1_takeBack
  intro x1 e1 _
  refine ⟨fun c => ?_, fun c => hQ _ _ hI Ks.rf (Or.inl ⟨by omega, rfl, rfl⟩)⟩
  intro x3 e3 _
  refine ⟨⟨by omega, by omega⟩, ?_⟩
  intro M5 h5 x6 e6 _ x7 e7 _ x8 e8 _
  have i5 : IX M5 := by rw [h5]; exact hI.up (by decide) (bx_c163_2.mpr ⟨by omega, by omega⟩)
  have f6 : x6 = M 163 1 := by rw [e6, h5, up2_j (by decide)]
  have f7 : x7 = M 163 2 - 1 := by rw [e7, h5, up2_s, e3]
  have f8 : x8 = (M 163 1 + (M 163 2 - 1)) % 15 := by rw [e8, rmI_e ⟨by omega, by omega⟩ (by decide), f6, f7]
  refine ⟨by omega, by omega, ?_⟩
  refine gX6_copyFrom i5 hk1 (isS_hist (e := x8) (by omega) (by omega)) (by omega) ?_
  intro M11 i11 k11 s11 _
  refine hQ _ _ i11 ?_ (Or.inr ⟨by omega, rfl, ?_, fun E r h => ?_⟩)
  · have k5 : Ks (fun k j => (k1 ≤ k ∧ k ≤ k1 + 6) ∨ (k = 163 ∧ j = 2)) M M5 := by rw [h5]; exact Ks.rf.wr (Or.inr ⟨rfl, rfl⟩)
    exact k5.tr (k11.mono (fun _ _ q => Or.inl q))
  · have ek1 : 0 < k1 ∧ k1 < 155 ∧ (k1 - 1) % 7 = 0 := hk1
    rw [k11 163 2 (by omega), h5, up2_s, e3]
  · refine s11 E r ?_
    rw [f8]
    exact h.fr (fun i t hi => by rw [h5, up2_n (by omega)])
-- the history of the reference
theorem gX12_putsBy_L2 {Q : Mem → Prop} {b : Int} {M0 : Mem} (hQ : ∀ M' : Mem, IM b M' → FrJ (fun k j => k = 15 ∧ 38 * M0 1 28 ≤ j) M0 M' → (∀ j, 0 ≤ j → j < 38 → M' 15 (38 * M0 1 28 + j) = M0 5 j) → Q M') : ∀ (n : Nat) (v1 : Int) (M : Mem), IM b M → FrJ (fun k j => k = 15 ∧ 38 * M0 1 28 ≤ j) M0 M → (∀ j, 0 ≤ j → j < v1 → M 15 (38 * M0 1 28 + j) = M0 5 j) → (0 ≤ v1 ∧ v1 ≤ 38) → 38 - v1 < (n : Int) → qX12_putsBy_L2 Q n v1 M := by
  intro n
  induction n with
  | zero => intro v1 M hI hF hs hv hm; exact absurd hm (by omega)
  | succ n ih =>
    intro v1 M hI hF hs hv hm
    rw [qX12_putsBy_L2]
    refine ⟨⟨by omega, by omega⟩, ⟨fun c => hQ _ hI hF (fun j p q => hs j p (by omega)), fun c => ?_⟩⟩
    intro x3 e3 _
    have b3 : 0 ≤ x3 ∧ x3 ≤ 15 := by rw [e3]; exact bm_c1_28.mp (hI.bx _ _)
    have f3 : x3 = M0 1 28 := by rw [e3]; exact hF 1 28 (by omega)
    refine ⟨by omega, by omega, ?_⟩
    intro x6 e6 _
    refine ⟨by omega, by omega, ?_⟩
    intro M9 h9
    have hn : BN b v1 x6 := by rw [e6]; exact (bm_n (Or.inl rfl)).mp (hI.bx _ _)
    refine ih _ _ (by rw [h9]; exact hI.up (by omega) (bm_c15.mpr (by rw [show (38 * x3 + v1) % 38 = v1 from by omega]; exact hn))) (by rw [h9]; exact hF.up ⟨rfl, by omega⟩) ?_ (by omega) (by omega)
    intro j p q
    rw [h9]
    by_cases cj : j = v1
    · rw [cj, ← f3, up2_s, e6]
      exact hF 5 v1 (by omega)
    · rw [up2_j (by omega)]
      exact hs j p (by omega)
theorem gX12_putsBy {b : Int} {M : Mem} {Q : Mem → Prop} (hI : IM b M) (hQ : ∀ M' : Mem, IM b M' → FrJ (fun k j => k = 15 ∧ 38 * M 1 28 ≤ j) M M' → (∀ j, 0 ≤ j → j < 38 → M' 15 (38 * M 1 28 + j) = M 5 j) → Q M') : qX12_putsBy M Q := by
  unfold qX12_putsBy
  exact ⟨39, gX12_putsBy_L2 hQ _ _ _ hI FrJ.rf (fun j p q => by omega) (by omega) (by omega)⟩
theorem gX12_adds_L21 {p1 b : Int} {X49 : Mem → Prop} {Q : Int → Mem → Prop} {M0 : Mem} (hX : ∀ M' : Mem, IM b (up2 M' 1 28 15) → FrJ (fun k _ => k = 15) M0 M' → (∀ j, 0 ≤ j → j < 570 → M' 15 j = M0 15 (j + 38)) → X49 M') (h0 : M0 1 28 = 16) : ∀ (n : Nat) (v2 : Int) (M : Mem), IM b (up2 M 1 28 15) → FrJ (fun k _ => k = 15) M0 M → (∀ j, 0 ≤ j → j < v2 → M 15 j = M0 15 (j + 38)) → (∀ j, v2 ≤ j → M 15 j = M0 15 j) → (0 ≤ v2 ∧ v2 ≤ 570) → 570 - v2 < (n : Int) → qX12_adds_L21 p1 X49 Q n v2 M := by
  intro n
  induction n with
  | zero => intro v2 M hI hF hs hs2 hv hm; exact absurd hm (by omega)
  | succ n ih =>
    intro v2 M hI hF hs hs2 hv hm
    rw [qX12_adds_L21]
    refine ⟨⟨by omega, by omega⟩, ⟨fun c => hX _ hI hF (fun j p q => hs j p (by omega)), fun c => ?_⟩⟩
    refine ⟨by omega, by omega, ?_⟩
    intro x10 e10 _
    refine ⟨by omega, by omega, ?_⟩
    intro M13 h13
    refine ih _ _ ?_ (by rw [h13]; exact hF.up rfl) ?_ ?_ (by omega) (by omega)
    · have q : up2 M13 1 28 15 = up2 (up2 M 1 28 15) 15 v2 x10 := by
        rw [h13]
        funext k j
        simp only [up2_a]
        by_cases c1 : k = 1
        · subst c1; simp
        · simp [c1]
      rw [q]
      refine hI.up (by omega) (bm_c15.mpr ?_)
      have r := bm_c15.mp (hI.bx 15 (v2 + 38))
      rw [up2_n (by decide), ← e10, show (v2 + 38) % 38 = v2 % 38 from by omega] at r
      exact r
    · intro j p q
      rw [h13]
      by_cases cj : j = v2
      · rw [cj, up2_s, e10]
        exact hs2 _ (by omega)
      · rw [up2_j cj]
        exact hs j p (by omega)
    · intro j p
      rw [h13, up2_j (by omega)]
      exact hs2 j (by omega)
/-- what putsBy ahead of an act and adds behind it make -/
def RADD (M M' : Mem) : Prop := (M 1 28 ≤ 14 ∧ M' 1 28 = M 1 28 + 1 ∧ (∀ j, 0 ≤ j → j < 38 * M 1 28 → M' 15 j = M 15 j) ∧ ∀ j, 0 ≤ j → j < 38 → M' 15 (38 * M 1 28 + j) = M 5 j) ∨ (M 1 28 = 15 ∧ M' 1 28 = 15 ∧ (∀ j, 0 ≤ j → j < 532 → M' 15 j = M 15 (j + 38)) ∧ ∀ j, 0 ≤ j → j < 38 → M' 15 (532 + j) = M 5 j)
abbrev kHm (k : Nat) (j : Int) : Prop := k = 15 ∨ (k = 1 ∧ j = 28)
theorem gX12_adds {p1 b : Int} {M0 M : Mem} {Q : Int → Mem → Prop} (hI : IM b M) (h28 : M 1 28 = M0 1 28) (h15 : ∀ j, 0 ≤ j → j < 38 * M0 1 28 → M 15 j = M0 15 j) (hp : ∀ j, 0 ≤ j → j < 38 → M 15 (38 * M0 1 28 + j) = M0 5 j) (hQ : ∀ M' : Mem, IM b M' → FrJ kHm M M' → RADD M0 M' → Q p1 M') : qX12_adds p1 M Q := by
  unfold qX12_adds
  intro x1 e1 _
  have b1 : 0 ≤ x1 ∧ x1 ≤ 15 := by rw [e1]; exact bm_c1_28.mp (hI.bx _ _)
  refine ⟨⟨by omega, by omega⟩, ?_⟩
  intro M3 h3 x4 e4 _
  have f4 : x4 = x1 + 1 := by rw [e4, h3, up2_s]
  have k15 : M3 15 = M 15 := by rw [h3, up2_n (by decide)]
  refine ⟨fun c => hQ _ ?_ ?_ (Or.inl ⟨by omega, ?_, fun j p q => ?_, fun j p q => ?_⟩), fun c => ?_⟩
  · rw [h3]; exact hI.up (by omega) (bm_c1_28.mpr ⟨by omega, by omega⟩)
  · rw [h3]; exact FrJ.rf.up (Or.inr ⟨rfl, rfl⟩)
  · rw [h3, up2_s]; omega
  · rw [k15]; exact h15 j p q
  · rw [k15]; exact hp j p q
  · refine ⟨571, gX12_adds_L21 (b := b) (M0 := M3) ?_ (by rw [h3, up2_s]; omega) _ _ _ ?_ FrJ.rf (fun j p q => by omega) (fun j p => rfl) (by omega) (by omega)⟩
    · intro M' h' hF hs x15 e15 _
      have f15 : x15 = 16 := by rw [e15, hF 1 28 (by omega), h3, up2_s]; omega
      refine ⟨⟨by omega, by omega⟩, ?_⟩
      intro M17 h17
      refine hQ _ ?_ ?_ (Or.inr ⟨by omega, ?_, fun j p q => ?_, fun j p q => ?_⟩)
      · rw [h17, show x15 - 1 = 15 from by omega]
        exact h'
      · rw [h17]
        have f3 : FrJ kHm M M3 := by rw [h3]; exact FrJ.rf.up (Or.inr ⟨rfl, rfl⟩)
        exact (f3.tr (hF.mono (fun _ _ q => Or.inl q))).up (Or.inr ⟨rfl, rfl⟩)
      · rw [h17, up2_s]; omega
      · rw [h17, up2_n (by decide), hs j p (by omega), k15]
        exact h15 _ (by omega) (by omega)
      · rw [h17, up2_n (by decide), hs (532 + j) (by omega) (by omega), k15, show 532 + j + 38 = 38 * M0 1 28 + j from by omega]
        exact hp j p q
    · have q : up2 M3 1 28 15 = up2 M 1 28 15 := by
        rw [h3]
        funext k j
        simp only [up2_a]
        by_cases c1 : k = 1
        · subst c1; by_cases c2 : j = 28 <;> simp [c2]
        · simp [c1]
      rw [q]
      exact hI.up (by omega) (bm_c1_28.mpr ⟨by omega, by omega⟩)
theorem gX12_undo_L26 {Q : Int → Mem → Prop} {b : Int} {M0 : Mem} (hQ : ∀ M' : Mem, IM b M' → FrJ (fun k _ => k = 5) M0 M' → (∀ j, 0 ≤ j → j < 38 → M' 5 j = M0 15 (38 * M0 1 28 + j)) → Q (M0 1 28) M') : ∀ (n : Nat) (v1 : Int) (M : Mem), IM b M → FrJ (fun k _ => k = 5) M0 M → (∀ j, 0 ≤ j → j < v1 → M 5 j = M0 15 (38 * M0 1 28 + j)) → (0 ≤ v1 ∧ v1 ≤ 38) → 38 - v1 < (n : Int) → qX12_undo_L26 Q n v1 M := by
  intro n
  induction n with
  | zero => intro v1 M hI hF hs hv hm; exact absurd hm (by omega)
  | succ n ih =>
    intro v1 M hI hF hs hv hm
    rw [qX12_undo_L26]
    refine ⟨⟨by omega, by omega⟩, ⟨fun c => ?_, fun c => ?_⟩⟩
    · intro x9 e9 _
      rw [e9, hF 1 28 (by omega)]
      exact hQ _ hI hF (fun j p q => hs j p (by omega))
    · intro x10 e10 _
      have b3 : 0 ≤ x10 ∧ x10 ≤ 15 := by rw [e10]; exact bm_c1_28.mp (hI.bx _ _)
      have f3 : x10 = M0 1 28 := by rw [e10]; exact hF 1 28 (by omega)
      refine ⟨by omega, by omega, ?_⟩
      intro x13 e13 _
      refine ⟨by omega, by omega, ?_⟩
      intro M16 h16
      have hn : BN b v1 x13 := by
        have r := bm_c15.mp (hI.bx 15 (38 * x10 + v1))
        rw [← e13, show (38 * x10 + v1) % 38 = v1 from by omega] at r
        exact r
      refine ih _ _ (by rw [h16]; exact hI.up (by omega) ((bm_n (Or.inl rfl)).mpr hn)) (by rw [h16]; exact hF.up rfl) ?_ (by omega) (by omega)
      intro j p q
      rw [h16]
      by_cases cj : j = v1
      · rw [cj, up2_s, e13, f3]
        exact hF 15 _ (by omega)
      · rw [up2_j cj]
        exact hs j p (by omega)
theorem gX12_undo {b : Int} {M : Mem} {Q : Int → Mem → Prop} (hI : IM b M) (hQ : ∀ (z : Int) (M' : Mem), IM b M' → FrJ (fun k j => k = 5 ∨ (k = 1 ∧ (j = 0 ∨ j = 28))) M M' → (M 1 28 = 0 ∧ z = -1 ∧ M' 1 28 = 0 ∧ (∀ j, M' 5 j = M 5 j) ∨ 0 < M 1 28 ∧ z = M 1 28 - 1 ∧ M' 1 28 = M 1 28 - 1 ∧ ∀ j, 0 ≤ j → j < 38 → M' 5 j = M 15 (38 * (M 1 28 - 1) + j)) → Q z M') : qX12_undo M Q := by
  have b28 := bm_c1_28.mp (hI.bx 1 28)
  unfold qX12_undo
  intro M1 h1 x2 e2 _
  have i1 : IM b M1 := by rw [h1]; exact hI.up (by omega) (by simp [BM])
  have f1 : FrJ (fun k j => k = 5 ∨ (k = 1 ∧ (j = 0 ∨ j = 28))) M M1 := by rw [h1]; exact FrJ.rf.up (by omega)
  have g28 : M1 1 28 = M 1 28 := by rw [h1, up2_j (by decide)]
  refine ⟨fun c => ?_, fun c => hQ _ _ i1 f1 (Or.inl ⟨by omega, rfl, by omega, fun j => by rw [h1, up2_n (by decide)]⟩)⟩
  intro x4 e4 _
  refine ⟨⟨by omega, by omega⟩, ?_⟩
  intro M6 h6
  have k28 : M6 1 28 = M 1 28 - 1 := by rw [h6, up2_s]; omega
  have f6 : FrJ (fun k j => k = 5 ∨ (k = 1 ∧ (j = 0 ∨ j = 28))) M M6 := by rw [h6]; exact f1.up (by omega)
  refine ⟨39, gX12_undo_L26 (b := b) (M0 := M6) ?_ _ _ _ (by rw [h6]; exact i1.up (by omega) (bm_c1_28.mpr ⟨by omega, by omega⟩)) FrJ.rf (fun j p q => by omega) (by omega) (by omega)⟩
  intro M' i' hF hs
  refine hQ _ _ i' (f6.tr (hF.mono (fun _ _ q => Or.inl q))) (Or.inr ⟨by omega, k28, by rw [hF 1 28 (by omega)]; exact k28, fun j p q => ?_⟩)
  rw [hs j p q, k28]
  exact f6 15 _ (by omega)
-- the relation of the two histories
def HIS (E MX MM : Mem) : Prop := MX 163 2 = MM 1 28 ∧ ∀ i, 0 ≤ i → i < MM 1 28 → SC E MX (50 + 7 * ((MX 163 1 + i) % 15).toNat) (sg (MM 15) i) ∧ WR E (sg (MM 15) i)
theorem HIS.nil {E MX MM : Mem} (h1 : MX 163 2 = 0) (h2 : MM 1 28 = 0) : HIS E MX MM := ⟨by omega, fun i p q => by omega⟩
theorem HIS.fr {E MX MM MX' MM' : Mem} (h : HIS E MX MM) (hE : EBx E) (hx : ∀ (k : Nat) (j : Int), kHi k j → MX' k j = MX k j) (hm : MM' 1 28 = MM 1 28) (hm2 : ∀ j, 0 ≤ j → j < 38 * MM 1 28 → MM' 15 j = MM 15 j) (hb : 0 ≤ MX 163 1 ∧ MX 163 1 ≤ 14) : HIS E MX' MM' := by
  have e1 : MX' 163 1 = MX 163 1 := hx 163 1 (Or.inr ⟨rfl, Or.inl rfl⟩)
  have e2 : MX' 163 2 = MX 163 2 := hx 163 2 (Or.inr ⟨rfl, Or.inr rfl⟩)
  refine ⟨by rw [e2, hm]; exact h.1, fun i p q => ?_⟩
  rw [hm] at q
  obtain ⟨s, w⟩ := h.2 i p q
  have e : ∀ j, 0 ≤ j → j < 38 → sg (MM' 15) i j = sg (MM 15) i j := fun j p' q' => hm2 _ (by omega) (by omega)
  rw [e1]
  exact ⟨(s.fr (fun t j ht => hx _ j (Or.inl (by omega)))).cg hE e, w.cg hE e⟩
theorem HIS.add {E MX MM MX' MM' : Mem} {k1 : Nat} (h : HIS E MX MM) (hE : EBx E) (hb : 0 ≤ MX 163 1 ∧ MX 163 1 ≤ 14) (hc : CADD MX MX' k1) (hr : RADD MM MM') (hS : SC E MX k1 (MM 5)) (hW : WR E (MM 5)) : HIS E MX' MM' := by
  obtain ⟨h1, h2⟩ := h
  obtain ⟨c1, c2, c3⟩ := hc
  have s0 := c1 E (MM 5) hS
  rcases hr with ⟨r1, r2, r3, r4⟩ | ⟨r1, r2, r3, r4⟩
  · rcases c3 with ⟨d1, d2, d3⟩ | ⟨d1, d2, d3⟩
    · refine ⟨by omega, fun i p q => ?_⟩
      rw [d2]
      by_cases ci : i = MM 1 28
      · rw [h1] at s0
        rw [ci]
        exact ⟨s0.cg hE (fun j p' q' => r4 j p' q'), hW.cg hE (fun j p' q' => r4 j p' q')⟩
      · obtain ⟨s, w⟩ := h2 i p (by omega)
        have e : ∀ j, 0 ≤ j → j < 38 → sg (MM' 15) i j = sg (MM 15) i j := fun j p' q' => r3 _ (by omega) (by omega)
        refine ⟨(s.fr (fun t j ht => ?_)).cg hE e, w.cg hE e⟩
        exact c2 ((MX 163 1 + i) % 15) t j (by omega) (by omega) (by omega) ht
    · omega
  · rcases c3 with ⟨d1, d2, d3⟩ | ⟨d1, d2, d3⟩
    · omega
    · refine ⟨by omega, fun i p q => ?_⟩
      by_cases ci : i = 14
      · have e0 : (MX 163 1 + MX 163 2) % 15 = (MX' 163 1 + i) % 15 := by omega
        rw [e0] at s0
        have e : ∀ j, 0 ≤ j → j < 38 → sg (MM' 15) i j = MM 5 j := by
          intro j p' q'
          show MM' 15 (38 * i + j) = MM 5 j
          rw [show 38 * i + j = 532 + j from by omega]
          exact r4 j p' q'
        exact ⟨s0.cg hE e, hW.cg hE e⟩
      · obtain ⟨s, w⟩ := h2 (i + 1) (by omega) (by omega)
        have e0 : (MX 163 1 + (i + 1)) % 15 = (MX' 163 1 + i) % 15 := by omega
        rw [e0] at s
        have e : ∀ j, 0 ≤ j → j < 38 → sg (MM' 15) i j = sg (MM 15) (i + 1) j := by
          intro j p' q'
          show MM' 15 (38 * i + j) = MM 15 (38 * (i + 1) + j)
          rw [r3 _ (by omega) (by omega), show 38 * i + j + 38 = 38 * (i + 1) + j from by omega]
        refine ⟨(s.fr (fun t j ht => ?_)).cg hE e, w.cg hE e⟩
        exact c2 ((MX' 163 1 + i) % 15) t j (by omega) (by omega) (by omega) ht
-- what is kept
def KEP (E MX MM : Mem) : Prop := ∀ i, 0 ≤ i → i < 3 → (MX 166 i = 0 ↔ MM 29 i = 0) ∧ (MX 166 i ≠ 0 → MM 30 i ≤ MM 1 6 ∧ (MX (29 + 7 * i.toNat) 6 ≤ E 1 4 ∧ MX (29 + 7 * i.toNat) 7 ≤ E 1 5) ∧ (MM 30 i = MM 1 6 → SC E MX (29 + 7 * i.toNat) (sg (MM 31) i) ∧ WR E (sg (MM 31) i)) ∧ (MM 30 i < MM 1 6 → MX (29 + 7 * i.toNat) 6 < E 1 4 ∨ MX (29 + 7 * i.toNat) 7 < E 1 5))
theorem KEP.fr {E MX MM MX' MM' : Mem} (h : KEP E MX MM) (hx : ∀ (k : Nat) (j : Int), (29 ≤ k ∧ k ≤ 49) ∨ k = 166 → MX' k j = MX k j) (hm : ∀ (k : Nat) (j : Int), k = 29 ∨ k = 30 ∨ k = 31 ∨ (k = 1 ∧ j = 6) → MM' k j = MM k j) : KEP E MX' MM' := by
  intro i p q
  obtain ⟨a, b⟩ := h i p q
  rw [hx 166 i (Or.inr rfl), hm 29 i (Or.inl rfl), hm 30 i (by omega), hm 1 6 (by omega), hx (29 + 7 * i.toNat) 6 (by omega), hx (29 + 7 * i.toNat) 7 (by omega), show MM' 31 = MM 31 from funext fun j => hm 31 j (by omega)]
  refine ⟨a, fun u => ?_⟩
  obtain ⟨b1, b2, b3, b4⟩ := b u
  exact ⟨b1, b2, fun v => ⟨(b3 v).1.fr (fun t j ht => hx _ j (by omega)), (b3 v).2⟩, b4⟩
/-- the two states are one -/
def STA (E MX MM : Mem) : Prop := STR E MX ∧ LAW E MX (MX 155 16).toNat ∧ SC E MX 1 (MM 5) ∧ WR E (MM 5) ∧ HIS E MX MM ∧ KEP E MX MM
abbrev stX (k : Nat) (j : Int) : Prop := (1 ≤ k ∧ k ≤ 7) ∨ (29 ≤ k ∧ k ≤ 154) ∨ (k = 155 ∧ j = 16) ∨ k = 158 ∨ k = 159 ∨ k = 163 ∨ k = 166 ∨ (187 ≤ k ∧ k ≤ 189) ∨ (192 ≤ k ∧ k ≤ 194)
abbrev stM (k : Nat) (j : Int) : Prop := cE k j ∨ k = 5 ∨ k = 15 ∨ k = 29 ∨ k = 30 ∨ k = 31 ∨ (k = 1 ∧ (j = 6 ∨ j = 28))
theorem LAW.kx {E MX MX' : Mem} (hI : IX MX) (h : LAW E MX (MX 155 16).toNat) (h16 : MX' 155 16 = MX 155 16) (hx : ∀ (k : Nat) (j : Int), (187 ≤ k ∧ k ≤ 189) ∨ (192 ≤ k ∧ k ≤ 194) → MX' k j = MX k j) : LAW E MX' (MX' 155 16).toNat := by
  rw [h16]
  have hl := hI.l16
  have hl2 : (MX 155 16).toNat = 187 ∨ (MX 155 16).toNat = 192 := hl
  exact h.fr (hx _ _ (by omega)) (hx _ _ (by omega)) (fun j => hx _ j (by omega)) (fun j => hx _ j (by omega))
theorem STA.fr {E MX MM MX' MM' : Mem} (h : STA E MX MM) (hE : EBx E) (hI : IX MX) (hx : ∀ (k : Nat) (j : Int), stX k j → MX' k j = MX k j) (hm : ∀ (k : Nat) (j : Int), stM k j → MM' k j = MM k j) : STA E MX' MM' := by
  obtain ⟨a, b, c, d, e, f⟩ := h
  have k5 : MM' 5 = MM 5 := funext fun j => hm 5 j (Or.inr (Or.inl rfl))
  refine ⟨a.fr (hx _ _ (by omega)) (hx _ _ (by omega)) (hx _ _ (by omega)) (fun j => hx _ j (by omega)), b.kx hI (hx _ _ (by omega)) (fun k j q => hx k j (by omega)), ?_, by rw [k5]; exact d, ?_, ?_⟩
  · rw [k5]
    exact c.fr (fun t j ht => hx _ j (by omega))
  · exact e.fr hE (fun k j q => hx k j (by omega)) (hm 1 28 (by omega)) (fun j _ _ => hm 15 j (by omega)) (bx_c163_1.mp (hI.bx 163 1))
  · exact f.fr (fun k j q => hx k j (by omega)) (fun k j q => hm k j (by omega))
