/-! SPECS of what the simple calls answer, and what they leave of the text's length and of what was heard -/
theorem sX11_hearse {p1 p2 : Int} {M : Mem} {Q : Int → Mem → Prop} {E : Mem → Prop} (hI : IX M) (hQ : ∀ (z : Int) (M' : Mem), IX M' → Q z M') (hE : ∀ M' : Mem, IX M' → E M') : qX11_hearse p1 p2 M Q E := by
  unfold qX11_hearse
  refine sX6_isHearse (k0 := 1) (p1 := p1) hI (by decide) ?_
  intro x1 p _ _
  refine ⟨fun c => ?_, fun c => hE _ hI⟩
  have hb := p c
  refine ⟨fun _ => ⟨by omega, by omega, fun x _ _ => hQ _ _ hI⟩, fun _ => ⟨by omega, by omega, fun x _ _ => hQ _ _ hI⟩, fun _ => ?_, fun _ => ?_, fun _ => ?_, fun _ => ?_, fun _ => hE _ hI⟩
  · exact sX11_paceNow (p1 := p1) hI (by omega) (fun z M' h _ => hQ _ _ h)
  · exact sX6_bitsOf (k0 := 1) (k1 := 6) (p2 := p1) hI (by decide) (fun z _ => hQ _ _ hI)
  · exact sX6_bitsOf (k0 := 1) (k1 := 7) (p2 := p1) hI (by decide) (fun z _ => hQ _ _ hI)
  · exact sX6_bitsOf (k0 := 1) (k1 := 5) (p2 := p1) hI (by decide) (fun z _ => hQ _ _ hI)
theorem sX11_mourner {p1 p2 : Int} {M : Mem} {Q : Int → Mem → Prop} {E : Mem → Prop} (hI : IX M) (hQ : ∀ (z : Int) (M' : Mem), IX M' → Q z M') (hE : ∀ M' : Mem, IX M' → E M') : qX11_mourner p1 p2 M Q E := by
  unfold qX11_mourner
  refine sX6_isMourner (k0 := 1) (p1 := p1) hI (by decide) ?_
  intro x1 p _ _
  refine ⟨fun c => ?_, fun c => hE _ hI⟩
  have hb := p c
  refine ⟨fun _ => ⟨by omega, by omega, fun x _ _ => hQ _ _ hI⟩, fun _ => ⟨by omega, by omega, fun x _ _ => hQ _ _ hI⟩, fun _ => ⟨by omega, by omega, fun x _ _ => hQ _ _ hI⟩, fun _ => ⟨by omega, by omega, fun x _ _ => hQ _ _ hI⟩, fun _ => ⟨by omega, by omega, ?_⟩, fun _ => hE _ hI⟩
  intro x18 e18 _
  have b18 : -1 ≤ x18 ∧ x18 ≤ 29 := by rw [e18]; exact (bx_s3 (k := 1) (by decide)).mp (hI.bx _ _)
  exact sX6_nearestTo (k0 := 1) (p1 := x18) hI (by decide) b18 (fun z _ _ => hQ _ _ hI)
theorem sX11_row {p1 : Int} {M : Mem} {Q : Int → Mem → Prop} {E : Mem → Prop} (hI : IX M) (hQ : ∀ (z : Int) (M' : Mem), IX M' → Q z M') (hE : ∀ M' : Mem, IX M' → E M') : qX11_row p1 M Q E := by
  unfold qX11_row
  refine ⟨fun _ => hE _ hI, fun c => ?_⟩
  intro x2 e2 _
  have b2 : 0 ≤ x2 ∧ x2 ≤ 8 := by rw [e2]; exact bx_c167_1.mp (hI.bx _ _)
  exact ⟨fun c2 => ⟨by omega, by omega, fun x _ _ => hQ _ _ hI⟩, fun _ => hE _ hI⟩
-- sign, end
theorem gX9_addFour_L16 {p1 : Int} {Q : Int → Mem → Prop} {L : Int} (hQ : ∀ M' : Mem, IX M' → M' 156 1 = L + 4 → Q 1 M') : ∀ (n : Nat) (v2 : Int) (M : Mem), IX M → (8 * M 156 1 + v2 = 8 * L + 24 ∧ -8 ≤ v2 ∧ v2 ≤ 24 ∧ 0 ≤ L ∧ L ≤ 76) → v2 + 8 < (n : Int) → qX9_addFour_L16 p1 Q n v2 M := by
  intro n
  induction n with
  | zero => intro v2 M hI hv hm; exact absurd hm (by omega)
  | succ n ih =>
    intro v2 M hI hv hm
    rw [qX9_addFour_L16]
    refine ⟨⟨by omega, by omega⟩, ⟨fun c => hQ _ hI (by omega), fun c => ?_⟩⟩
    intro x6 e6 _ x7 _ _ x8 e8 _
    have b6 : 0 ≤ x6 ∧ x6 ≤ 80 := by rw [e6]; exact bx_c156_1.mp (hI.bx _ _)
    have f8 := aI_255 x7
    rw [← e8] at f8
    refine ⟨by omega, by omega, ?_⟩
    intro M11 h11 x12 e12 _
    have i11 : IX M11 := by rw [h11]; exact hI.up (by decide) (bx_c157.mpr ⟨by omega, by omega⟩)
    have f12 : x12 = x6 := by rw [e12, h11, up2_n (by decide), e6]
    refine ⟨⟨by omega, by omega⟩, ?_⟩
    intro M14 h14
    have i14 : IX M14 := by rw [h14]; exact i11.up (by decide) (bx_c156_1.mpr ⟨by omega, by omega⟩)
    have k14 : M14 156 1 = x6 + 1 := by rw [h14, up2_s, f12]
    exact ih _ _ i14 ⟨by omega, by omega, by omega, by omega, by omega⟩ (by omega)
theorem gX11_sign {p1 : Int} {M : Mem} {Q : Int → Mem → Prop} (hI : IX M) (hQ : ∀ (z : Int) (M' : Mem), IX M' → (77 ≤ M 156 1 ∧ z = -1 ∧ M' 156 1 = M 156 1 ∨ M 156 1 ≤ 76 ∧ z = M 156 1 + 4 ∧ M' 156 1 = M 156 1 + 4) → Q z M') : qX11_sign p1 M Q := by
  unfold qX11_sign qX9_addFour
  intro x1 e1 _
  have b1 : 0 ≤ x1 ∧ x1 ≤ 80 := by rw [e1]; exact bx_c156_1.mp (hI.bx _ _)
  refine ⟨⟨by omega, by omega⟩, ⟨fun c => ⟨40, ?_⟩, fun c => ?_⟩⟩
  · refine gX9_addFour_L16 (L := x1) ?_ _ _ _ hI (by omega) (by omega)
    intro M' i' h' _ _
    refine ⟨fun q => absurd q (by decide), fun _ => ?_⟩
    intro x3 e3 _
    exact hQ _ _ i' (Or.inr ⟨by omega, by rw [e3, h', e1], by rw [h', e1]⟩)
  · intro _ _
    exact ⟨fun _ => hQ _ _ hI (Or.inl ⟨by omega, rfl, rfl⟩), fun q => absurd rfl q⟩
theorem gX11_end {p1 : Int} {M : Mem} {Q : Int → Mem → Prop} (hI : IX M) (hQ : ∀ (z : Int) (M' : Mem), IX M' → ((0 ≤ p1 ∧ p1 ≤ M 156 1) ∧ z = 1 ∧ M' 156 1 = p1 ∨ (p1 < 0 ∨ M 156 1 < p1) ∧ z = 0 ∧ M' 156 1 = M 156 1) → Q z M') : qX11_end p1 M Q := by
  unfold qX11_end qX9_cutTo
  refine ⟨fun c => ?_, fun c => ?_⟩
  · intro _ _
    exact ⟨Or.inl rfl, hQ _ _ hI (Or.inr ⟨Or.inl c, rfl, rfl⟩)⟩
  · intro x2 e2 _
    have b2 : 0 ≤ x2 ∧ x2 ≤ 80 := by rw [e2]; exact bx_c156_1.mp (hI.bx _ _)
    refine ⟨fun c2 => ?_, fun c2 => ?_⟩
    · intro M4 h4 _ _
      exact ⟨Or.inr rfl, hQ _ _ (by rw [h4]; exact hI.up (by decide) (bx_c156_1.mpr ⟨by omega, by omega⟩)) (Or.inl ⟨by omega, rfl, by rw [h4, up2_s]⟩)⟩
    · intro _ _
      exact ⟨Or.inl rfl, hQ _ _ hI (Or.inr ⟨Or.inr (by omega), rfl, rfl⟩)⟩
theorem gX12_sign_L18 {p1 b L : Int} {X53 : Mem → Prop} {Q : Int → Mem → Prop} (hX : ∀ M' : Mem, IM b M' → M' 1 14 = L → X53 M') : ∀ (n : Nat) (v2 : Int) (M : Mem), IM b M → M 1 14 = L → (0 ≤ v2 ∧ v2 ≤ 4 ∧ L ≤ 76) → 4 - v2 < (n : Int) → qX12_sign_L18 p1 X53 Q n v2 M := by
  intro n
  induction n with
  | zero => intro v2 M hI hL hv hm; exact absurd hm (by omega)
  | succ n ih =>
    intro v2 M hI hL hv hm
    rw [qX12_sign_L18]
    refine ⟨⟨by omega, by omega⟩, ⟨fun c => hX _ hI hL, fun c => ?_⟩⟩
    intro x6 e6 _ x7 _ _ x8 e8 _
    have b6 : 0 ≤ x6 ∧ x6 ≤ 80 := by rw [e6]; exact bm_c1_14.mp (hI.bx _ _)
    have f8 := aI_255 x7
    rw [← e8] at f8
    refine ⟨by omega, by omega, ?_⟩
    intro M11 h11
    exact ih _ _ (by rw [h11]; exact hI.up (by omega) (bm_c7.mpr ⟨by omega, by omega⟩)) (by rw [h11, up2_n (by decide)]; exact hL) (by omega) (by omega)
theorem gX12_sign {p1 b : Int} {M : Mem} {Q : Int → Mem → Prop} (hI : IM b M) (hQ : ∀ (z : Int) (M' : Mem), IM b M' → (77 ≤ M 1 14 ∧ z = -1 ∧ M' 1 14 = M 1 14 ∨ M 1 14 ≤ 76 ∧ z = M 1 14 + 4 ∧ M' 1 14 = M 1 14 + 4) → Q z M') : qX12_sign p1 M Q := by
  unfold qX12_sign
  intro M1 h1 x2 e2 _
  have i1 : IM b M1 := by rw [h1]; exact hI.up (by omega) (by simp [BM])
  have f2 : x2 = M 1 14 := by rw [e2, h1, up2_j (by decide)]
  have b2 : 0 ≤ x2 ∧ x2 ≤ 80 := by rw [e2]; exact bm_c1_14.mp (i1.bx _ _)
  have g1 : M1 1 14 = M 1 14 := by rw [h1, up2_j (by decide)]
  refine ⟨fun c => ⟨5, ?_⟩, fun c => hQ _ _ i1 (Or.inl ⟨by omega, rfl, g1⟩)⟩
  refine gX12_sign_L18 (b := b) (L := M 1 14) ?_ _ _ _ i1 g1 (by omega) (by omega)
  intro M' i' h' x13 e13 _
  refine ⟨⟨by omega, by omega⟩, ?_⟩
  intro M15 h15 x16 e16 _
  have k15 : M15 1 14 = M 1 14 + 4 := by rw [h15, up2_s]; omega
  exact hQ _ _ (by rw [h15]; exact i'.up (by omega) (bm_c1_14.mpr ⟨by omega, by omega⟩)) (Or.inr ⟨by omega, by rw [e16, k15], k15⟩)
theorem gX12_end {p1 b : Int} {M : Mem} {Q : Int → Mem → Prop} (hI : IM b M) (hQ : ∀ (z : Int) (M' : Mem), IM b M' → ((0 ≤ p1 ∧ p1 ≤ M 1 14) ∧ z = 1 ∧ M' 1 14 = p1 ∨ (p1 < 0 ∨ M 1 14 < p1) ∧ z = 0 ∧ M' 1 14 = M 1 14) → Q z M') : qX12_end p1 M Q := by
  unfold qX12_end
  intro M1 h1 x2 e2 _
  have i1 : IM b M1 := by rw [h1]; exact hI.up (by omega) (by simp [BM])
  have f2 : x2 = M 1 14 := by rw [e2, h1, up2_j (by decide)]
  have b2 : 0 ≤ x2 ∧ x2 ≤ 80 := by rw [e2]; exact bm_c1_14.mp (i1.bx _ _)
  have g1 : M1 1 14 = M 1 14 := by rw [h1, up2_j (by decide)]
  refine sX12_in (p0 := p1) (p2 := 0) (p4 := x2) i1 ?_
  intro x3 p3 _ _
  refine ⟨fun c => ?_, fun c => hQ _ _ i1 (Or.inr ⟨by omega, rfl, g1⟩)⟩
  intro M5 h5
  exact hQ _ _ (by rw [h5]; exact i1.up (by omega) (bm_c1_14.mpr ⟨by omega, by omega⟩)) (Or.inl ⟨by omega, rfl, by rw [h5, up2_s]⟩)
-- heard, forget
theorem gX0_canBe {p0 p1 : Int} {M : Mem} {Q : Int → Mem → Prop} (hQ : ∀ z : Int, (z = 1 ∧ ((p0 = 0 ∨ p0 = 2) ∧ 0 ≤ p1 ∧ p1 ≤ 8 ∨ p0 = 1 ∧ 1 ≤ p1 ∧ p1 ≤ 6 ∨ p0 = 3 ∧ (p1 = 0 ∨ p1 = 1)) ∨ z = 0 ∧ ¬ ((p0 = 0 ∨ p0 = 2) ∧ 0 ≤ p1 ∧ p1 ≤ 8 ∨ p0 = 1 ∧ 1 ≤ p1 ∧ p1 ≤ 6 ∨ p0 = 3 ∧ (p1 = 0 ∨ p1 = 1))) → Q z M) : qX0_canBe p0 p1 M Q := by
  unfold qX0_canBe
  refine ⟨fun c => ⟨fun c2 => hQ _ (by omega), fun c2 => ⟨fun c3 => hQ _ (by omega), fun c3 => hQ _ (by omega)⟩⟩, fun c => ⟨fun c2 => hQ _ (by omega), fun c2 => ⟨fun c3 => hQ _ (by omega), fun c3 => hQ _ (by omega)⟩⟩, fun c => ⟨fun c2 => hQ _ (by omega), fun c2 => ⟨fun c3 => hQ _ (by omega), fun c3 => hQ _ (by omega)⟩⟩, fun c => ⟨fun c2 => hQ _ (by omega), fun c2 => ⟨fun c3 => hQ _ (by omega), fun c3 => hQ _ (by omega)⟩⟩, fun c => hQ _ (by omega)⟩
theorem gX11_heard {p0 p1 : Int} {M : Mem} {Q : Int → Mem → Prop} (hI : IX M) (hQ : ∀ (z : Int) (M' : Mem), IX M' → ((M 182 2 ≤ 7 ∧ ((p0 = 0 ∨ p0 = 2) ∧ 0 ≤ p1 ∧ p1 ≤ 8 ∨ p0 = 1 ∧ 1 ≤ p1 ∧ p1 ≤ 6 ∨ p0 = 3 ∧ (p1 = 0 ∨ p1 = 1))) ∧ z = M 182 2 + 1 ∧ M' 182 2 = M 182 2 + 1 ∨ ¬ (M 182 2 ≤ 7 ∧ ((p0 = 0 ∨ p0 = 2) ∧ 0 ≤ p1 ∧ p1 ≤ 8 ∨ p0 = 1 ∧ 1 ≤ p1 ∧ p1 ≤ 6 ∨ p0 = 3 ∧ (p1 = 0 ∨ p1 = 1))) ∧ z = -1 ∧ M' 182 2 = M 182 2) → Q z M') : qX11_heard p0 p1 M Q := by
  unfold qX11_heard qX0_add
  intro x1 e1 _
  have b1 : 0 ≤ x1 ∧ x1 ≤ 8 := by rw [e1]; exact bx_c182_2.mp (hI.bx _ _)
  refine ⟨fun c => ?_, fun c => ?_⟩
  · intro _ _
    exact ⟨fun _ => hQ _ _ hI (Or.inr ⟨by omega, rfl, rfl⟩), fun q => absurd rfl q⟩
  · refine gX0_canBe ?_
    intro x3 p3 _ _
    refine ⟨fun c2 => ?_, fun c2 => ?_⟩
    · intro x5 e5 _
      refine ⟨by omega, by omega, ?_⟩
      intro M8 h8 x9 e9 _
      have i8 : IX M8 := by rw [h8]; exact hI.up (by decide) (by simp [BX])
      have f9 : x9 = x1 := by rw [e9, h8, up2_n (by decide), e1]
      refine ⟨by omega, by omega, ?_⟩
      intro M12 h12 x13 e13 _
      have i12 : IX M12 := by rw [h12]; exact i8.up (by decide) (by simp [BX])
      have f13 : x13 = x1 := by rw [e13, h12, up2_n (by decide), ← e9, f9]
      refine ⟨⟨by omega, by omega⟩, ?_⟩
      intro M15 h15 _ _
      refine ⟨fun q => absurd q (by decide), fun _ => ?_⟩
      intro x16 e16 _
      have k15 : M15 182 2 = M 182 2 + 1 := by rw [h15, up2_s]; omega
      exact hQ _ _ (by rw [h15]; exact i12.up (by decide) (bx_c182_2.mpr ⟨by omega, by omega⟩)) (Or.inl ⟨by omega, by rw [e16, k15], k15⟩)
    · intro _ _
      exact ⟨fun _ => hQ _ _ hI (Or.inr ⟨by omega, rfl, rfl⟩), fun q => absurd rfl q⟩
theorem gX11_forget {M : Mem} {Q : Int → Mem → Prop} (hI : IX M) (hQ : ∀ (z : Int) (M' : Mem), IX M' → z = M 182 2 → M' 182 2 = 0 → Q z M') : qX11_forget M Q := by
  unfold qX11_forget
  intro x1 e1 _ M2 h2
  exact hQ _ _ (by rw [h2]; exact hI.up (by decide) (bx_c182_2.mpr (by decide))) e1 (by rw [h2, up2_s])
theorem gX12_heard {p0 p1 b : Int} {M : Mem} {Q : Int → Mem → Prop} (hI : IM b M) (hp : iR p1) (hQ : ∀ (z : Int) (M' : Mem), IM b M' → ((M 1 45 ≤ 7 ∧ ((p0 = 0 ∨ p0 = 2) ∧ 0 ≤ p1 ∧ p1 ≤ 8 ∨ p0 = 1 ∧ 1 ≤ p1 ∧ p1 ≤ 6 ∨ p0 = 3 ∧ (p1 = 0 ∨ p1 = 1))) ∧ z = M 1 45 + 1 ∧ M' 1 45 = M 1 45 + 1 ∨ ¬ (M 1 45 ≤ 7 ∧ ((p0 = 0 ∨ p0 = 2) ∧ 0 ≤ p1 ∧ p1 ≤ 8 ∨ p0 = 1 ∧ 1 ≤ p1 ∧ p1 ≤ 6 ∨ p0 = 3 ∧ (p1 = 0 ∨ p1 = 1))) ∧ z = -1 ∧ M' 1 45 = M 1 45) → Q z M') : qX12_heard p0 p1 M Q := by
  have b45 := bm_c1_45.mp (hI.bx 1 45)
  have hp2 : -2147483648 ≤ p1 ∧ p1 ≤ 2147483647 := hp
  unfold qX12_heard
  intro M1 h1
  have i1 : IM b M1 := by rw [h1]; exact hI.up (by omega) (by simp [BM])
  have g1 : M1 1 45 = M 1 45 := by rw [h1, up2_j (by decide)]
  have J51 : ∀ (hi lo : Int), (hi = 8 ∨ hi = 1 ∨ hi = 6) → (lo = 0 ∨ lo = 1) → ((lo ≤ p1 ∧ p1 ≤ hi) ∧ ((p0 = 0 ∨ p0 = 2) ∧ 0 ≤ p1 ∧ p1 ≤ 8 ∨ p0 = 1 ∧ 1 ≤ p1 ∧ p1 ≤ 6 ∨ p0 = 3 ∧ (p1 = 0 ∨ p1 = 1)) ∨ ¬ (lo ≤ p1 ∧ p1 ≤ hi) ∧ ¬ ((p0 = 0 ∨ p0 = 2) ∧ 0 ≤ p1 ∧ p1 ≤ 8 ∨ p0 = 1 ∧ 1 ≤ p1 ∧ p1 ≤ 6 ∨ p0 = 3 ∧ (p1 = 0 ∨ p1 = 1))) → qX12_heard_J51 p0 p1 Q hi lo p1 M1 := by
    intro hi lo h8 h0 hc
    unfold qX12_heard_J51
    refine ⟨⟨by omega, by omega⟩, ?_⟩
    refine sX12_flag (p0 := lo) i1 ?_
    intro x8 p8 _
    refine ⟨⟨by omega, by omega⟩, iR_lR hp, ?_⟩
    refine sX12_in (p0 := p1) (p2 := x8) (p4 := hi) i1 ?_
    intro x11 p11 _ _
    refine ⟨fun c => hQ _ _ i1 (Or.inr ⟨by omega, rfl, g1⟩), fun c => ?_⟩
    intro x13 e13 _
    refine ⟨fun c2 => ?_, fun c2 => hQ _ _ i1 (Or.inr ⟨by omega, rfl, g1⟩)⟩
    intro x15 e15 _
    refine ⟨by omega, by omega, ?_⟩
    intro M18 h18 x19 e19 _
    have i18 : IM b M18 := by rw [h18]; exact i1.up (by omega) (by simp [BM])
    have f19 : x19 = M 1 45 := by rw [e19, h18, up2_n (by decide), g1]
    refine ⟨by omega, by omega, ?_⟩
    intro M22 h22 x23 e23 _
    have i22 : IM b M22 := by rw [h22]; exact i18.up (by omega) (by simp [BM])
    have f23 : x23 = M 1 45 := by rw [e23, h22, up2_n (by decide), ← e19, f19]
    refine ⟨⟨by omega, by omega⟩, ?_⟩
    intro M25 h25 x26 e26 _
    have k25 : M25 1 45 = M 1 45 + 1 := by rw [h25, up2_s]; omega
    exact hQ _ _ (by rw [h25]; exact i22.up (by omega) (bm_c1_45.mpr ⟨by omega, by omega⟩)) (Or.inl ⟨by omega, by rw [e26, k25], k25⟩)
  have J26 : ∀ hi : Int, (p0 = 1 ∧ hi = 6 ∨ p0 = 3 ∧ hi = 1 ∨ p0 ≠ 1 ∧ p0 ≠ 3 ∧ hi = 8) → qX12_heard_J26 p0 p1 Q hi M1 := by
    intro hi hh
    unfold qX12_heard_J26
    refine sX12_in (p0 := p0) (p2 := 0) (p4 := 3) i1 ?_
    intro x4 p4 _ _
    refine ⟨fun c => hQ _ _ i1 (Or.inr ⟨by omega, rfl, g1⟩), fun c => ⟨fun c2 => J51 _ _ (by omega) (Or.inl rfl) (by omega), fun c2 => J51 _ _ (by omega) (Or.inr rfl) (by omega)⟩⟩
  exact ⟨fun c => ⟨fun c2 => J26 _ (by omega), fun c2 => J26 _ (by omega)⟩, fun c => J26 _ (by omega)⟩
theorem gX12_forget {b : Int} {M : Mem} {Q : Int → Mem → Prop} (hI : IM b M) (hQ : ∀ (z : Int) (M' : Mem), IM b M' → z = M 1 45 → M' 1 45 = 0 → Q z M') : qX12_forget M Q := by
  unfold qX12_forget
  intro M1 h1 x2 e2 _ M3 h3
  have i1 : IM b M1 := by rw [h1]; exact hI.up (by omega) (by simp [BM])
  exact hQ _ _ (by rw [h3]; exact i1.up (by omega) (bm_c1_45.mpr (by decide))) (by rw [e2, h1, up2_j (by decide)]) (by rw [h3, up2_s])
-- keep
theorem gX11_keep {p1 : Int} {M : Mem} {Q : Int → Mem → Prop} (hI : IX M) (hQ : ∀ (z : Int) (M' : Mem), IX M' → (z = 1 ∧ 0 ≤ p1 ∧ p1 ≤ 2 ∨ z = 0 ∧ (p1 < 0 ∨ 2 < p1)) → Q z M') : qX11_keep p1 M Q := by
  unfold qX11_keep
  refine ⟨fun c => hQ _ _ hI (by omega), fun c => ⟨fun c2 => ⟨by omega, by omega, ?_⟩, fun c2 => hQ _ _ hI (by omega)⟩⟩
  refine sX6_copyFrom hI (isS_kept (e := p1) (by omega) (by omega)) (show isS 1 by decide) ?_
  intro M5 h5 _ M6 h6
  exact hQ _ _ (by rw [h6]; exact h5.up (by decide) (by simp [BX])) (by omega)
