/-! SPECS of what the simple calls answer, and what they leave of the text's length and of what was heard -/
theorem sX11_hearse {p1 p2 : Int} {M : Mem} {Q : Int → Mem → Prop} {E : Mem → Prop} (hI : IX M) (hQ : ∀ (z : Int) (M' : Mem), IX M' → Q z M') (hE : ∀ M' : Mem, IX M' → E M') : qX11_hearse p1 p2 M Q E := by
  unfold qX11_hearse
  refine sX6_isHearse (k0 := 1) (p1 := p1) hI (by decide) ?_
  intro x1 p _ _
  refine ⟨fun c => ?_, fun c => hE _ hI⟩
  have hb := p c
  refine ⟨fun _ => ⟨by omega, by omega, fun x _ _ => hQ _ _ hI⟩, fun _ => ⟨by omega, by omega, fun x _ _ => hQ _ _ hI⟩, fun _ => ?_, fun _ => ?_, fun _ => ?_, fun _ => ?_, fun _ => hE _ hI⟩
  · exact sX11_paceNow (p1 := p1) hI (by omega) (fun z M' h _ => hQ _ _ h)
  · exact sX6_bitsOf (k0 := 1) (k1 := 6) (p2 := p1) hI (by decide) (fun z _ => hQ _ _ hI)
  · exact sX6_bitsOf (k0 := 1) (k1 := 7) (p2 := p1) hI (by decide) (fun z _ => hQ _ _ hI)
  · exact sX6_bitsOf (k0 := 1) (k1 := 5) (p2 := p1) hI (by decide) (fun z _ => hQ _ _ hI)
theorem sX11_mourner {p1 p2 : Int} {M : Mem} {Q : Int → Mem → Prop} {E : Mem → Prop} (hI : IX M) (hQ : ∀ (z : Int) (M' : Mem), IX M' → Q z M') (hE : ∀ M' : Mem, IX M' → E M') : qX11_mourner p1 p2 M Q E := by
  unfold qX11_mourner
  refine sX6_isMourner (k0 := 1) (p1 := p1) hI (by decide) ?_
  intro x1 p _ _
  refine ⟨fun c => ?_, fun c => hE _ hI⟩
  have hb := p c
  refine ⟨fun _ => ⟨by omega, by omega, fun x _ _ => hQ _ _ hI⟩, fun _ => ⟨by omega, by omega, fun x _ _ => hQ _ _ hI⟩, fun _ => ⟨by omega, by omega, fun x _ _ => hQ _ _ hI⟩, fun _ => ⟨by omega, by omega, fun x _ _ => hQ _ _ hI⟩, fun _ => ⟨by omega, by omega, ?_⟩, fun _ => hE _ hI⟩
  intro x18 e18 _
  have b18 : -1 ≤ x18 ∧ x18 ≤ 29 := by rw [e18]; exact (bx_s3 (k := 1) (by decide)).mp (hI.bx _ _)
  exact sX6_nearestTo (k0 := 1) (p1 := x18) hI (by decide) b18 (fun z _ _ => hQ _ _ hI)
theorem sX11_row {p1 : Int} {M : Mem} {Q : Int → Mem → Prop} {E : Mem → Prop} (hI : IX M) (hQ : ∀ (z : Int) (M' : Mem), IX M' → Q z M') (hE : ∀ M' : Mem, IX M' → E M') : qX11_row p1 M Q E := by
  unfold qX11_row
  refine ⟨fun _ => hE _ hI, fun c => ?_⟩
  intro x2 e2 _
  have b2 : 0 ≤ x2 ∧ x2 ≤ 8 := by rw [e2]; exact bx_c167_1.mp (hI.bx _ _)
  exact ⟨fun c2 => ⟨by omega, by omega, fun x _ _ => hQ _ _ hI⟩, fun _ => hE _ hI⟩
-- sign, end
theorem gX11_end {p1 : Int} {M : Mem} {Q : Int → Mem → Prop} (hI : IX M) (hQ : ∀ (z : Int) (M' : Mem), IX M' → ((0 ≤ p1 ∧ p1 ≤ M 156 1) ∧ z = 1 ∧ M' 156 1 = p1 ∨ (p1 < 0 ∨ M 156 1 < p1) ∧ z = 0 ∧ M' 156 1 = M 156 1) → Q z M') : qX11_end p1 M Q := by
  unfold qX11_end qX9_cutTo
  refine ⟨fun c => ?_, fun c => ?_⟩
  · intro _ _
    exact ⟨Or.inl rfl, hQ _ _ hI (Or.inr ⟨Or.inl c, rfl, rfl⟩)⟩
  · intro x2 e2 _
    have b2 : 0 ≤ x2 ∧ x2 ≤ 80 := by rw [e2]; exact bx_c156_1.mp (hI.bx _ _)
    refine ⟨fun c2 => ?_, fun c2 => ?_⟩
    · intro M4 h4 _ _
      exact ⟨Or.inr rfl, hQ _ _ (by rw [h4]; exact hI.up (by decide) (bx_c156_1.mpr ⟨by omega, by omega⟩)) (Or.inl ⟨by omega, rfl, by rw [h4, up2_s]⟩)⟩
    · intro _ _
      exact ⟨Or.inl rfl, hQ _ _ hI (Or.inr ⟨Or.inr (by omega), rfl, rfl⟩)⟩
theorem gX12_end {p1 b : Int} {M : Mem} {Q : Int → Mem → Prop} (hI : IM b M) (hQ : ∀ (z : Int) (M' : Mem), IM b M' → ((0 ≤ p1 ∧ p1 ≤ M 1 14) ∧ z = 1 ∧ M' 1 14 = p1 ∨ (p1 < 0 ∨ M 1 14 < p1) ∧ z = 0 ∧ M' 1 14 = M 1 14) → Q z M') : qX12_end p1 M Q := by
  unfold qX12_end
  intro M1 h1 x2 e2 _
  have i1 : IM b M1 := by rw [h1]; exact hI.up (by omega) (by simp [BM])
  have f2 : x2 = M 1 14 := by rw [e2, h1, up2_j (by decide)]
  have b2 : 0 ≤ x2 ∧ x2 ≤ 80 := by rw [e2]; exact bm_c1_14.mp (i1.bx _ _)
  have g1 : M1 1 14 = M 1 14 := by rw [h1, up2_j (by decide)]
  refine sX12_in (p0 := p1) (p2 := 0) (p4 := x2) i1 ?_
  intro x3 p3 _ _
  refine ⟨fun c => ?_, fun c => hQ _ _ i1 (Or.inr ⟨by omega, rfl, g1⟩)⟩
  intro M5 h5
  exact hQ _ _ (by rw [h5]; exact i1.up (by omega) (bm_c1_14.mpr ⟨by omega, by omega⟩)) (Or.inl ⟨by omega, rfl, by rw [h5, up2_s]⟩)
-- heard, forget
theorem gX0_canBe {p0 p1 : Int} {M : Mem} {Q : Int → Mem → Prop} (hQ : ∀ z : Int, (z = 1 ∧ ((p0 = 0 ∨ p0 = 2) ∧ 0 ≤ p1 ∧ p1 ≤ 8 ∨ p0 = 1 ∧ 1 ≤ p1 ∧ p1 ≤ 6 ∨ p0 = 3 ∧ (p1 = 0 ∨ p1 = 1)) ∨ z = 0 ∧ ¬ ((p0 = 0 ∨ p0 = 2) ∧ 0 ≤ p1 ∧ p1 ≤ 8 ∨ p0 = 1 ∧ 1 ≤ p1 ∧ p1 ≤ 6 ∨ p0 = 3 ∧ (p1 = 0 ∨ p1 = 1))) → Q z M) : qX0_canBe p0 p1 M Q := by
  unfold qX0_canBe
  refine ⟨fun c => ⟨fun c2 => hQ _ (by omega), fun c2 => ⟨fun c3 => hQ _ (by omega), fun c3 => hQ _ (by omega)⟩⟩, fun c => ⟨fun c2 => hQ _ (by omega), fun c2 => ⟨fun c3 => hQ _ (by omega), fun c3 => hQ _ (by omega)⟩⟩, fun c => ⟨fun c2 => hQ _ (by omega), fun c2 => ⟨fun c3 => hQ _ (by omega), fun c3 => hQ _ (by omega)⟩⟩, fun c => ⟨fun c2 => hQ _ (by omega), fun c2 => ⟨fun c3 => hQ _ (by omega), fun c3 => hQ _ (by omega)⟩⟩, fun c => hQ _ (by omega)⟩
theorem gX11_forget {M : Mem} {Q : Int → Mem → Prop} (hI : IX M) (hQ : ∀ (z : Int) (M' : Mem), IX M' → z = M 182 2 → M' 182 2 = 0 → Q z M') : qX11_forget M Q := by
  unfold qX11_forget
  intro x1 e1 _ M2 h2
  exact hQ _ _ (by rw [h2]; exact hI.up (by decide) (bx_c182_2.mpr (by decide))) e1 (by rw [h2, up2_s])
theorem gX12_forget {b : Int} {M : Mem} {Q : Int → Mem → Prop} (hI : IM b M) (hQ : ∀ (z : Int) (M' : Mem), IM b M' → z = M 1 45 → M' 1 45 = 0 → Q z M') : qX12_forget M Q := by
  unfold qX12_forget
  intro M1 h1 x2 e2 _ M3 h3
  have i1 : IM b M1 := by rw [h1]; exact hI.up (by omega) (by simp [BM])
  exact hQ _ _ (by rw [h3]; exact i1.up (by omega) (bm_c1_45.mpr (by decide))) (by rw [e2, h1, up2_j (by decide)]) (by rw [h3, up2_s])
-- keep
