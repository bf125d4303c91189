/-! WHAT WAS HEARD, alike on both sides -/
def CBv (k v : Int) : Prop := (k = 0 ∨ k = 2) ∧ 0 ≤ v ∧ v ≤ 8 ∨ k = 1 ∧ 1 ≤ v ∧ v ≤ 6 ∨ k = 3 ∧ (v = 0 ∨ v = 1)
theorem gX11_heardC {p0 p1 : Int} {M : Mem} {Q : Int → Mem → Prop} (hI : IX M) (hQ : ∀ (z : Int) (M' : Mem), IX M' → ((M 182 2 ≤ 7 ∧ ((p0 = 0 ∨ p0 = 2) ∧ 0 ≤ p1 ∧ p1 ≤ 8 ∨ p0 = 1 ∧ 1 ≤ p1 ∧ p1 ≤ 6 ∨ p0 = 3 ∧ (p1 = 0 ∨ p1 = 1))) ∧ z = M 182 2 + 1 ∧ M' 182 2 = M 182 2 + 1 ∧ M' 183 = up (M 183) (M 182 2) p0 ∧ M' 184 = up (M 184) (M 182 2) p1 ∨ ¬ (M 182 2 ≤ 7 ∧ ((p0 = 0 ∨ p0 = 2) ∧ 0 ≤ p1 ∧ p1 ≤ 8 ∨ p0 = 1 ∧ 1 ≤ p1 ∧ p1 ≤ 6 ∨ p0 = 3 ∧ (p1 = 0 ∨ p1 = 1))) ∧ z = -1 ∧ M' 182 2 = M 182 2 ∧ M' 183 = M 183 ∧ M' 184 = M 184) → Q z M') : qX11_heard p0 p1 M Q := by
  unfold qX11_heard qX0_add
  intro x1 e1 _
  have b1 : 0 ≤ x1 ∧ x1 ≤ 8 := by rw [e1]; exact bx_c182_2.mp (hI.bx _ _)
  refine ⟨fun c => ?_, fun c => ?_⟩
  · intro _ _
    exact ⟨fun _ => hQ _ _ hI (Or.inr ⟨by omega, rfl, rfl, rfl, rfl⟩), fun q => absurd rfl q⟩
  · refine gX0_canBe ?_
    intro x3 p3 _ _
    refine ⟨fun c2 => ?_, fun c2 => ?_⟩
    · intro x5 e5 _
      refine ⟨by omega, by omega, ?_⟩
      intro M8 h8 x9 e9 _
      have i8 : IX M8 := by rw [h8]; exact hI.up (by decide) (by simp [BX])
      have f9 : x9 = x1 := by rw [e9, h8, up2_n (by decide), e1]
      refine ⟨by omega, by omega, ?_⟩
      intro M12 h12 x13 e13 _
      have i12 : IX M12 := by rw [h12]; exact i8.up (by decide) (by simp [BX])
      have f13 : x13 = x1 := by rw [e13, h12, up2_n (by decide), ← e9, f9]
      refine ⟨⟨by omega, by omega⟩, ?_⟩
      intro M15 h15 _ _
      refine ⟨fun q => absurd q (by decide), fun _ => ?_⟩
      intro x16 e16 _
      have k15 : M15 182 2 = M 182 2 + 1 := by rw [h15, up2_s]; omega
      exact hQ _ _ (by rw [h15]; exact i12.up (by decide) (bx_c182_2.mpr ⟨by omega, by omega⟩)) (Or.inl ⟨by omega, by rw [e16, k15], k15, by
        rw [h15]
        funext j
        rw [up2_n (by decide), h12, up2_n (by decide), h8, up2_up, e5], by
        rw [h15]
        funext j
        rw [up2_n (by decide), h12, up2_up, f9, e1]
        congr 1
        rw [h8]
        funext i
        rw [up2_n (by decide)]⟩)
    · intro _ _
      exact ⟨fun _ => hQ _ _ hI (Or.inr ⟨by omega, rfl, rfl, rfl, rfl⟩), fun q => absurd rfl q⟩
theorem gX12_heardC {p0 p1 b : Int} {M : Mem} {Q : Int → Mem → Prop} (hI : IM b M) (hp : iR p1) (hQ : ∀ (z : Int) (M' : Mem), IM b M' → ((M 1 45 ≤ 7 ∧ ((p0 = 0 ∨ p0 = 2) ∧ 0 ≤ p1 ∧ p1 ≤ 8 ∨ p0 = 1 ∧ 1 ≤ p1 ∧ p1 ≤ 6 ∨ p0 = 3 ∧ (p1 = 0 ∨ p1 = 1))) ∧ z = M 1 45 + 1 ∧ M' 1 45 = M 1 45 + 1 ∧ M' 26 = up (M 26) (M 1 45) p0 ∧ M' 27 = up (M 27) (M 1 45) p1 ∨ ¬ (M 1 45 ≤ 7 ∧ ((p0 = 0 ∨ p0 = 2) ∧ 0 ≤ p1 ∧ p1 ≤ 8 ∨ p0 = 1 ∧ 1 ≤ p1 ∧ p1 ≤ 6 ∨ p0 = 3 ∧ (p1 = 0 ∨ p1 = 1))) ∧ z = -1 ∧ M' 1 45 = M 1 45 ∧ M' 26 = M 26 ∧ M' 27 = M 27) → Q z M') : qX12_heard p0 p1 M Q := by
  have b45 := bm_c1_45.mp (hI.bx 1 45)
  have hp2 : -2147483648 ≤ p1 ∧ p1 ≤ 2147483647 := hp
  unfold qX12_heard
  intro M1 h1
  have i1 : IM b M1 := by rw [h1]; exact hI.up (by omega) (by simp [BM])
  have g1 : M1 1 45 = M 1 45 := by rw [h1, up2_j (by decide)]
  have g26 : M1 26 = M 26 := by rw [h1]; funext j; rw [up2_n (by decide)]
  have g27 : M1 27 = M 27 := by rw [h1]; funext j; rw [up2_n (by decide)]
  have J51 : ∀ (hi lo : Int), (hi = 8 ∨ hi = 1 ∨ hi = 6) → (lo = 0 ∨ lo = 1) → ((lo ≤ p1 ∧ p1 ≤ hi) ∧ ((p0 = 0 ∨ p0 = 2) ∧ 0 ≤ p1 ∧ p1 ≤ 8 ∨ p0 = 1 ∧ 1 ≤ p1 ∧ p1 ≤ 6 ∨ p0 = 3 ∧ (p1 = 0 ∨ p1 = 1)) ∨ ¬ (lo ≤ p1 ∧ p1 ≤ hi) ∧ ¬ ((p0 = 0 ∨ p0 = 2) ∧ 0 ≤ p1 ∧ p1 ≤ 8 ∨ p0 = 1 ∧ 1 ≤ p1 ∧ p1 ≤ 6 ∨ p0 = 3 ∧ (p1 = 0 ∨ p1 = 1))) → qX12_heard_J51 p0 p1 Q hi lo p1 M1 := by
    intro hi lo h8 h0 hc
    unfold qX12_heard_J51
    refine ⟨⟨by omega, by omega⟩, ?_⟩
    refine sX12_flag (p0 := lo) i1 ?_
    intro x8 p8 _
    refine ⟨⟨by omega, by omega⟩, iR_lR hp, ?_⟩
    refine sX12_in (p0 := p1) (p2 := x8) (p4 := hi) i1 ?_
    intro x11 p11 _ _
    refine ⟨fun c => hQ _ _ i1 (Or.inr ⟨by omega, rfl, g1, g26, g27⟩), fun c => ?_⟩
    intro x13 e13 _
    refine ⟨fun c2 => ?_, fun c2 => hQ _ _ i1 (Or.inr ⟨by omega, rfl, g1, g26, g27⟩)⟩
    intro x15 e15 _
    refine ⟨by omega, by omega, ?_⟩
    intro M18 h18 x19 e19 _
    have i18 : IM b M18 := by rw [h18]; exact i1.up (by omega) (by simp [BM])
    have f19 : x19 = M 1 45 := by rw [e19, h18, up2_n (by decide), g1]
    refine ⟨by omega, by omega, ?_⟩
    intro M22 h22 x23 e23 _
    have i22 : IM b M22 := by rw [h22]; exact i18.up (by omega) (by simp [BM])
    have f23 : x23 = M 1 45 := by rw [e23, h22, up2_n (by decide), ← e19, f19]
    refine ⟨⟨by omega, by omega⟩, ?_⟩
    intro M25 h25 x26 e26 _
    have k25 : M25 1 45 = M 1 45 + 1 := by rw [h25, up2_s]; omega
    exact hQ _ _ (by rw [h25]; exact i22.up (by omega) (bm_c1_45.mpr ⟨by omega, by omega⟩)) (Or.inl ⟨by omega, by rw [e26, k25], k25, by
      rw [h25]
      funext j
      rw [up2_n (by decide), h22, up2_n (by decide), h18, up2_up, e15, g1, g26], by
      rw [h25]
      funext j
      rw [up2_n (by decide), h22, up2_up, f19]
      congr 1
      rw [h18]
      funext i
      rw [up2_n (by decide), g27]⟩)
  have J26 : ∀ hi : Int, (p0 = 1 ∧ hi = 6 ∨ p0 = 3 ∧ hi = 1 ∨ p0 ≠ 1 ∧ p0 ≠ 3 ∧ hi = 8) → qX12_heard_J26 p0 p1 Q hi M1 := by
    intro hi hh
    unfold qX12_heard_J26
    refine sX12_in (p0 := p0) (p2 := 0) (p4 := 3) i1 ?_
    intro x4 p4 _ _
    refine ⟨fun c => hQ _ _ i1 (Or.inr ⟨by omega, rfl, g1, g26, g27⟩), fun c => ⟨fun c2 => J51 _ _ (by omega) (Or.inl rfl) (by omega), fun c2 => J51 _ _ (by omega) (Or.inr rfl) (by omega)⟩⟩
  exact ⟨fun c => ⟨fun c2 => J26 _ (by omega), fun c2 => J26 _ (by omega)⟩, fun c => J26 _ (by omega)⟩
def HRD (MX MM : Mem) : Prop := ∀ i, 0 ≤ i → i < MX 182 2 → MX 183 i = MM 26 i ∧ MX 184 i = MM 27 i ∧ CBv (MX 183 i) (MX 184 i)
theorem HRD.nil {MX MM : Mem} (h : MX 182 2 = 0) : HRD MX MM := fun i p q => by omega
theorem HRD.fr {MX MM MX1 MM1 : Mem} (h : HRD MX MM) (e : MX1 182 2 = MX 182 2) (hh : ∀ j, MX1 183 j = MX 183 j ∧ MX1 184 j = MX 184 j ∧ MM1 26 j = MM 26 j ∧ MM1 27 j = MM 27 j) : HRD MX1 MM1 := by
  intro i p q
  obtain ⟨a, b, c, d⟩ := hh i
  rw [a, b, c, d]
  exact h i p (by omega)
theorem HRD.add {MX MM MX1 MM1 : Mem} {k v : Int} (h : HRD MX MM) (hb : CBv k v) (e : MX1 182 2 = MX 182 2 + 1) (ec : MX 182 2 = MM 1 45) (x3 : MX1 183 = up (MX 183) (MX 182 2) k) (x4 : MX1 184 = up (MX 184) (MX 182 2) v) (m3 : MM1 26 = up (MM 26) (MM 1 45) k) (m4 : MM1 27 = up (MM 27) (MM 1 45) v) : HRD MX1 MM1 := by
  intro i p q
  rw [x3, x4, m3, m4, ← ec]
  by_cases c : i = MX 182 2
  · rw [c, upS, upS, upS, upS]
    exact ⟨rfl, rfl, hb⟩
  · rw [up_j c, up_j c, up_j c, up_j c]
    exact h i p (by omega)
