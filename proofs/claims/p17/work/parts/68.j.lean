/-! THE TEXT'S SIGNS: they are the same on both sides; avenue and weather answer the same by them -/
theorem us_key (n : Nat) (hn : n ≤ 24) (x : Int32) : ((x.toUInt32 >>> ((nI n).toUInt32 &&& Int32.toUInt32 31)).toInt32) &&& (255 : Int32) = (x >>> (nI n &&& 31)) &&& (255 : Int32) := by
  refine b_ext (fun i hi => ?_)
  rw [b_and, b_and, b_255, b_ushr n (by omega), b_sshr n (by omega) x hi]
  by_cases h8 : i < 8
  · rw [if_pos (show n + i < 32 by omega)]
  · rw [decide_eq_false h8, Bool.and_false, Bool.and_false]
theorem us_sr {v s : Int} (hs : s = 0 ∨ s = 8 ∨ s = 16 ∨ s = 24) : aI (usI v s) 255 = aI (srI v s) 255 := by
  unfold aI usI srI
  rw [iI_toI, iI_toI, show iI 255 = (255 : Int32) from by decide]
  rcases hs with rfl | rfl | rfl | rfl
  · rw [show iI 0 = nI 0 from by decide, us_key 0 (by decide)]
  · rw [show iI 8 = nI 8 from by decide, us_key 8 (by decide)]
  · rw [show iI 16 = nI 16 from by decide, us_key 16 (by decide)]
  · rw [show iI 24 = nI 24 from by decide, us_key 24 (by decide)]
def byt (v i : Int) : Int := aI (srI v (24 - 8 * i)) 255
theorem gX9_addFour_C {p1 : Int} {Q : Int → Mem → Prop} {L : Int} {M0 : Mem} (hQ : ∀ M' : Mem, IX M' → M' 156 1 = L + 4 → (∀ j, 0 ≤ j → j < L → M' 157 j = M0 157 j) → (∀ i, 0 ≤ i → i < 4 → M' 157 (L + i) = byt p1 i) → Q 1 M') : ∀ (n : Nat) (v2 : Int) (M : Mem), IX M → (8 * M 156 1 + v2 = 8 * L + 24 ∧ -8 ≤ v2 ∧ v2 ≤ 24 ∧ 0 ≤ L ∧ L ≤ 76) → (∀ j, 0 ≤ j → j < L → M 157 j = M0 157 j) → (∀ i, 0 ≤ i → i < M 156 1 - L → M 157 (L + i) = byt p1 i) → v2 + 8 < (n : Int) → qX9_addFour_L16 p1 Q n v2 M := by
  intro n
  induction n with
  | zero => intro v2 M hI hv h0 h1 hm; exact absurd hm (by omega)
  | succ n ih =>
    intro v2 M hI hv h0 h1 hm
    rw [qX9_addFour_L16]
    refine ⟨⟨by omega, by omega⟩, ⟨fun c => hQ _ hI (by omega) h0 (fun i a q => h1 i a (by omega)), fun c => ?_⟩⟩
    intro x6 e6 _ x7 e7 _ x8 e8 _
    have b6 : 0 ≤ x6 ∧ x6 ≤ 80 := by rw [e6]; exact bx_c156_1.mp (hI.bx _ _)
    have f8 := aI_255 x7
    rw [← e8] at f8
    refine ⟨by omega, by omega, ?_⟩
    intro M11 h11 x12 e12 _
    have i11 : IX M11 := by rw [h11]; exact hI.up (by decide) (bx_c157.mpr ⟨by omega, by omega⟩)
    have f12 : x12 = x6 := by rw [e12, h11, up2_n (by decide), e6]
    refine ⟨⟨by omega, by omega⟩, ?_⟩
    intro M14 h14
    have i14 : IX M14 := by rw [h14]; exact i11.up (by decide) (bx_c156_1.mpr ⟨by omega, by omega⟩)
    have k14 : M14 156 1 = x6 + 1 := by rw [h14, up2_s, f12]
    have hb : x8 = byt p1 (x6 - L) := by
      unfold byt
      rw [e8, e7, us_sr (by omega), show 24 - 8 * (x6 - L) = v2 from by omega]
    refine ih _ _ i14 ⟨by omega, by omega, by omega, by omega, by omega⟩ ?_ ?_ (by omega)
    · intro j a q
      rw [h14, up2_n (by decide), h11, up2_j (by omega)]
      exact h0 j a q
    · intro i a q
      rw [h14, up2_n (by decide), h11]
      by_cases ci : L + i = x6
      · rw [ci, up2_s, hb, show x6 - L = i from by omega]
      · rw [up2_j ci]
        exact h1 i a (by omega)
theorem gX11_signC {p1 : Int} {M : Mem} {Q : Int → Mem → Prop} (hI : IX M) (hQ : ∀ (z : Int) (M' : Mem), IX M' → (77 ≤ M 156 1 ∧ z = -1 ∧ M' 156 1 = M 156 1 ∧ (∀ j, M' 157 j = M 157 j) ∨ M 156 1 ≤ 76 ∧ z = M 156 1 + 4 ∧ M' 156 1 = M 156 1 + 4 ∧ (∀ j, 0 ≤ j → j < M 156 1 → M' 157 j = M 157 j) ∧ (∀ i, 0 ≤ i → i < 4 → M' 157 (M 156 1 + i) = byt p1 i)) → Q z M') : qX11_sign p1 M Q := by
  unfold qX11_sign qX9_addFour
  intro x1 e1 _
  have b1 : 0 ≤ x1 ∧ x1 ≤ 80 := by rw [e1]; exact bx_c156_1.mp (hI.bx _ _)
  refine ⟨⟨by omega, by omega⟩, ⟨fun c => ⟨40, ?_⟩, fun c => ?_⟩⟩
  · refine gX9_addFour_C (L := x1) (M0 := M) ?_ _ _ _ hI (by omega) (fun _ _ _ => rfl) (fun i a q => by omega) (by omega)
    intro M' i' h' k0 k1 _ _
    refine ⟨fun q => absurd q (by decide), fun _ => ?_⟩
    intro x3 e3 _
    exact hQ _ _ i' (Or.inr ⟨by omega, by rw [e3, h', e1], by rw [h', e1], by rw [← e1]; exact k0, by rw [← e1]; exact k1⟩)
  · intro _ _
    exact ⟨fun _ => hQ _ _ hI (Or.inl ⟨by omega, rfl, rfl, fun _ => rfl⟩), fun q => absurd rfl q⟩
theorem gX12_sign_C {p1 b L : Int} {X53 : Mem → Prop} {Q : Int → Mem → Prop} {M0 : Mem} (hX : ∀ M' : Mem, IM b M' → M' 1 14 = L → (∀ j, 0 ≤ j → j < L → M' 7 j = M0 7 j) → (∀ i, 0 ≤ i → i < 4 → M' 7 (L + i) = byt p1 i) → X53 M') : ∀ (n : Nat) (v2 : Int) (M : Mem), IM b M → M 1 14 = L → (∀ j, 0 ≤ j → j < L → M 7 j = M0 7 j) → (∀ i, 0 ≤ i → i < v2 → M 7 (L + i) = byt p1 i) → (0 ≤ v2 ∧ v2 ≤ 4 ∧ L ≤ 76) → 4 - v2 < (n : Int) → qX12_sign_L18 p1 X53 Q n v2 M := by
  intro n
  induction n with
  | zero => intro v2 M hI hL h0 h1 hv hm; exact absurd hm (by omega)
  | succ n ih =>
    intro v2 M hI hL h0 h1 hv hm
    rw [qX12_sign_L18]
    refine ⟨⟨by omega, by omega⟩, ⟨fun c => hX _ hI hL h0 (fun i a q => h1 i a (by omega)), fun c => ?_⟩⟩
    intro x6 e6 _ x7 e7 _ x8 e8 _
    have b6 : 0 ≤ x6 ∧ x6 ≤ 80 := by rw [e6]; exact bm_c1_14.mp (hI.bx _ _)
    have f8 := aI_255 x7
    rw [← e8] at f8
    refine ⟨by omega, by omega, ?_⟩
    intro M11 h11
    refine ih _ _ (by rw [h11]; exact hI.up (by omega) (bm_c7.mpr ⟨by omega, by omega⟩)) (by rw [h11, up2_n (by decide)]; exact hL) ?_ ?_ (by omega) (by omega)
    · intro j a q
      rw [h11, up2_j (by omega)]
      exact h0 j a q
    · intro i a q
      rw [h11]
      by_cases ci : i = v2
      · rw [ci, show L + v2 = x6 + v2 from by omega, up2_s, e8, e7]
        rfl
      · rw [up2_j (by omega)]
        exact h1 i a (by omega)
theorem gX12_signC {p1 b : Int} {M : Mem} {Q : Int → Mem → Prop} (hI : IM b M) (hQ : ∀ (z : Int) (M' : Mem), IM b M' → (77 ≤ M 1 14 ∧ z = -1 ∧ M' 1 14 = M 1 14 ∧ (∀ j, M' 7 j = M 7 j) ∨ M 1 14 ≤ 76 ∧ z = M 1 14 + 4 ∧ M' 1 14 = M 1 14 + 4 ∧ (∀ j, 0 ≤ j → j < M 1 14 → M' 7 j = M 7 j) ∧ (∀ i, 0 ≤ i → i < 4 → M' 7 (M 1 14 + i) = byt p1 i)) → Q z M') : qX12_sign p1 M Q := by
  unfold qX12_sign
  intro M1 h1 x2 e2 _
  have i1 : IM b M1 := by rw [h1]; exact hI.up (by omega) (by simp [BM])
  have f2 : x2 = M 1 14 := by rw [e2, h1, up2_j (by decide)]
  have b2 : 0 ≤ x2 ∧ x2 ≤ 80 := by rw [e2]; exact bm_c1_14.mp (i1.bx _ _)
  have g1 : M1 1 14 = M 1 14 := by rw [h1, up2_j (by decide)]
  refine ⟨fun c => ⟨5, ?_⟩, fun c => hQ _ _ i1 (Or.inl ⟨by omega, rfl, g1, fun j => by rw [h1, up2_n (by decide)]⟩)⟩
  refine gX12_sign_C (b := b) (L := M 1 14) (M0 := M) ?_ _ _ _ i1 g1 (fun j _ _ => by rw [h1, up2_n (by decide)]) (fun i a q => by omega) (by omega) (by omega)
  intro M' i' h' k0 k1 x13 e13 _
  refine ⟨⟨by omega, by omega⟩, ?_⟩
  intro M15 h15 x16 e16 _
  have k15 : M15 1 14 = M 1 14 + 4 := by rw [h15, up2_s]; omega
  exact hQ _ _ (by rw [h15]; exact i'.up (by omega) (bm_c1_14.mpr ⟨by omega, by omega⟩)) (Or.inr ⟨by omega, by rw [e16, k15], k15, fun j a q => by rw [h15, up2_n (by decide)]; exact k0 j a q, fun i a q => by rw [h15, up2_n (by decide)]; exact k1 i a q⟩)
-- avenue: the first sign that can't stand there
def vA (c : Int) : Prop := c = 46 ∨ c = 99
def AV (f : Int → Int) (len q : Int) : Prop := (0 ≤ q ∧ q ≤ len ∧ q ≤ 30) ∧ (∀ i, 0 ≤ i → i < q → vA (f i)) ∧ (q = len ∨ q = 30 ∨ ¬ vA (f q))
def avz (len q : Int) : Int := if q = len ∧ 4 ≤ q then q else -1 - q
theorem AV.uq {f g : Int → Int} {len p q : Int} (h : AV f len p) (h2 : AV g len q) (hf : ∀ j, 0 ≤ j → j < len → f j = g j) : p = q := by
  obtain ⟨a, b, c⟩ := h
  obtain ⟨a2, b2, c2⟩ := h2
  rcases Int.lt_or_le p q with h | h
  · exfalso
    have := b2 p a.1 h
    rcases c with c | c | c
    · omega
    · omega
    · exact c (by rw [hf p a.1 (by omega)]; exact this)
  · rcases Int.lt_or_le q p with h' | h'
    · exfalso
      have := b q a2.1 h'
      rcases c2 with c | c | c
      · omega
      · omega
      · exact c (by rw [← hf q a2.1 (by omega)]; exact this)
    · omega
theorem gX11_avenueFault_L2 {X48 : Mem → Prop} {Q : Int → Mem → Prop} {M : Mem} (hI : IX M) (hX : AV (M 157) (M 156 1) (M 156 1) → X48 M) (hQ : ∀ q : Int, q < M 156 1 → AV (M 157) (M 156 1) q → Q q M) : ∀ (n : Nat) (v1 : Int), (0 ≤ v1 ∧ v1 ≤ 30 ∧ v1 ≤ M 156 1) → (∀ i, 0 ≤ i → i < v1 → vA (M 157 i)) → 30 - v1 < (n : Int) → qX11_avenueFault_L2 X48 Q n v1 M := by
  intro n
  induction n with
  | zero => intro v1 hv ha hm; exact absurd hm (by omega)
  | succ n ih =>
    intro v1 hv ha hm
    rw [qX11_avenueFault_L2]
    intro x1 e1 _
    have b1 : 0 ≤ x1 ∧ x1 ≤ 80 := by rw [e1]; exact bx_c156_1.mp (hI.bx _ _)
    refine ⟨⟨by omega, by omega⟩, ⟨fun c => ?_, fun c => ?_⟩⟩
    · have e : M 156 1 = v1 := by omega
      rw [e] at hX
      exact hX ⟨by omega, ha, Or.inl rfl⟩
    · unfold qX9_signAt
      refine ⟨fun c2 => by omega, fun _ => ?_⟩
      intro x2 e2 _
      refine ⟨fun c3 => by omega, fun _ => ⟨by omega, by omega, ?_⟩⟩
      intro x6 e6 _ _
      refine ⟨fun c4 => hQ _ (by omega) ⟨by omega, ha, Or.inr (Or.inl c4)⟩, fun c4 => ⟨fun c5 => ?_, fun c5 => ⟨fun c6 => ?_, fun c6 => ?_⟩⟩⟩
      · refine ih _ (by omega) (fun i a q => ?_) (by omega)
        by_cases ci : i = v1
        · rw [ci, ← e6]; exact Or.inl c5
        · exact ha i a (by omega)
      · refine ih _ (by omega) (fun i a q => ?_) (by omega)
        by_cases ci : i = v1
        · rw [ci, ← e6]; exact Or.inr c6
        · exact ha i a (by omega)
      · refine hQ _ (by omega) ⟨by omega, ha, Or.inr (Or.inr (fun q => ?_))⟩
        rw [← e6] at q
        rcases q with q | q
        · exact c5 q
        · exact c6 q
-- takesOf
theorem gX12_takesOf_L2 {bs : List Int} {X38 : Int → Mem → Prop} {Q : Int → Mem → Prop} {b : Int} {M : Mem} (hI : IM b M) (hl : (bs.length : Int) ≤ 7) (hX : ∀ z : Int, M 1 15 < M 1 16 → (0 ≤ z ∧ z < bs.length) → bs.getD z.toNat 0 = M 7 (M 1 15) → X38 z M) (hQ : (M 1 16 ≤ M 1 15 ∨ ∀ i : Int, 0 ≤ i → i < bs.length → bs.getD i.toNat 0 ≠ M 7 (M 1 15)) → Q (-1) M) : ∀ (n : Nat) (v2 : Int), (0 ≤ v2 ∧ v2 ≤ bs.length) → (∀ i : Int, 0 ≤ i → i < v2 → bs.getD i.toNat 0 ≠ M 7 (M 1 15)) → (bs.length : Int) - v2 < (n : Int) → qX12_takesOf_L2 bs X38 Q n v2 M := by
  intro n
  induction n with
  | zero => intro v2 hv ha hm; exact absurd hm (by omega)
  | succ n ih =>
    intro v2 hv ha hm
    rw [qX12_takesOf_L2]
    intro x1 e1 _
    refine ⟨⟨by omega, by omega⟩, ⟨fun c => hQ (Or.inr (fun i a q => ha i a (by omega))), fun c => ?_⟩⟩
    intro x4 e4 _ x5 e5 _
    have b4 : 0 ≤ x4 ∧ x4 ≤ 80 := by rw [e4]; exact bm_c1_15.mp (hI.bx _ _)
    have b5 : 0 ≤ x5 ∧ x5 ≤ 80 := by rw [e5]; exact bm_c1_16.mp (hI.bx _ _)
    refine ⟨fun c2 => hQ (Or.inl (by omega)), fun c2 => ⟨by omega, by omega, ?_⟩⟩
    intro x9 e9 _ x10 e10 _
    refine ⟨by omega, by omega, ?_⟩
    intro x13 e13 _
    refine ⟨fun c3 => ih _ (by omega) (fun i a q => ?_) (by omega), fun c3 => hX _ (by omega) (by omega) (by rw [← e9, c3, e13, e10])⟩
    by_cases ci : i = v2
    · rw [ci, ← e9, ← e10, ← e13]; exact c3
    · exact ha i a (by omega)
theorem gX12_takesOf {bs : List Int} {Q : Int → Mem → Prop} {b : Int} {M : Mem} (hI : IM b M) (hl : (bs.length : Int) ≤ 7) (hQ : ∀ (z : Int) (M' : Mem), IM b M' → FrJ (fun k j => k = 1 ∧ j = 15) M M' → ((M 1 15 < M 1 16 ∧ (0 ≤ z ∧ z < bs.length) ∧ bs.getD z.toNat 0 = M 7 (M 1 15) ∧ M' 1 15 = M 1 15 + 1) ∨ (z = -1 ∧ M' 1 15 = M 1 15 ∧ (M 1 16 ≤ M 1 15 ∨ ∀ i : Int, 0 ≤ i → i < bs.length → bs.getD i.toNat 0 ≠ M 7 (M 1 15)))) → Q z M') : qX12_takesOf bs M Q := by
  unfold qX12_takesOf
  have b5 := bm_c1_16.mp (hI.bx 1 16)
  refine ⟨bs.length + 1, gX12_takesOf_L2 hI hl ?_ (fun h => hQ _ _ hI FrJ.rf (Or.inr ⟨rfl, rfl, h⟩)) _ _ (by omega) (fun i a q => by omega) (by omega)⟩
  intro z h1 h2 h3 x16 e16 _
  have b4 : 0 ≤ x16 ∧ x16 ≤ 80 := by rw [e16]; exact bm_c1_15.mp (hI.bx _ _)
  refine ⟨⟨by omega, by omega⟩, ?_⟩
  intro M18 h18
  refine ⟨⟨by omega, by omega⟩, hQ _ _ (by rw [h18]; exact hI.up (by omega) (bm_c1_15.mpr ⟨by omega, by omega⟩)) (by rw [h18]; exact FrJ.rf.up ⟨rfl, rfl⟩) (Or.inl ⟨h1, h2, h3, by rw [h18, up2_s, e16]⟩)⟩
theorem gX12_begins {p1 b : Int} {M : Mem} {Q : Int → Mem → Prop} (hI : IM b M) (hp : 0 ≤ p1 ∧ p1 ≤ 80) (hQ : ∀ M' : Mem, IM b M' → FrJ (fun k j => k = 1 ∧ (j = 14 ∨ j = 15 ∨ j = 16 ∨ j = 17)) M M' → M' 1 15 = 0 → M' 1 16 = min (M 1 14) p1 → M' 1 17 = 0 → M' 1 14 = 0 → Q (M 1 14) M') : qX12_begins p1 M Q := by
  have b14 := bm_c1_14.mp (hI.bx 1 14)
  unfold qX12_begins
  intro x1 e1 _ M2 h2 M3 h3 M4 h4 x5 e5 _ M6 h6
  have i2 : IM b M2 := by rw [h2]; exact hI.up (by omega) (bm_c1_14.mpr (by decide))
  have i3 : IM b M3 := by rw [h3]; exact i2.up (by omega) (bm_c1_15.mpr (by decide))
  have i4 : IM b M4 := by rw [h4]; exact i3.up (by omega) (by simp [BM])
  have i6 : IM b M6 := by rw [h6]; exact i4.up (by omega) (bm_c1_16.mpr ⟨by omega, by omega⟩)
  rw [e1]
  refine hQ _ i6 ?_ ?_ ?_ ?_ ?_
  · rw [h6, h4, h3, h2]
    exact (((FrJ.rf.up (by omega)).up (by omega)).up (by omega)).up (by omega)
  · rw [h6, up2_j (by decide), h4, up2_j (by decide), h3, up2_s]
  · rw [h6, up2_s, e5, e1]
  · rw [h6, up2_j (by decide), h4, up2_s]
  · rw [h6, up2_j (by decide), h4, up2_j (by decide), h3, up2_j (by decide), h2, up2_s]
