/-! THE TEXT'S SIGNS: they are the same on both sides; avenue and weather answer the same by them -/
theorem us_key (n : Nat) (hn : n ≤ 24) (x : Int32) : ((x.toUInt32 >>> ((nI n).toUInt32 &&& Int32.toUInt32 31)).toInt32) &&& (255 : Int32) = (x >>> (nI n &&& 31)) &&& (255 : Int32) := by
  refine b_ext (fun i hi => ?_)
  rw [b_and, b_and, b_255, b_ushr n (by omega), b_sshr n (by omega) x hi]
  by_cases h8 : i < 8
  · rw [if_pos (show n + i < 32 by omega)]
  · rw [decide_eq_false h8, Bool.and_false, Bool.and_false]
theorem us_sr {v s : Int} (hs : s = 0 ∨ s = 8 ∨ s = 16 ∨ s = 24) : aI (usI v s) 255 = aI (srI v s) 255 := by
  unfold aI usI srI
  rw [iI_toI, iI_toI, show iI 255 = (255 : Int32) from by decide]
  rcases hs with rfl | rfl | rfl | rfl
  · rw [show iI 0 = nI 0 from by decide, us_key 0 (by decide)]
  · rw [show iI 8 = nI 8 from by decide, us_key 8 (by decide)]
  · rw [show iI 16 = nI 16 from by decide, us_key 16 (by decide)]
  · rw [show iI 24 = nI 24 from by decide, us_key 24 (by decide)]
def byt (v i : Int) : Int := aI (srI v (24 - 8 * i)) 255
theorem gX9_addFour_C {p1 : Int} {Q : Int → Mem → Prop} {L : Int} {M0 : Mem} (hQ : ∀ M' : Mem, IX M' → M' 156 1 = L + 4 → (∀ j, 0 ≤ j → j < L → M' 157 j = M0 157 j) → (∀ i, 0 ≤ i → i < 4 → M' 157 (L + i) = byt p1 i) → Q 1 M') : ∀ (n : Nat) (v2 : Int) (M : Mem), IX M → (8 * M 156 1 + v2 = 8 * L + 24 ∧ -8 ≤ v2 ∧ v2 ≤ 24 ∧ 0 ≤ L ∧ L ≤ 76) → (∀ j, 0 ≤ j → j < L → M 157 j = M0 157 j) → (∀ i, 0 ≤ i → i < M 156 1 - L → M 157 (L + i) = byt p1 i) → v2 + 8 < (n : Int) → qX9_addFour_L16 p1 Q n v2 M := by
  intro n
  induction n with
  | zero => intro v2 M hI hv h0 h1 hm; exact absurd hm (by omega)
  | succ n ih =>
    intro v2 M hI hv h0 h1 hm
    rw [qX9_addFour_L16]
    refine ⟨⟨by omega, by omega⟩, ⟨fun c => hQ _ hI (by omega) h0 (fun i a q => h1 i a (by omega)), fun c => ?_⟩⟩
    intro x6 e6 _ x7 e7 _ x8 e8 _
    have b6 : 0 ≤ x6 ∧ x6 ≤ 80 := by rw [e6]; exact bx_c156_1.mp (hI.bx _ _)
    have f8 := aI_255 x7
    rw [← e8] at f8
    refine ⟨by omega, by omega, ?_⟩
    intro M11 h11 x12 e12 _
    have i11 : IX M11 := by rw [h11]; exact hI.up (by decide) (bx_c157.mpr ⟨by omega, by omega⟩)
    have f12 : x12 = x6 := by rw [e12, h11, up2_n (by decide), e6]
    refine ⟨⟨by omega, by omega⟩, ?_⟩
    intro M14 h14
    have i14 : IX M14 := by rw [h14]; exact i11.up (by decide) (bx_c156_1.mpr ⟨by omega, by omega⟩)
    have k14 : M14 156 1 = x6 + 1 := by rw [h14, up2_s, f12]
    have hb : x8 = byt p1 (x6 - L) := by
      unfold byt
      rw [e8, e7, us_sr (by omega), show 24 - 8 * (x6 - L) = v2 from by omega]
    refine ih _ _ i14 ⟨by omega, by omega, by omega, by omega, by omega⟩ ?_ ?_ (by omega)
    · intro j a q
      rw [h14, up2_n (by decide), h11, up2_j (by omega)]
      exact h0 j a q
    · intro i a q
      rw [h14, up2_n (by decide), h11]
      by_cases ci : L + i = x6
      · rw [ci, up2_s, hb, show x6 - L = i from by omega]
      · rw [up2_j ci]
        exact h1 i a (by omega)
theorem gX11_signC {p1 : Int} {M : Mem} {Q : Int → Mem → Prop} (hI : IX M) (hQ : ∀ (z : Int) (M' : Mem), IX M' → (77 ≤ M 156 1 ∧ z = -1 ∧ M' 156 1 = M 156 1 ∧ (∀ j, M' 157 j = M 157 j) ∨ M 156 1 ≤ 76 ∧ z = M 156 1 + 4 ∧ M' 156 1 = M 156 1 + 4 ∧ (∀ j, 0 ≤ j → j < M 156 1 → M' 157 j = M 157 j) ∧ (∀ i, 0 ≤ i → i < 4 → M' 157 (M 156 1 + i) = byt p1 i)) → Q z M') : qX11_sign p1 M Q := by
  unfold qX11_sign qX9_addFour
  intro x1 e1 _
  have b1 : 0 ≤ x1 ∧ x1 ≤ 80 := by rw [e1]; exact bx_c156_1.mp (hI.bx _ _)
  refine ⟨⟨by omega, by omega⟩, ⟨fun c => ⟨40, ?_⟩, fun c => ?_⟩⟩
  · refine gX9_addFour_C (L := x1) (M0 := M) ?_ _ _ _ hI (by omega) (fun _ _ _ => rfl) (fun i a q => by omega) (by omega)
    intro M' i' h' k0 k1 _ _
    refine ⟨fun q => absurd q (by decide), fun _ => ?_⟩
    intro x3 e3 _
    exact hQ _ _ i' (Or.inr ⟨by omega, by rw [e3, h', e1], by rw [h', e1], by rw [← e1]; exact k0, by rw [← e1]; exact k1⟩)
  · intro _ _
    exact ⟨fun _ => hQ _ _ hI (Or.inl ⟨by omega, rfl, rfl, fun _ => rfl⟩), fun q => absurd rfl q⟩
theorem gX12_sign_C {p1 b L : Int} {X53 : Mem → Prop} {Q : Int → Mem → Prop} {M0 : Mem} (hX : ∀ M' : Mem, IM b M' → M' 1 14 = L → (∀ j, 0 ≤ j → j < L → M' 7 j = M0 7 j) → (∀ i, 0 ≤ i → i < 4 → M' 7 (L + i) = byt p1 i) → X53 M') : ∀ (n : Nat) (v2 : Int) (M : Mem), IM b M → M 1 14 = L → (∀ j, 0 ≤ j → j < L → M 7 j = M0 7 j) → (∀ i, 0 ≤ i → i < v2 → M 7 (L + i) = byt p1 i) → (0 ≤ v2 ∧ v2 ≤ 4 ∧ L ≤ 76) → 4 - v2 < (n : Int) → qX12_sign_L18 p1 X53 Q n v2 M := by
  intro n
  induction n with
  | zero => intro v2 M hI hL h0 h1 hv hm; exact absurd hm (by omega)
  | succ n ih =>
    intro v2 M hI hL h0 h1 hv hm
    rw [qX12_sign_L18]
    refine ⟨⟨by omega, by omega⟩, ⟨fun c => hX _ hI hL h0 (fun i a q => h1 i a (by omega)), fun c => ?_⟩⟩
    intro x6 e6 _ x7 e7 _ x8 e8 _
    have b6 : 0 ≤ x6 ∧ x6 ≤ 80 := by rw [e6]; exact bm_c1_14.mp (hI.bx _ _)
    have f8 := aI_255 x7
    rw [← e8] at f8
    refine ⟨by omega, by omega, ?_⟩
    intro M11 h11
    refine ih _ _ (by rw [h11]; exact hI.up (by omega) (bm_c7.mpr ⟨by omega, by omega⟩)) (by rw [h11, up2_n (by decide)]; exact hL) ?_ ?_ (by omega) (by omega)
    · intro j a q
      rw [h11, up2_j (by omega)]
      exact h0 j a q
    · intro i a q
      rw [h11]
      by_cases ci : i = v2
      · rw [ci, show L + v2 = x6 + v2 from by omega, up2_s, e8, e7]
        rfl
      · rw [up2_j (by omega)]
        exact h1 i a (by omega)
theorem gX12_signC {p1 b : Int} {M : Mem} {Q : Int → Mem → Prop} (hI : IM b M) (hQ : ∀ (z : Int) (M' : Mem), IM b M' → (77 ≤ M 1 14 ∧ z = -1 ∧ M' 1 14 = M 1 14 ∧ (∀ j, M' 7 j = M 7 j) ∨ M 1 14 ≤ 76 ∧ z = M 1 14 + 4 ∧ M' 1 14 = M 1 14 + 4 ∧ (∀ j, 0 ≤ j → j < M 1 14 → M' 7 j = M 7 j) ∧ (∀ i, 0 ≤ i → i < 4 → M' 7 (M 1 14 + i) = byt p1 i)) → Q z M') : qX12_sign p1 M Q := by
  unfold qX12_sign
  intro M1 h1 x2 e2 _
  have i1 : IM b M1 := by rw [h1]; exact hI.up (by omega) (by simp [BM])
  have f2 : x2 = M 1 14 := by rw [e2, h1, up2_j (by decide)]
  have b2 : 0 ≤ x2 ∧ x2 ≤ 80 := by rw [e2]; exact bm_c1_14.mp (i1.bx _ _)
  have g1 : M1 1 14 = M 1 14 := by rw [h1, up2_j (by decide)]
  refine ⟨fun c => ⟨5, ?_⟩, fun c => hQ _ _ i1 (Or.inl ⟨by omega, rfl, g1, fun j => by rw [h1, up2_n (by decide)]⟩)⟩
  refine gX12_sign_C (b := b) (L := M 1 14) (M0 := M) ?_ _ _ _ i1 g1 (fun j _ _ => by rw [h1, up2_n (by decide)]) (fun i a q => by omega) (by omega) (by omega)
  intro M' i' h' k0 k1 x13 e13 _
  refine ⟨⟨by omega, by omega⟩, ?_⟩
  intro M15 h15 x16 e16 _
  have k15 : M15 1 14 = M 1 14 + 4 := by rw [h15, up2_s]; omega
  exact hQ _ _ (by rw [h15]; exact i'.up (by omega) (bm_c1_14.mpr ⟨by omega, by omega⟩)) (Or.inr ⟨by omega, by rw [e16, k15], k15, fun j a q => by rw [h15, up2_n (by decide)]; exact k0 j a q, fun i a q => by rw [h15, up2_n (by decide)]; exact k1 i a q⟩)
-- avenue: the first sign that can't stand there
def vA (c : Int) : Prop := c = 46 ∨ c = 99
def AV (f : Int → Int) (len q : Int) : Prop := (0 ≤ q ∧ q ≤ len ∧ q ≤ 30) ∧ (∀ i, 0 ≤ i → i < q → vA (f i)) ∧ (q = len ∨ q = 30 ∨ ¬ vA (f q))
def avz (len q : Int) : Int := if q = len ∧ 4 ≤ q then q else -1 - q
theorem AV.uq {f g : Int → Int} {len p q : Int} (h : AV f len p) (h2 : AV g len q) (hf : ∀ j, 0 ≤ j → j < len → f j = g j) : p = q := by
  obtain ⟨a, b, c⟩ := h
  obtain ⟨a2, b2, c2⟩ := h2
  rcases Int.lt_or_le p q with h | h
  · exfalso
    have := b2 p a.1 h
    rcases c with c | c | c
    · omega
    · omega
    · exact c (by rw [hf p a.1 (by omega)]; exact this)
  · rcases Int.lt_or_le q p with h' | h'
    · exfalso
      have := b q a2.1 h'
      rcases c2 with c | c | c
      · omega
      · omega
      · exact c (by rw [← hf q a2.1 (by omega)]; exact this)
    · omega
theorem gX11_avenueFault_L2 {X48 : Mem → Prop} {Q : Int → Mem → Prop} {M : Mem} (hI : IX M) (hX : AV (M 157) (M 156 1) (M 156 1) → X48 M) (hQ : ∀ q : Int, q < M 156 1 → AV (M 157) (M 156 1) q → Q q M) : ∀ (n : Nat) (v1 : Int), (0 ≤ v1 ∧ v1 ≤ 30 ∧ v1 ≤ M 156 1) → (∀ i, 0 ≤ i → i < v1 → vA (M 157 i)) → 30 - v1 < (n : Int) → qX11_avenueFault_L2 X48 Q n v1 M := by
  intro n
  induction n with
  | zero => intro v1 hv ha hm; exact absurd hm (by omega)
  | succ n ih =>
    intro v1 hv ha hm
    rw [qX11_avenueFault_L2]
    intro x1 e1 _
    have b1 : 0 ≤ x1 ∧ x1 ≤ 80 := by rw [e1]; exact bx_c156_1.mp (hI.bx _ _)
    refine ⟨⟨by omega, by omega⟩, ⟨fun c => ?_, fun c => ?_⟩⟩
    · have e : M 156 1 = v1 := by omega
      rw [e] at hX
      exact hX ⟨by omega, ha, Or.inl rfl⟩
    · unfold qX9_signAt
      refine ⟨fun c2 => by omega, fun _ => ?_⟩
      intro x2 e2 _
      refine ⟨fun c3 => by omega, fun _ => ⟨by omega, by omega, ?_⟩⟩
      intro x6 e6 _ _
      refine ⟨fun c4 => hQ _ (by omega) ⟨by omega, ha, Or.inr (Or.inl c4)⟩, fun c4 => ⟨fun c5 => ?_, fun c5 => ⟨fun c6 => ?_, fun c6 => ?_⟩⟩⟩
      · refine ih _ (by omega) (fun i a q => ?_) (by omega)
        by_cases ci : i = v1
        · rw [ci, ← e6]; exact Or.inl c5
        · exact ha i a (by omega)
      · refine ih _ (by omega) (fun i a q => ?_) (by omega)
        by_cases ci : i = v1
        · rw [ci, ← e6]; exact Or.inr c6
        · exact ha i a (by omega)
      · refine hQ _ (by omega) ⟨by omega, ha, Or.inr (Or.inr (fun q => ?_))⟩
        rw [← e6] at q
        rcases q with q | q
        · exact c5 q
        · exact c6 q
theorem gX11_avenue {M : Mem} {Q : Int → Mem → Prop} (hI : IX M) (hQ : ∀ (q : Int) (M' : Mem), IX M' → AV (M 157) (M 156 1) q → Q (avz (M 156 1) q) M') : qX11_avenue M Q := by
  have bL := bx_c156_1.mp (hI.bx 156 1)
  have J47b : ∀ (q x2 : Int) (M' : Mem), IX M' → AV (M 157) (M 156 1) q → ¬ (q = M 156 1 ∧ 4 ≤ q) → qX11_avenue_J47 Q q x2 M' := by
    intro q x2 M' i' hq hn
    have b := hq.1
    unfold qX11_avenue_J47
    refine sX9_clear i' ?_
    intro M4 h4 _
    refine ⟨⟨by omega, by omega⟩, ⟨fun c => ⟨⟨by omega, by omega⟩, ?_⟩, fun c => by omega⟩⟩
    have := hQ q M4 h4 hq
    unfold avz at this
    rw [if_neg hn] at this
    exact this
  unfold qX11_avenue qX11_avenueFault
  refine ⟨31, gX11_avenueFault_L2 hI ?_ ?_ _ _ (by omega) (fun i a q => by omega) (by omega)⟩
  · intro hq
    intro x9 e9 _
    refine ⟨fun c => ?_, fun c => ?_⟩
    · intro _ x2 e2 _
      refine ⟨fun h => absurd rfl h, fun _ => ?_⟩
      have b := hq.1
      refine sX8_become hI ⟨by omega, by omega⟩ ?_
      intro M9 h9
      refine sX6_clear h9 (show isS 1 by decide) ?_
      intro M10 h10
      refine sX1_clear h10 ?_
      intro M11 h11
      refine sX11_forgetKept h11 ?_
      intro M12 h12
      unfold qX11_avenue_J47
      refine sX9_clear h12 ?_
      intro M4 h4 _
      refine ⟨⟨by decide, by decide⟩, ⟨fun h => absurd rfl h, fun _ => ⟨⟨by omega, by omega⟩, ?_⟩⟩⟩
      have := hQ _ M4 h4 hq
      unfold avz at this
      rw [if_pos ⟨rfl, by omega⟩] at this
      rw [e2]
      exact this
    · intro x11 e11 _ _ x2 e2 _
      refine ⟨fun h => J47b _ _ _ hI (by rw [e11]; exact hq) (by omega), fun h => by omega⟩
  · intro q hl hq
    have b := hq.1
    intro _ x2 e2 _
    exact ⟨fun h => J47b _ _ _ hI hq (by omega), fun h => by omega⟩
-- takesOf
theorem gX12_takesOf_L2 {bs : List Int} {X38 : Int → Mem → Prop} {Q : Int → Mem → Prop} {b : Int} {M : Mem} (hI : IM b M) (hl : (bs.length : Int) ≤ 7) (hX : ∀ z : Int, M 1 15 < M 1 16 → (0 ≤ z ∧ z < bs.length) → bs.getD z.toNat 0 = M 7 (M 1 15) → X38 z M) (hQ : (M 1 16 ≤ M 1 15 ∨ ∀ i : Int, 0 ≤ i → i < bs.length → bs.getD i.toNat 0 ≠ M 7 (M 1 15)) → Q (-1) M) : ∀ (n : Nat) (v2 : Int), (0 ≤ v2 ∧ v2 ≤ bs.length) → (∀ i : Int, 0 ≤ i → i < v2 → bs.getD i.toNat 0 ≠ M 7 (M 1 15)) → (bs.length : Int) - v2 < (n : Int) → qX12_takesOf_L2 bs X38 Q n v2 M := by
  intro n
  induction n with
  | zero => intro v2 hv ha hm; exact absurd hm (by omega)
  | succ n ih =>
    intro v2 hv ha hm
    rw [qX12_takesOf_L2]
    intro x1 e1 _
    refine ⟨⟨by omega, by omega⟩, ⟨fun c => hQ (Or.inr (fun i a q => ha i a (by omega))), fun c => ?_⟩⟩
    intro x4 e4 _ x5 e5 _
    have b4 : 0 ≤ x4 ∧ x4 ≤ 80 := by rw [e4]; exact bm_c1_15.mp (hI.bx _ _)
    have b5 : 0 ≤ x5 ∧ x5 ≤ 80 := by rw [e5]; exact bm_c1_16.mp (hI.bx _ _)
    refine ⟨fun c2 => hQ (Or.inl (by omega)), fun c2 => ⟨by omega, by omega, ?_⟩⟩
    intro x9 e9 _ x10 e10 _
    refine ⟨by omega, by omega, ?_⟩
    intro x13 e13 _
    refine ⟨fun c3 => ih _ (by omega) (fun i a q => ?_) (by omega), fun c3 => hX _ (by omega) (by omega) (by rw [← e9, c3, e13, e10])⟩
    by_cases ci : i = v2
    · rw [ci, ← e9, ← e10, ← e13]; exact c3
    · exact ha i a (by omega)
theorem gX12_takesOf {bs : List Int} {Q : Int → Mem → Prop} {b : Int} {M : Mem} (hI : IM b M) (hl : (bs.length : Int) ≤ 7) (hQ : ∀ (z : Int) (M' : Mem), IM b M' → FrJ (fun k j => k = 1 ∧ j = 15) M M' → ((M 1 15 < M 1 16 ∧ (0 ≤ z ∧ z < bs.length) ∧ bs.getD z.toNat 0 = M 7 (M 1 15) ∧ M' 1 15 = M 1 15 + 1) ∨ (z = -1 ∧ M' 1 15 = M 1 15 ∧ (M 1 16 ≤ M 1 15 ∨ ∀ i : Int, 0 ≤ i → i < bs.length → bs.getD i.toNat 0 ≠ M 7 (M 1 15)))) → Q z M') : qX12_takesOf bs M Q := by
  unfold qX12_takesOf
  have b5 := bm_c1_16.mp (hI.bx 1 16)
  refine ⟨bs.length + 1, gX12_takesOf_L2 hI hl ?_ (fun h => hQ _ _ hI FrJ.rf (Or.inr ⟨rfl, rfl, h⟩)) _ _ (by omega) (fun i a q => by omega) (by omega)⟩
  intro z h1 h2 h3 x16 e16 _
  have b4 : 0 ≤ x16 ∧ x16 ≤ 80 := by rw [e16]; exact bm_c1_15.mp (hI.bx _ _)
  refine ⟨⟨by omega, by omega⟩, ?_⟩
  intro M18 h18
  refine ⟨⟨by omega, by omega⟩, hQ _ _ (by rw [h18]; exact hI.up (by omega) (bm_c1_15.mpr ⟨by omega, by omega⟩)) (by rw [h18]; exact FrJ.rf.up ⟨rfl, rfl⟩) (Or.inl ⟨h1, h2, h3, by rw [h18, up2_s, e16]⟩)⟩
theorem gX12_avenue_L16 {X69 : Int → Mem → Prop} {Q : Int → Mem → Prop} {b : Int} {M0 : Mem} {len : Int} (hl : 0 ≤ len ∧ len ≤ 80) (hX : ∀ (q : Int) (M' : Mem), IM b M' → AV (M0 7) len q → M' 1 15 = q → M' 1 16 = len → X69 q M') : ∀ (n : Nat) (v1 v2 : Int) (M : Mem), IM b M → (∀ j, M 7 j = M0 7 j) → M 1 15 = v1 → M 1 16 = len → (0 ≤ v1 ∧ v1 ≤ 30 ∧ v1 ≤ len) → (∀ i, 0 ≤ i → i < v1 → vA (M0 7 i)) → (v2 = 1 ∨ v2 = 0 ∧ (v1 = len ∨ ¬ vA (M0 7 v1))) → 30 - v1 + v2 < (n : Int) → qX12_avenue_L16 X69 Q n v1 v2 M := by
  intro n
  induction n with
  | zero => intro v1 v2 M hI h7 h15 h16 hv ha h2 hm; exact absurd hm (by omega)
  | succ n ih =>
    intro v1 v2 M hI h7 h15 h16 hv ha h2 hm
    rw [qX12_avenue_L16]
    refine ⟨⟨by omega, by omega⟩, ⟨fun c => ?_, fun c => ⟨⟨by omega, by omega⟩, ⟨fun c2 => ?_, fun c2 => ?_⟩⟩⟩⟩
    · refine hX _ _ hI ⟨by omega, ha, ?_⟩ h15 h16
      rcases h2 with h | h
      · omega
      · rcases h.2 with q | q
        · exact Or.inl q
        · exact Or.inr (Or.inr q)
    · exact hX _ _ hI ⟨by omega, ha, Or.inr (Or.inl (by omega))⟩ h15 h16
    · have e1 : bS 1 = [46, 99] := rfl
      have hl2 : ((bS 1).length : Int) = 2 := rfl
      refine gX12_takesOf hI (by decide) ?_
      intro x7 M7 i7 f7 p7 _
      have k7 : ∀ j, M7 7 j = M0 7 j := fun j => by rw [f7 7 j (by omega), h7]
      have k16 : M7 1 16 = len := by rw [f7 1 16 (by omega), h16]
      have J : ∀ t0 : Int, (t0 = 1 ∧ 0 ≤ x7 ∨ t0 = 0 ∧ x7 < 0) → qX12_avenue_J42 (qX12_avenue_L16 X69 Q n) X69 Q v1 x7 t0 M7 := by
        intro t0 ht
        unfold qX12_avenue_J42
        have b7 : -1 ≤ x7 ∧ x7 ≤ 1 := by rcases p7 with q | q <;> omega
        have J58 : ∀ s : Int, (s = 0 ∨ s = 1) → qX12_avenue_J58 (qX12_avenue_L16 X69 Q n) X69 Q v1 t0 s v1 M7 := by
          intro s hs
          unfold qX12_avenue_J58
          refine ⟨by omega, by omega, ⟨by omega, by omega⟩, hs, ?_⟩
          intro M15 hE
          have i15 : IM b M15 := by rw [hE]; exact i7.up (by omega) (bm_c8.mpr ⟨by omega, by omega⟩)
          refine ⟨⟨by omega, by omega⟩, ?_⟩
          refine sX12_flag (p0 := t0) i15 ?_
          intro x17 p17 _
          have g7 : ∀ j, M15 7 j = M0 7 j := fun j => by rw [hE, up2_n (by decide), k7]
          have g15 : M15 1 15 = M7 1 15 := by rw [hE, up2_n (by decide)]
          have g16 : M15 1 16 = len := by rw [hE, up2_n (by decide), k16]
          rcases ht with ht | ht
          · rcases p7 with q | q
            · have f17 : x17 = 1 := by omega
              have hv1 : vA (M0 7 v1) := by
                have e := q.2.2.1
                rw [h15, h7] at e
                have : x7 = 0 ∨ x7 = 1 := by omega
                rcases this with c | c
                · rw [c] at e; exact Or.inl e.symm
                · rw [c] at e; exact Or.inr e.symm
              rw [f17, ht.1]
              refine ih _ _ _ i15 g7 (by omega) g16 (by omega) (fun i a w => ?_) (Or.inl rfl) (by omega)
              by_cases ci : i = v1
              · rw [ci]; exact hv1
              · exact ha i a (by omega)
            · omega
          · rcases p7 with q | q
            · omega
            · have f17 : x17 = 0 := by omega
              rw [f17, ht.1]
              refine ih _ _ _ i15 g7 (by omega) g16 (by omega) (fun i a w => ha i a (by omega)) (Or.inr ⟨rfl, ?_⟩) (by omega)
              rw [show v1 + 0 = v1 from by omega]
              rcases q.2.2 with w | w
              · exact Or.inl (by omega)
              · refine Or.inr (fun hv => ?_)
                rw [← h7, ← h15] at hv
                rcases hv with u | u
                · exact w 0 (by decide) (by decide) (by rw [u]; rfl)
                · exact w 1 (by decide) (by decide) (by rw [u]; rfl)
        exact ⟨⟨by omega, by omega⟩, ⟨fun _ => J58 _ (Or.inl rfl), fun _ => J58 _ (Or.inr rfl)⟩⟩
      exact ⟨fun c3 => J _ (Or.inr ⟨rfl, c3⟩), fun c3 => J _ (Or.inl ⟨rfl, by omega⟩)⟩
theorem gX12_begins {p1 b : Int} {M : Mem} {Q : Int → Mem → Prop} (hI : IM b M) (hp : 0 ≤ p1 ∧ p1 ≤ 80) (hQ : ∀ M' : Mem, IM b M' → FrJ (fun k j => k = 1 ∧ (j = 14 ∨ j = 15 ∨ j = 16 ∨ j = 17)) M M' → M' 1 15 = 0 → M' 1 16 = min (M 1 14) p1 → M' 1 17 = 0 → M' 1 14 = 0 → Q (M 1 14) M') : qX12_begins p1 M Q := by
  have b14 := bm_c1_14.mp (hI.bx 1 14)
  unfold qX12_begins
  intro x1 e1 _ M2 h2 M3 h3 M4 h4 x5 e5 _ M6 h6
  have i2 : IM b M2 := by rw [h2]; exact hI.up (by omega) (bm_c1_14.mpr (by decide))
  have i3 : IM b M3 := by rw [h3]; exact i2.up (by omega) (bm_c1_15.mpr (by decide))
  have i4 : IM b M4 := by rw [h4]; exact i3.up (by omega) (by simp [BM])
  have i6 : IM b M6 := by rw [h6]; exact i4.up (by omega) (bm_c1_16.mpr ⟨by omega, by omega⟩)
  rw [e1]
  refine hQ _ i6 ?_ ?_ ?_ ?_ ?_
  · rw [h6, h4, h3, h2]
    exact (((FrJ.rf.up (by omega)).up (by omega)).up (by omega)).up (by omega)
  · rw [h6, up2_j (by decide), h4, up2_j (by decide), h3, up2_s]
  · rw [h6, up2_s, e5, e1]
  · rw [h6, up2_j (by decide), h4, up2_s]
  · rw [h6, up2_j (by decide), h4, up2_j (by decide), h3, up2_j (by decide), h2, up2_s]
theorem gX12_avenue_L99 {X122 : Int → Mem → Prop} {Q : Int → Mem → Prop} {b v1 : Int} (hv1 : 0 ≤ v1 ∧ v1 ≤ 30) (hX : ∀ M' : Mem, IM b M' → X122 v1 M') : ∀ (n : Nat) (v3 : Int) (M : Mem), IM b M → (0 ≤ v3 ∧ v3 ≤ 30) → 30 - v3 < (n : Int) → qX12_avenue_L99 X122 Q n v1 v3 M := by
  intro n
  induction n with
  | zero => intro v3 M hI hv hm; exact absurd hm (by omega)
  | succ n ih =>
    intro v3 M hI hv hm
    rw [qX12_avenue_L99]
    refine ⟨⟨by omega, by omega⟩, ⟨by omega, by omega⟩, ⟨fun c => hX _ hI, fun c => ⟨by omega, by omega, ?_⟩⟩⟩
    intro x32 e32 _
    have b32 : 0 ≤ x32 ∧ x32 ≤ 1 := by rw [e32]; exact bm_c8.mp (hI.bx _ _)
    refine ⟨by omega, ?_⟩
    intro M34 h34
    exact ih _ _ (by rw [h34]; exact hI.up (by omega) (by simp [BM])) (by omega) (by omega)
theorem gX12_avenue_L155 {Q : Int → Mem → Prop} {b v1 : Int} (hv1 : 0 ≤ v1 ∧ v1 ≤ 30) (hQ : ∀ M' : Mem, IM b M' → Q v1 M') : ∀ (n : Nat) (v3 : Int) (M : Mem), IM b M → (0 ≤ v3 ∧ v3 ≤ 3) → 3 - v3 < (n : Int) → qX12_avenue_L155 Q n v1 v3 M := by
  intro n
  induction n with
  | zero => intro v3 M hI hv hm; exact absurd hm (by omega)
  | succ n ih =>
    intro v3 M hI hv hm
    rw [qX12_avenue_L155]
    refine ⟨⟨by omega, by omega⟩, ⟨fun c => ⟨⟨by omega, by omega⟩, hQ _ hI⟩, fun c => ⟨by omega, by omega, ?_⟩⟩⟩
    intro M46 h46
    exact ih _ _ (by rw [h46]; exact hI.up (by omega) (by simp [BM])) (by omega) (by omega)
theorem gX12_avenue {b : Int} {M : Mem} {Q : Int → Mem → Prop} (hI : IM b M) (hb : b + 1 ≤ 2000000000) (hQ : ∀ (q : Int) (M' : Mem), IM (b + 1) M' → AV (M 7) (M 1 14) q → Q (avz (M 1 14) q) M') : qX12_avenue M Q := by
  have bL := bm_c1_14.mp (hI.bx 1 14)
  have hbn := hI.nn
  unfold qX12_avenue
  intro M1 h1
  have i1 : IM b M1 := by rw [h1]; exact hI.up (by omega) (by simp [BM])
  have l1 : M1 1 14 = M 1 14 := by rw [h1, up2_j (by decide)]
  refine gX12_begins (p1 := 80) i1 (by omega) ?_
  intro M2 i2 f2 a15 a16 _ _ _
  rw [l1] at a16
  refine ⟨32, gX12_avenue_L16 (b := b) (M0 := M) (len := M 1 14) bL ?_ _ _ _ _ i2 (fun j => by rw [f2 7 j (by omega), h1, up2_n (by decide)]) a15 (by omega) (by omega) (fun i a q => by omega) (Or.inl rfl) (by omega)⟩
  intro q M' i' hq k15 k16
  have hb' := hq.1
  have H := fun (M'' : Mem) (h : IM (b + 1) M'') => hQ q M'' h hq
  unfold avz at H
  show qX12_avenue_J69 Q q M'
  unfold qX12_avenue_J69
  refine ⟨⟨by omega, by omega⟩, ⟨fun c => ?_, fun c => ?_⟩⟩
  · intro x21 e21 _
    refine ⟨⟨by omega, by omega⟩, ?_⟩
    have := H M' (i'.mono (by omega))
    rw [if_neg (by omega)] at this
    rw [show x21 = q from by omega]
    exact this
  · intro x23 e23 _ x24 e24 _
    refine ⟨fun c2 => ?_, fun c2 => ?_⟩
    · intro M26 h26
      have i26 : IM (b + 1) M26 := by rw [h26]; exact (i'.mono (by omega)).up (by omega) (bm_c1_3.mpr ⟨by omega, by omega⟩)
      refine ⟨31, gX12_avenue_L99 (b := b + 1) (by omega) ?_ _ _ _ i26 (by omega) (by omega)⟩
      intro M35 i35 M36 h36 M37 h37 M38 h38 M39 h39 M40 h40
      have i36 : IM (b + 1) M36 := by rw [h36]; exact i35.up (by omega) (bm_c1_4.mpr (by decide))
      have i37 : IM (b + 1) M37 := by rw [h37]; exact i36.up (by omega) (bm_c1_5.mpr (by decide))
      have i38 : IM (b + 1) M38 := by rw [h38]; exact i37.up (by omega) ((bm_n (Or.inl rfl)).mpr ⟨by omega, by omega, by omega, by omega⟩)
      have i39 : IM (b + 1) M39 := by rw [h39]; exact i38.up (by omega) ((bm_n (Or.inl rfl)).mpr ⟨by omega, by omega, by omega, by omega⟩)
      have i40 : IM (b + 1) M40 := by rw [h40]; exact i39.up (by omega) (bm_c1_28.mpr (by decide))
      refine ⟨4, gX12_avenue_L155 (b := b + 1) (by omega) ?_ _ _ _ i40 (by omega) (by omega)⟩
      intro M'' i''
      have := H M'' i''
      rw [if_pos ⟨by omega, by omega⟩] at this
      exact this
    · intro x48 e48 _
      refine ⟨⟨by omega, by omega⟩, ?_⟩
      have := H M' (i'.mono (by omega))
      rw [if_neg (by omega)] at this
      rw [show x48 = q from by omega]
      exact this
