/-! UNDO, KEEP, AGAIN; one hearse, one mourner -/
theorem STA.undo {E MX MM MX' MM' : Mem} (h : STA E MX MM) (hE : EBx E) (hI : IX MX) (hn : 0 < MM 1 28) (kx : Ks (fun k j => (1 ≤ k ∧ k ≤ 7) ∨ (k = 163 ∧ j = 2)) MX MX') (x2 : MX' 163 2 = MX 163 2 - 1) (xs : ∀ (E : Mem) (r : Int → Int), SC E MX (50 + 7 * ((MX 163 1 + (MX 163 2 - 1)) % 15).toNat) r → SC E MX' 1 r) (km : FrJ (fun k j => k = 5 ∨ (k = 1 ∧ (j = 0 ∨ j = 28))) MM MM') (m2 : MM' 1 28 = MM 1 28 - 1) (ms : ∀ j, 0 ≤ j → j < 38 → MM' 5 j = MM 15 (38 * (MM 1 28 - 1) + j)) : STA E MX' MM' := by
  obtain ⟨a, b, c, d, e, f⟩ := h
  have bb := bx_c163_1.mp (hI.bx 163 1)
  obtain ⟨s, w⟩ := e.2 (MM 1 28 - 1) (by omega) (by omega)
  rw [← e.1] at s
  refine ⟨a.fr (kx _ _ (by omega)) (kx _ _ (by omega)) (kx _ _ (by omega)) (fun j => kx 159 j (by omega)), b.kx hI (kx _ _ (by omega)) (fun k j q => kx k j (by omega)), (xs E _ s).cg hE (fun j p q => ?_), w.cg hE (fun j p q => ms j p q), ⟨by rw [x2, m2, e.1], fun i p q => ?_⟩, f.fr (fun k j q => kx k j (by omega)) (fun k j q => km k j (by omega))⟩
  · rw [ms j p q, e.1]
    rfl
  · obtain ⟨s', w'⟩ := e.2 i p (by omega)
    rw [kx 163 1 (by omega)]
    have e15 : MM' 15 = MM 15 := funext fun j => km 15 j (by omega)
    rw [e15]
    exact ⟨s'.fr (fun t j ht => kx _ j (by omega)), w'⟩
theorem gX11_undo {M : Mem} {Q : Int → Mem → Prop} (hI : IX M) (hQ : ∀ (z : Int) (M' : Mem), IX M' → Ks (fun k j => (1 ≤ k ∧ k ≤ 7) ∨ (k = 163 ∧ j = 2)) M M' → (M 163 2 = 0 ∧ z = -1 ∧ M' = M ∨ 0 < M 163 2 ∧ z = M 163 2 - 1 ∧ M' 163 2 = M 163 2 - 1 ∧ ∀ (E : Mem) (r : Int → Int), SC E M (50 + 7 * ((M 163 1 + (M 163 2 - 1)) % 15).toNat) r → SC E M' 1 r) → Q z M') : qX11_undo M Q := by
  unfold qX11_undo
  refine gX1_takeBack hI (show isS 1 by decide) (by decide) ?_
  intro z M' i' k' p' _ _
  refine ⟨fun c => ?_, fun c => ?_⟩
  · rcases p' with q | q
    · exact hQ _ _ i' k' (Or.inl ⟨q.1, rfl, q.2.2⟩)
    · omega
  · intro x3 e3 _
    rcases p' with q | q
    · omega
    · exact hQ _ _ i' k' (Or.inr ⟨q.1, by omega, q.2.2.1, q.2.2.2⟩)
theorem gX11_keepC {p1 : Int} {M : Mem} {Q : Int → Mem → Prop} (hI : IX M) (hQ1 : 0 ≤ p1 ∧ p1 ≤ 2 → ∀ M' : Mem, IX M' → Ks (fun k j => (29 + 7 * p1.toNat ≤ k ∧ k ≤ 35 + 7 * p1.toNat) ∨ (k = 166 ∧ j = p1)) M M' → M' 166 p1 = 1 → (∀ (E : Mem) (r : Int → Int), SC E M 1 r → SC E M' (29 + 7 * p1.toNat) r) → M' (29 + 7 * p1.toNat) 6 = M 1 6 ∧ M' (29 + 7 * p1.toNat) 7 = M 1 7 → Q 1 M') (hQ2 : ¬ (0 ≤ p1 ∧ p1 ≤ 2) → Q 0 M) : qX11_keep p1 M Q := by
  unfold qX11_keep
  refine ⟨fun c => hQ2 (by omega), fun c => ⟨fun c2 => ⟨by omega, by omega, ?_⟩, fun c2 => hQ2 (by omega)⟩⟩
  refine gX6_copyFrom hI (isS_kept (e := p1) (by omega) (by omega)) (show isS 1 by decide) (by omega) ?_
  intro M5 i5 k5 s5 d5 M6 h6
  have i6 : IX M6 := by rw [h6]; exact i5.up (by decide) (by simp [BX])
  refine hQ1 (by omega) M6 i6 ?_ (by rw [h6, up2_s]) (fun E r h => ?_) ?_
  · rw [h6]
    exact (k5.mono (by intro k j h; omega)).wr (Or.inr ⟨rfl, rfl⟩)
  · exact (s5 E r h).fr (fun i j hi => by rw [h6, up2_n (by omega)])
  · rw [h6, up2_n (by omega)]
    exact d5
theorem gX12_keep_L38 {p1 b : Int} {Q : Int → Mem → Prop} {M0 : Mem} (hp : 0 ≤ p1 ∧ p1 ≤ 2) (hQ : ∀ M' : Mem, IM b M' → FrJ (fun k j => k = 31 ∧ 38 * p1 ≤ j ∧ j < 38 * p1 + 38) M0 M' → (∀ j, 0 ≤ j → j < 38 → M' 31 (38 * p1 + j) = M0 5 j) → Q 1 M') : ∀ (n : Nat) (v2 : Int) (M : Mem), IM b M → FrJ (fun k j => k = 31 ∧ 38 * p1 ≤ j ∧ j < 38 * p1 + 38) M0 M → (∀ j, 0 ≤ j → j < v2 → M 31 (38 * p1 + j) = M0 5 j) → (0 ≤ v2 ∧ v2 ≤ 38) → 38 - v2 < (n : Int) → qX12_keep_L38 p1 Q n v2 M := by
  intro n
  induction n with
  | zero => intro v2 M hI hF hs hv hm; exact absurd hm (by omega)
  | succ n ih =>
    intro v2 M hI hF hs hv hm
    rw [qX12_keep_L38]
    refine ⟨⟨by omega, by omega⟩, ⟨fun c => hQ _ hI hF (fun j p q => hs j p (by omega)), fun c => ⟨by omega, by omega, ?_⟩⟩⟩
    intro x13 e13 _
    refine ⟨by omega, by omega, ?_⟩
    intro M16 h16
    have hn : BN b v2 x13 := by rw [e13]; exact (bm_n (Or.inl rfl)).mp (hI.bx _ _)
    refine ih _ _ (by rw [h16]; exact hI.up (by omega) (bm_c31.mpr (by rw [show (38 * p1 + v2) % 38 = v2 from by omega]; exact hn))) (by rw [h16]; exact hF.up ⟨rfl, by omega, by omega⟩) ?_ (by omega) (by omega)
    intro j p q
    rw [h16]
    by_cases cj : j = v2
    · rw [cj, up2_s, e13]
      exact hF 5 v2 (by omega)
    · rw [up2_j (by omega)]
      exact hs j p (by omega)
theorem gX12_keepC {p1 b : Int} {M : Mem} {Q : Int → Mem → Prop} (hI : IM b M) (hQ1 : 0 ≤ p1 ∧ p1 ≤ 2 → ∀ M' : Mem, IM b M' → FrJ (fun k j => (k = 31 ∧ 38 * p1 ≤ j ∧ j < 38 * p1 + 38) ∨ (k = 29 ∧ j = p1) ∨ (k = 30 ∧ j = p1) ∨ (k = 1 ∧ j = 0)) M M' → M' 29 p1 = 1 → M' 30 p1 = M 1 6 → (∀ j, 0 ≤ j → j < 38 → M' 31 (38 * p1 + j) = M 5 j) → Q 1 M') (hQ2 : ¬ (0 ≤ p1 ∧ p1 ≤ 2) → ∀ M' : Mem, IM b M' → FrJ (fun k j => k = 1 ∧ j = 0) M M' → Q 0 M') : qX12_keep p1 M Q := by
  unfold qX12_keep
  intro M1 h1
  have i1 : IM b M1 := by rw [h1]; exact hI.up (by omega) (by simp [BM])
  have F1 : FrJ (fun k j => k = 1 ∧ j = 0) M M1 := by rw [h1]; exact FrJ.rf.up ⟨rfl, rfl⟩
  refine sX12_in (p0 := p1) (p2 := 0) (p4 := 2) i1 ?_
  intro z hz _ _
  refine ⟨fun c => ?_, fun c => hQ2 (by have := hz.2.2 c; omega) M1 i1 F1⟩
  have cp := hz.2.1 (by rcases hz.1 with q | q <;> omega)
  refine ⟨by omega, by omega, ?_⟩
  intro M6 h6 x7 e7 _ M8 h8
  have i6 : IM b M6 := by rw [h6]; exact i1.up (by omega) (by simp [BM])
  have i8 : IM b M8 := by rw [h8]; exact i6.up (by omega) (by simp [BM])
  have F8 : FrJ (fun k j => (k = 31 ∧ 38 * p1 ≤ j ∧ j < 38 * p1 + 38) ∨ (k = 29 ∧ j = p1) ∨ (k = 30 ∧ j = p1) ∨ (k = 1 ∧ j = 0)) M M8 := by
    rw [h8, h6]
    exact ((F1.mono (fun _ _ q => Or.inr (Or.inr (Or.inr q)))).up (Or.inr (Or.inl ⟨rfl, rfl⟩))).up (Or.inr (Or.inr (Or.inl ⟨rfl, rfl⟩)))
  have g29 : M8 29 p1 = 1 := by rw [h8, up2_n (by decide), h6, up2_s]
  have g30 : M8 30 p1 = M 1 6 := by rw [h8, up2_s, e7, h6, up2_n (by decide)]; exact F1 1 6 (by omega)
  refine ⟨39, gX12_keep_L38 (b := b) (M0 := M8) cp ?_ _ _ _ i8 FrJ.rf (fun j p q => by omega) (by omega) (by omega)⟩
  intro M' i' hF hs
  refine hQ1 cp M' i' (F8.tr (hF.mono (fun _ _ q => Or.inl q))) (by rw [hF 29 p1 (by omega)]; exact g29) (by rw [hF 30 p1 (by omega)]; exact g30) (fun j p q => ?_)
  rw [hs j p q]
  exact F8 5 j (by omega)
theorem STA.keep {E MX MM MX' MM' : Mem} {p1 b : Int} (h : STA E MX MM) (hE : EBx E) (hI : IX MX) (cp : 0 ≤ p1 ∧ p1 ≤ 2) (kx : Ks (fun k j => (29 + 7 * p1.toNat ≤ k ∧ k ≤ 35 + 7 * p1.toNat) ∨ (k = 166 ∧ j = p1)) MX MX') (x1 : MX' 166 p1 = 1) (xs : ∀ (E : Mem) (r : Int → Int), SC E MX 1 r → SC E MX' (29 + 7 * p1.toNat) r) (xc : MX' (29 + 7 * p1.toNat) 6 = MX 1 6 ∧ MX' (29 + 7 * p1.toNat) 7 = MX 1 7) (km : FrJ (fun k j => (k = 31 ∧ 38 * p1 ≤ j ∧ j < 38 * p1 + 38) ∨ (k = 29 ∧ j = p1) ∨ (k = 30 ∧ j = p1) ∨ (k = 1 ∧ j = 0)) MM MM') (m1 : MM' 29 p1 = 1) (m2 : MM' 30 p1 = MM 1 6) (ms : ∀ j, 0 ≤ j → j < 38 → MM' 31 (38 * p1 + j) = MM 5 j) : STA E MX' MM' := by
  obtain ⟨a, b, c, d, e, f⟩ := h
  have k5 : MM' 5 = MM 5 := funext fun j => km 5 j (by omega)
  have h6 : MX 1 6 = E 1 4 := c.1
  have h7 : MX 1 7 = E 1 5 := c.2.1
  have g6 : MM' 1 6 = MM 1 6 := km 1 6 (by omega)
  refine ⟨a.fr (kx _ _ (by omega)) (kx _ _ (by omega)) (kx _ _ (by omega)) (fun j => kx 159 j (by omega)), b.kx hI (kx _ _ (by omega)) (fun k j q => kx k j (by omega)), by rw [k5]; exact c.fr (fun t j ht => kx _ j (by omega)), by rw [k5]; exact d, e.fr hE (fun k j q => kx k j (by omega)) (km 1 28 (by omega)) (fun j _ _ => km 15 j (by omega)) (bx_c163_1.mp (hI.bx 163 1)), ?_⟩
  intro i p q
  by_cases ci : i = p1
  · subst ci
    rw [x1, m1, m2, g6, xc.1, xc.2, h6, h7]
    refine ⟨⟨fun u => absurd u (by decide), fun u => absurd u (by decide)⟩, fun _ => ⟨by omega, ⟨by omega, by omega⟩, fun _ => ⟨(xs E _ c).cg hE (fun j p' q' => ms j p' q'), d.cg hE (fun j p' q' => ms j p' q')⟩, fun u => by omega⟩⟩
  · obtain ⟨u, v⟩ := f i p q
    rw [kx 166 i (by omega), km 29 i (by omega), km 30 i (by omega), g6, kx (29 + 7 * i.toNat) 6 (by omega), kx (29 + 7 * i.toNat) 7 (by omega)]
    refine ⟨u, fun w => ?_⟩
    obtain ⟨b1, b2, b3, b4⟩ := v w
    have es : ∀ j, 0 ≤ j → j < 38 → sg (MM' 31) i j = sg (MM 31) i j := fun j p' q' => km 31 _ (by omega)
    exact ⟨b1, b2, fun w2 => ⟨((b3 w2).1.fr (fun t j ht => kx _ j (by omega))).cg hE es, (b3 w2).2.cg hE es⟩, b4⟩
theorem gX11_again {p1 : Int} {M : Mem} {Q : Int → Mem → Prop} (hI : IX M) (hQ1 : 0 ≤ p1 ∧ p1 ≤ 2 → M 166 p1 ≠ 0 → M (29 + 7 * p1.toNat) 6 = M 1 6 → M (29 + 7 * p1.toNat) 7 = M 1 7 → ∀ M' : Mem, IX M' → Ks (fun k j => (1 ≤ k ∧ k ≤ 7) ∨ (k = 163 ∧ j = 2)) M M' → M' 163 2 = 0 → (∀ (E : Mem) (r : Int → Int), SC E M (29 + 7 * p1.toNat) r → SC E M' 1 r) → Q 1 M') (hQ2 : ¬ ((0 ≤ p1 ∧ p1 ≤ 2) ∧ M 166 p1 ≠ 0 ∧ M (29 + 7 * p1.toNat) 6 = M 1 6 ∧ M (29 + 7 * p1.toNat) 7 = M 1 7) → Q 0 M) : qX11_again p1 M Q := by
  unfold qX11_again
  refine ⟨fun c => hQ2 (by omega), fun c => ⟨fun c2 => hQ2 (by omega), fun c2 => ⟨by omega, by omega, ?_⟩⟩⟩
  intro x5 e5 _
  refine ⟨fun c3 => ?_, fun c3 => hQ2 (by omega)⟩
  intro x7 e7 _ x8 e8 _
  refine ⟨fun c4 => hQ2 (by omega), fun c4 => ?_⟩
  intro x10 e10 _ x11 e11 _
  refine ⟨fun c5 => ?_, fun c5 => hQ2 (by omega)⟩
  refine gX6_copyFrom hI (show isS 1 by decide) (isS_kept (e := p1) (by omega) (by omega)) (by omega) ?_
  intro M13 i13 k13 s13 _
  unfold qX1_clear
  intro M14 h14
  refine hQ1 (by omega) (by omega) (by omega) (by omega) M14 (by rw [h14]; exact i13.up (by decide) (bx_c163_2.mpr (by decide))) ?_ (by rw [h14, up2_s]) (fun E r h => ?_)
  · rw [h14]
    exact (k13.mono (fun k j h => Or.inl (by omega))).wr (Or.inr ⟨rfl, rfl⟩)
  · exact (s13 E r h).fr (fun i j hi => by rw [h14, up2_n (by omega)])
theorem gX12_again_L43 {p1 b : Int} {Q : Int → Mem → Prop} {M0 : Mem} (hp : 0 ≤ p1 ∧ p1 ≤ 2) (hQ : ∀ M' : Mem, IM b M' → FrJ (fun k j => k = 5 ∨ (k = 1 ∧ j = 28)) M0 M' → M' 1 28 = 0 → (∀ j, 0 ≤ j → j < 38 → M' 5 j = M0 31 (38 * p1 + j)) → Q 1 M') : ∀ (n : Nat) (v2 : Int) (M : Mem), IM b M → FrJ (fun k j => k = 5 ∨ (k = 1 ∧ j = 28)) M0 M → (∀ j, 0 ≤ j → j < v2 → M 5 j = M0 31 (38 * p1 + j)) → (0 ≤ v2 ∧ v2 ≤ 38) → 38 - v2 < (n : Int) → qX12_again_L43 p1 Q n v2 M := by
  intro n
  induction n with
  | zero => intro v2 M hI hF hs hv hm; exact absurd hm (by omega)
  | succ n ih =>
    intro v2 M hI hF hs hv hm
    rw [qX12_again_L43]
    refine ⟨⟨by omega, by omega⟩, ⟨fun c => ?_, fun c => ⟨by omega, by omega, ?_⟩⟩⟩
    · intro M13 h13
      refine hQ _ (by rw [h13]; exact hI.up (by omega) (bm_c1_28.mpr (by decide))) (by rw [h13]; exact hF.up (Or.inr ⟨rfl, rfl⟩)) (by rw [h13, up2_s]) (fun j p q => ?_)
      rw [h13, up2_n (by decide)]
      exact hs j p (by omega)
    · intro x16 e16 _
      refine ⟨by omega, by omega, ?_⟩
      intro M19 h19
      have hn : BN b v2 x16 := by
        have r := bm_c31.mp (hI.bx 31 (38 * p1 + v2))
        rw [← e16, show (38 * p1 + v2) % 38 = v2 from by omega] at r
        exact r
      refine ih _ _ (by rw [h19]; exact hI.up (by omega) ((bm_n (Or.inl rfl)).mpr hn)) (by rw [h19]; exact hF.up (Or.inl rfl)) ?_ (by omega) (by omega)
      intro j p q
      rw [h19]
      by_cases cj : j = v2
      · rw [cj, up2_s, e16]
        exact hF 31 _ (by omega)
      · rw [up2_j cj]
        exact hs j p (by omega)
theorem gX12_again {p1 b : Int} {M : Mem} {Q : Int → Mem → Prop} (hI : IM b M) (hQ1 : 0 ≤ p1 ∧ p1 ≤ 2 → M 29 p1 ≠ 0 → M 30 p1 = M 1 6 → ∀ M' : Mem, IM b M' → FrJ (fun k j => k = 5 ∨ (k = 1 ∧ (j = 0 ∨ j = 28))) M M' → M' 1 28 = 0 → (∀ j, 0 ≤ j → j < 38 → M' 5 j = M 31 (38 * p1 + j)) → Q 1 M') (hQ2 : ¬ ((0 ≤ p1 ∧ p1 ≤ 2) ∧ M 29 p1 ≠ 0 ∧ M 30 p1 = M 1 6) → ∀ M' : Mem, IM b M' → FrJ (fun k j => k = 1 ∧ j = 0) M M' → Q 0 M') : qX12_again p1 M Q := by
  unfold qX12_again
  intro M1 h1
  have i1 : IM b M1 := by rw [h1]; exact hI.up (by omega) (by simp [BM])
  have F1 : FrJ (fun k j => k = 1 ∧ j = 0) M M1 := by rw [h1]; exact FrJ.rf.up ⟨rfl, rfl⟩
  refine sX12_in (p0 := p1) (p2 := 0) (p4 := 2) i1 ?_
  intro z hz _ _
  refine ⟨fun c => hQ2 (by have := hz.2.2 c; omega) M1 i1 F1, fun c => ?_⟩
  have cp := hz.2.1 (by rcases hz.1 with q | q <;> omega)
  refine ⟨by omega, by omega, ?_⟩
  intro x6 e6 _
  have f6 : x6 = M 29 p1 := by rw [e6]; exact F1 29 p1 (by omega)
  refine ⟨fun c2 => hQ2 (by omega) M1 i1 F1, fun c2 => ?_⟩
  intro x8 e8 _ x9 e9 _
  have f8 : x8 = M 30 p1 := by rw [e8]; exact F1 30 p1 (by omega)
  have f9 : x9 = M 1 6 := by rw [e9]; exact F1 1 6 (by omega)
  refine ⟨fun c3 => ⟨39, gX12_again_L43 (b := b) (M0 := M1) cp ?_ _ _ _ i1 FrJ.rf (fun j p q => by omega) (by omega) (by omega)⟩, fun c3 => hQ2 (by omega) M1 i1 F1⟩
  intro M' i' hF h28 hs
  refine hQ1 cp (by omega) (by omega) M' i' ((F1.mono (by intro k j h; omega)).tr (hF.mono (by intro k j h; omega))) h28 (fun j p q => ?_)
  rw [hs j p q]
  exact F1 31 _ (by omega)
theorem STA.again {E MX MM MX' MM' : Mem} {p1 : Int} (h : STA E MX MM) (hE : EBx E) (hI : IX MX) (cp : 0 ≤ p1 ∧ p1 ≤ 2) (hk : MX 166 p1 ≠ 0) (hc : MM 30 p1 = MM 1 6) (kx : Ks (fun k j => (1 ≤ k ∧ k ≤ 7) ∨ (k = 163 ∧ j = 2)) MX MX') (x2 : MX' 163 2 = 0) (xs : ∀ (E : Mem) (r : Int → Int), SC E MX (29 + 7 * p1.toNat) r → SC E MX' 1 r) (km : FrJ (fun k j => k = 5 ∨ (k = 1 ∧ (j = 0 ∨ j = 28))) MM MM') (m2 : MM' 1 28 = 0) (ms : ∀ j, 0 ≤ j → j < 38 → MM' 5 j = MM 31 (38 * p1 + j)) : STA E MX' MM' := by
  obtain ⟨a, b, c, d, e, f⟩ := h
  obtain ⟨s, w⟩ := ((f p1 cp.1 (by omega)).2 hk).2.2.1 hc
  exact ⟨a.fr (kx _ _ (by omega)) (kx _ _ (by omega)) (kx _ _ (by omega)) (fun j => kx 159 j (by omega)), b.kx hI (kx _ _ (by omega)) (fun k j q => kx k j (by omega)), (xs E _ s).cg hE (fun j p q => ms j p q), w.cg hE (fun j p q => ms j p q), HIS.nil x2 m2, f.fr (fun k j q => kx k j (by omega)) (fun k j q => km k j (by omega))⟩
/-- both answer again alike -/
theorem KEP.eq {E MX MM : Mem} (h : STA E MX MM) {p1 : Int} (cp : 0 ≤ p1 ∧ p1 ≤ 2) : (MX 166 p1 ≠ 0 ∧ MX (29 + 7 * p1.toNat) 6 = MX 1 6 ∧ MX (29 + 7 * p1.toNat) 7 = MX 1 7) ↔ (MM 29 p1 ≠ 0 ∧ MM 30 p1 = MM 1 6) := by
  obtain ⟨a, b, c, d, e, f⟩ := h
  obtain ⟨u, v⟩ := f p1 cp.1 (by omega)
  have h6 : MX 1 6 = E 1 4 := c.1
  have h7 : MX 1 7 = E 1 5 := c.2.1
  refine ⟨fun ⟨q1, q2, q3⟩ => ?_, fun ⟨q1, q2⟩ => ?_⟩
  · obtain ⟨b1, b2, b3, b4⟩ := v q1
    refine ⟨fun w => q1 (u.mpr w), ?_⟩
    rcases Int.lt_or_le (MM 30 p1) (MM 1 6) with w | w
    · rcases b4 w with t | t <;> omega
    · omega
  · have q0 : MX 166 p1 ≠ 0 := fun w => q1 (u.mp w)
    obtain ⟨b1, b2, b3, b4⟩ := v q0
    obtain ⟨s, w⟩ := b3 q2
    exact ⟨q0, by rw [s.1, h6], by rw [s.2.1, h7]⟩
-- one hearse, one mourner
