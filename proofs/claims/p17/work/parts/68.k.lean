/-! READING THE TEXT: digits and numbers, the same on both sides -/
def vW (c : Int) : Prop := 48 ≤ c ∧ c ≤ 57
def nmV (f : Int → Int) (a : Int) : Nat → Int
  | 0 => 0
  | k + 1 => 10 * nmV f a k + f (a + k) - 48
theorem nmV_cg {f g : Int → Int} {a : Int} (k : Nat) (h : ∀ i : Int, 0 ≤ i → i < k → f (a + i) = g (a + i)) : nmV f a k = nmV g a k := by
  induction k with
  | zero => rfl
  | succ k ih =>
    unfold nmV
    rw [ih (fun i p q => h i p (by omega)), h k (by omega) (by omega)]
theorem nmV_b {f : Int → Int} {a : Int} (k : Nat) (h : ∀ i : Int, 0 ≤ i → i < k → vW (f (a + i))) : 0 ≤ nmV f a k ∧ (k ≤ 1 → nmV f a k ≤ 9) ∧ (k ≤ 2 → nmV f a k ≤ 99) ∧ (k ≤ 3 → nmV f a k ≤ 999) := by
  induction k with
  | zero => exact ⟨Int.le_refl _, fun _ => by show (0 : Int) ≤ 9; decide, fun _ => by show (0 : Int) ≤ 99; decide, fun _ => by show (0 : Int) ≤ 999; decide⟩
  | succ k ih =>
    have i := ih (fun i p q => h i p (by omega))
    have d := h k (by omega) (by omega)
    have d1 : 48 ≤ f (a + k) := d.1
    have d2 : f (a + k) ≤ 57 := d.2
    have z0 : k = 0 → nmV f a k = 0 := fun e => by rw [e]; rfl
    unfold nmV
    refine ⟨by omega, fun q => ?_, fun q => ?_, fun q => ?_⟩
    · have := z0 (by omega)
      omega
    · have := i.2.1 (by omega)
      omega
    · have := i.2.2.1 (by omega)
      omega
theorem nmV_s {f : Int → Int} {a k : Int} (h : 0 ≤ k) : nmV f a (k + 1).toNat = 10 * nmV f a k.toNat + f (a + k) - 48 := by
  rw [show (k + 1).toNat = k.toNat + 1 from by omega]
  show 10 * nmV f a k.toNat + f (a + (k.toNat : Nat)) - 48 = _
  rw [show ((k.toNat : Nat) : Int) = k from by omega]
/-- a number of p digits at most stands at a: z (-1: none), a' is behind it -/
def NUM (f : Int → Int) (a t p z a' : Int) : Prop := (z = -1 ∧ a' = a ∧ ¬ (a < t ∧ vW (f a))) ∨ (∃ k : Int, (1 ≤ k ∧ k ≤ p) ∧ a' = a + k ∧ a + k ≤ t ∧ (∀ i, 0 ≤ i → i < k → vW (f (a + i))) ∧ (k = p ∨ t ≤ a + k ∨ ¬ vW (f (a + k))) ∧ z = nmV f a k.toNat)
theorem NUM.b {f : Int → Int} {a t p z a' : Int} (h : NUM f a t p z a') (hp : p ≤ 3) : -1 ≤ z ∧ z ≤ 999 ∧ (p = 1 → z ≤ 9) ∧ (p = 2 → z ≤ 99) ∧ a ≤ a' ∧ (a ≤ t → a' ≤ t) ∧ (0 ≤ z → a + 1 ≤ a') ∧ (z < 0 → a' = a) := by
  rcases h with ⟨h1, h2, _⟩ | ⟨k, hk, h2, h3, h4, _, h6⟩
  · exact ⟨by omega, by omega, fun _ => by omega, fun _ => by omega, by omega, fun _ => by omega, fun _ => by omega, fun _ => by omega⟩
  · have b := nmV_b (f := f) (a := a) k.toNat (fun i p q => h4 i p (by omega))
    rw [← h6] at b
    exact ⟨by omega, b.2.2.2 (by omega), fun e => b.2.1 (by omega), fun e => b.2.2.1 (by omega), by omega, fun _ => by omega, fun _ => by omega, fun _ => by omega⟩
theorem NUM.uq {f g : Int → Int} {a t p z a' z2 a2 : Int} (h : NUM f a t p z a') (h2 : NUM g a t p z2 a2) (hf : ∀ j, a ≤ j → j < t → f j = g j) : z = z2 ∧ a' = a2 := by
  rcases h with ⟨h1, h3, hn⟩ | ⟨k, hk, h3, h4, h5, h6, h7⟩
  · rcases h2 with ⟨g1, g3, gn⟩ | ⟨k2, gk, g3, g4, g5, g6, g7⟩
    · omega
    · exfalso
      have := g5 0 (by omega) (by omega)
      rw [show a + 0 = a from by omega] at this
      exact hn ⟨by omega, by rw [hf a (by omega) (by omega)]; exact this⟩
  · rcases h2 with ⟨g1, g3, gn⟩ | ⟨k2, gk, g3, g4, g5, g6, g7⟩
    · exfalso
      have := h5 0 (by omega) (by omega)
      rw [show a + 0 = a from by omega] at this
      exact gn ⟨by omega, by rw [← hf a (by omega) (by omega)]; exact this⟩
    · have ek : k = k2 := by
        rcases Int.lt_or_le k k2 with w | w
        · exfalso
          have := g5 k (by omega) w
          rcases h6 with c | c | c
          · omega
          · omega
          · exact c (by rw [hf (a + k) (by omega) (by omega)]; exact this)
        · rcases Int.lt_or_le k2 k with w2 | w2
          · exfalso
            have := h5 k2 (by omega) w2
            rcases g6 with c | c | c
            · omega
            · omega
            · exact c (by rw [← hf (a + k2) (by omega) (by omega)]; exact this)
          · omega
      subst ek
      refine ⟨?_, by omega⟩
      rw [h7, g7]
      exact nmV_cg _ (fun i p q => hf _ (by omega) (by omega))
abbrev kA (k : Nat) (j : Int) : Prop := k = 156 ∧ j = 2
theorem gX9_look {M : Mem} {Q : Int → Mem → Prop} (hI : IX M) (hQ : ∀ z : Int, (M 156 2 < M 156 3 ∧ z = M 157 (M 156 2) ∨ M 156 3 ≤ M 156 2 ∧ z = -1) → Q z M) : qX9_look M Q := by
  unfold qX9_look
  intro x1 e1 _ x2 e2 _
  have b1 : 0 ≤ x1 ∧ x1 ≤ 80 := by rw [e1]; exact bx_c156_2.mp (hI.bx _ _)
  have b2 : 0 ≤ x2 ∧ x2 ≤ 80 := by rw [e2]; exact bx_c156_3.mp (hI.bx _ _)
  refine ⟨fun c => hQ _ (Or.inr ⟨by omega, rfl⟩), fun c => ?_⟩
  intro x4 e4 _
  refine ⟨by omega, by omega, ?_⟩
  intro x7 e7 _
  exact hQ _ (Or.inl ⟨by omega, by rw [e7, e4]⟩)
theorem gX9_pass {M : Mem} {Q : Mem → Prop} (hI : IX M) (hQ : ∀ M' : Mem, IX M' → Ks kA M M' → (M 156 2 < M 156 3 ∧ M' 156 2 = M 156 2 + 1 ∨ M 156 3 ≤ M 156 2 ∧ M' 156 2 = M 156 2) → Q M') : qX9_pass M Q := by
  unfold qX9_pass
  intro x1 e1 _ x2 e2 _
  have b2 : 0 ≤ x2 ∧ x2 ≤ 80 := by rw [e2]; exact bx_c156_3.mp (hI.bx _ _)
  refine ⟨fun c => hQ _ hI Ks.rf (Or.inr ⟨by omega, rfl⟩), fun c => ?_⟩
  intro x4 e4 _
  have b4 : 0 ≤ x4 ∧ x4 ≤ 80 := by rw [e4]; exact bx_c156_2.mp (hI.bx _ _)
  refine ⟨⟨by omega, by omega⟩, ?_⟩
  intro M6 h6
  exact hQ _ (by rw [h6]; exact hI.up (by decide) (bx_c156_2.mpr ⟨by omega, by omega⟩)) (by rw [h6]; exact Ks.rf.wr ⟨rfl, rfl⟩) (Or.inl ⟨by omega, by rw [h6, up2_s, e4]⟩)
theorem gX9_back {M : Mem} {Q : Mem → Prop} (hI : IX M) (hQ : ∀ M' : Mem, IX M' → Ks kA M M' → (0 < M 156 2 → M' 156 2 = M 156 2 - 1) → Q M') : qX9_back M Q := by
  unfold qX9_back
  intro x1 e1 _
  refine ⟨fun c => hQ _ hI Ks.rf (fun q => by omega), fun c => ?_⟩
  intro x3 e3 _
  have b3 : 0 ≤ x3 ∧ x3 ≤ 80 := by rw [e3]; exact bx_c156_2.mp (hI.bx _ _)
  refine ⟨⟨by omega, by omega⟩, ?_⟩
  intro M5 h5
  exact hQ _ (by rw [h5]; exact hI.up (by decide) (bx_c156_2.mpr ⟨by omega, by omega⟩)) (by rw [h5]; exact Ks.rf.wr ⟨rfl, rfl⟩) (fun _ => by rw [h5, up2_s, e3])
theorem gX9_digit {M : Mem} {Q : Int → Mem → Prop} (hI : IX M) (hQ : ∀ (z : Int) (M' : Mem), IX M' → Ks kA M M' → ((M 156 2 < M 156 3 ∧ vW (M 157 (M 156 2))) ∧ z = M 157 (M 156 2) - 48 ∧ M' 156 2 = M 156 2 + 1 ∨ ¬ (M 156 2 < M 156 3 ∧ vW (M 157 (M 156 2))) ∧ z = -1 ∧ M' 156 2 = M 156 2) → Q z M') : qX9_digit M Q := by
  unfold qX9_digit
  refine gX9_look hI ?_
  intro x1 p1 _
  have hn : ¬ (48 ≤ x1 ∧ x1 ≤ 57) → Q (-1) M := fun w => hQ _ _ hI Ks.rf (Or.inr ⟨fun u => by
    have a : 48 ≤ M 157 (M 156 2) := u.2.1
    have b : M 157 (M 156 2) ≤ 57 := u.2.2
    omega, rfl, rfl⟩)
  refine ⟨fun c => hn (by omega), fun c => ⟨fun c2 => ?_, fun c2 => hn (by omega)⟩⟩
  refine gX9_pass hI ?_
  intro M4 i4 k4 p4
  refine ⟨⟨by omega, by omega⟩, hQ _ _ i4 k4 (Or.inl ⟨⟨by omega, ⟨by omega, by omega⟩⟩, by omega, by omega⟩)⟩
theorem gX9_number_L10 {p1 : Int} {Q : Int → Mem → Prop} {M0 : Mem} (hp : 1 ≤ p1 ∧ p1 ≤ 3) (hQ : ∀ (z : Int) (M' : Mem), IX M' → Ks kA M0 M' → NUM (M0 157) (M0 156 2) (M0 156 3) p1 z (M' 156 2) → Q z M') : ∀ (n : Nat) (v2 v3 v4 : Int) (M : Mem), IX M → Ks kA M0 M → (v3 = -1 ∧ v4 ≤ p1 + 1 ∧ NUM (M0 157) (M0 156 2) (M0 156 3) p1 v2 (M 156 2) ∨ 0 ≤ v3 ∧ v3 ≤ 9 ∧ M 156 2 = M0 156 2 + v4 ∧ M0 156 2 + v4 ≤ M0 156 3 ∧ (∀ i, 0 ≤ i → i < v4 → vW (M0 157 (M0 156 2 + i))) ∧ v2 = nmV (M0 157) (M0 156 2) v4.toNat ∧ v4 ≤ p1) → (1 ≤ v4) → (p1 - v4 < (n : Int) ∧ 0 < n) → qX9_number_L10 p1 Q n v2 v3 v4 M := by
  intro n
  induction n with
  | zero => intro v2 v3 v4 M hI hK hs hv hm; exact absurd hm.2 (by decide)
  | succ n ih =>
    intro v2 v3 v4 M hI hK hs hv hm
    rw [qX9_number_L10]
    have fin : v3 = -1 ∨ p1 ≤ v4 ∧ v4 ≤ p1 → iR v2 ∧ Q v2 M := by
      intro hf
      have hN : NUM (M0 157) (M0 156 2) (M0 156 3) p1 v2 (M 156 2) := by
        rcases hs with h | h
        · exact h.2.2
        · exact Or.inr ⟨v4, by omega, h.2.2.1, h.2.2.2.1, h.2.2.2.2.1, Or.inl (by omega), h.2.2.2.2.2.1⟩
      have b := hN.b hp.2
      exact ⟨⟨by omega, by omega⟩, hQ _ _ hI hK hN⟩
    have hv4 : v4 ≤ p1 + 1 := by rcases hs with h | h <;> omega
    by_cases cv : v3 = -1
    · refine ⟨⟨by omega, by omega⟩, ⟨fun c => fin (Or.inl cv), fun c => ⟨⟨by omega, by omega⟩, ⟨fun _ => fin (Or.inl cv), fun c2 => absurd cv c2⟩⟩⟩⟩
    · rcases hs with h | h
      · exact absurd h.1 cv
      · obtain ⟨h0, h9, ha, ht, hd, h2, hp4⟩ := h
        refine ⟨⟨by omega, by omega⟩, ⟨fun c => fin (Or.inr ⟨c, hp4⟩), fun c => ⟨⟨by omega, by omega⟩, ⟨fun c2 => absurd c2 cv, fun _ => ?_⟩⟩⟩⟩
        refine gX9_digit hI ?_
        intro x8 M8 i8 k8 p8 _
        have k156 : M 156 3 = M0 156 3 := hK 156 3 (by omega)
        have k157 : M 157 (M 156 2) = M0 157 (M0 156 2 + v4) := by rw [ha]; exact hK 157 _ (by omega)
        have K8 : Ks kA M0 M8 := hK.tr k8
        rw [k156, k157, ha] at p8
        refine ⟨fun c3 => ?_, fun c3 => ?_⟩
        · rcases p8 with q | q
          · have w1 : 48 ≤ M0 157 (M0 156 2 + v4) := q.1.2.1
            have w2 : M0 157 (M0 156 2 + v4) ≤ 57 := q.1.2.2
            refine ih _ _ _ _ i8 K8 (Or.inr ⟨by omega, by omega, by omega, by omega, fun i a w => ?_, ?_, by omega⟩) (by omega) ⟨by omega, by omega⟩
            · by_cases ci : i = v4
              · rw [ci]; exact q.1.2
              · exact hd i a (by omega)
            · rw [nmV_s (by omega), ← h2]
              omega
          · omega
        · rcases p8 with q | q
          · have w1 : 48 ≤ M0 157 (M0 156 2 + v4) := q.1.2.1
            omega
          · refine ih _ _ _ _ i8 K8 (Or.inl ⟨c3, by omega, Or.inr ⟨v4, by omega, by omega, ht, hd, ?_, h2⟩⟩) (by omega) ⟨by omega, by omega⟩
            by_cases ct : M0 156 3 ≤ M0 156 2 + v4
            · exact Or.inr (Or.inl ct)
            · exact Or.inr (Or.inr (fun w => q.1 ⟨by omega, w⟩))
theorem gX9_number {p1 : Int} {M : Mem} {Q : Int → Mem → Prop} (hI : IX M) (hp : 1 ≤ p1 ∧ p1 ≤ 3) (hQ : ∀ (z : Int) (M' : Mem), IX M' → Ks kA M M' → NUM (M 157) (M 156 2) (M 156 3) p1 z (M' 156 2) → Q z M') : qX9_number p1 M Q := by
  unfold qX9_number
  refine gX9_digit hI ?_
  intro x1 M1 i1 k1 p1' _
  refine ⟨4, gX9_number_L10 hp hQ _ _ _ _ _ i1 k1 ?_ (by omega) ⟨by omega, by omega⟩⟩
  rcases p1' with q | q
  · have w1 : 48 ≤ M 157 (M 156 2) := q.1.2.1
    have w2 : M 157 (M 156 2) ≤ 57 := q.1.2.2
    refine Or.inr ⟨by omega, by omega, q.2.2, by omega, fun i a w => ?_, ?_, by omega⟩
    · rw [show M 156 2 + i = M 156 2 from by omega]
      exact q.1.2
    · show x1 = 10 * 0 + M 157 (M 156 2 + ((0 : Nat) : Int)) - 48
      rw [show M 156 2 + ((0 : Nat) : Int) = M 156 2 from by omega]
      omega
  · refine Or.inl ⟨q.2.1, by omega, Or.inl ⟨q.2.1, q.2.2, q.1⟩⟩
abbrev k15 (k : Nat) (j : Int) : Prop := k = 1 ∧ j = 15
theorem gX12_number_L13 {p1 : Int} {Q : Int → Mem → Prop} {b : Int} {M0 : Mem} (hp : 1 ≤ p1 ∧ p1 ≤ 3) (hQ : ∀ (z : Int) (M' : Mem), IM b M' → FrJ (fun k j => k = 1 ∧ j = 15) M0 M' → NUM (M0 7) (M0 1 15) (M0 1 16) p1 z (M' 1 15) → Q z M') : ∀ (n : Nat) (v2 v3 : Int) (M : Mem), IM b M → FrJ (fun k j => k = 1 ∧ j = 15) M0 M → (0 ≤ v3 ∧ v3 ≤ p1) → M 1 15 = M0 1 15 + v3 → M0 1 15 + v3 ≤ M0 1 16 → (∀ i, 0 ≤ i → i < v3 → vW (M0 7 (M0 1 15 + i))) → v2 = nmV (M0 7) (M0 1 15) v3.toNat → (v3 = 0 → M0 1 15 < M0 1 16 ∧ vW (M0 7 (M0 1 15))) → p1 - v3 < (n : Int) → qX12_number_L13 p1 Q n v2 v3 M := by
  intro n
  induction n with
  | zero => intro v2 v3 M hI hF hv ha ht hd h2 h0 hm; exact absurd hm (by omega)
  | succ n ih =>
    intro v2 v3 M hI hF hv ha ht hd h2 h0 hm
    have bb := nmV_b (f := M0 7) (a := M0 1 15) v3.toNat (fun i a w => hd i a (by omega))
    rw [← h2] at bb
    have b3 := bb.2.2.2 (by omega)
    rw [qX12_number_L13]
    refine ⟨⟨by omega, by omega⟩, ⟨fun c => ⟨⟨by omega, by omega⟩, hQ _ _ hI hF (Or.inr ⟨v3, by omega, ha, ht, hd, Or.inl (by omega), h2⟩)⟩, fun c => ?_⟩⟩
    refine sX12_isDigit hI ?_
    intro x6 p6 _ _
    have k16 : M 1 16 = M0 1 16 := hF 1 16 (by omega)
    have k7 : M 7 (M 1 15) = M0 7 (M0 1 15 + v3) := by rw [ha]; exact hF 7 _ (by omega)
    rw [k7, k16, ha] at p6
    have b16 := bm_c1_16.mp (hI.bx 1 16)
    rw [k16] at b16
    refine ⟨fun c2 => ⟨⟨by omega, by omega⟩, hQ _ _ hI hF ?_⟩, fun c2 => ?_⟩
    · have n6 := p6.2.1 c2
      by_cases c0 : v3 = 0
      · exfalso
        have := h0 c0
        rw [c0, show M0 1 15 + 0 = M0 1 15 from by omega] at n6
        exact n6 ⟨this.1, b16.2, this.2.1, this.2.2⟩
      · refine Or.inr ⟨v3, by omega, ha, ht, hd, ?_, h2⟩
        by_cases ct : M0 1 16 ≤ M0 1 15 + v3
        · exact Or.inr (Or.inl ct)
        · exact Or.inr (Or.inr (fun w => n6 ⟨by omega, b16.2, w.1, w.2⟩))
    · have d6 := p6.1 (by omega)
      intro x9 e9 _
      have f9 : x9 = M0 1 15 + v3 := by rw [e9, ha]
      have b9 : 0 ≤ x9 ∧ x9 ≤ 80 := by rw [e9]; exact bm_c1_15.mp (hI.bx _ _)
      refine ⟨by omega, by omega, ?_⟩
      intro x12 e12 _ x13 e13 _
      refine ⟨⟨by omega, by omega⟩, ?_⟩
      intro M15 hE
      have f12 : x12 = M0 7 (M0 1 15 + v3) := by rw [e12, f9]; exact hF 7 _ (by omega)
      refine ih _ _ _ (by rw [hE]; exact hI.up (by omega) (bm_c1_15.mpr ⟨by omega, by omega⟩)) (by rw [hE]; exact hF.up ⟨rfl, rfl⟩) (by omega) (by rw [hE, up2_s, e13, ha]; omega) (by omega) (fun i a w => ?_) ?_ (fun q => by omega) (by omega)
      · by_cases ci : i = v3
        · rw [ci]; exact ⟨d6.2.2.1, d6.2.2.2⟩
        · exact hd i a (by omega)
      · rw [nmV_s hv.1, ← h2, f12]
theorem gX12_number {p1 : Int} {Q : Int → Mem → Prop} {b : Int} {M : Mem} (hI : IM b M) (hp : 1 ≤ p1 ∧ p1 ≤ 3) (hQ : ∀ (z : Int) (M' : Mem), IM b M' → FrJ (fun k j => k = 1 ∧ j = 15) M M' → NUM (M 7) (M 1 15) (M 1 16) p1 z (M' 1 15) → Q z M') : qX12_number p1 M Q := by
  unfold qX12_number
  refine sX12_isDigit hI ?_
  intro x1 p _ _
  have b16 := bm_c1_16.mp (hI.bx 1 16)
  refine ⟨fun c => ?_, fun c => ?_⟩
  · have d := p.1 (by omega)
    exact ⟨4, gX12_number_L13 hp hQ _ _ _ _ hI FrJ.rf (by omega) (by omega) (by omega) (fun i a w => by omega) rfl (fun _ => ⟨d.1, d.2.2.1, d.2.2.2⟩) (by omega)⟩
  · exact hQ _ _ hI FrJ.rf (Or.inl ⟨rfl, rfl, fun w => p.2.1 c ⟨w.1, b16.2, w.2.1, w.2.2⟩⟩)
-- weather: the first sign that can't stand there
def WV (f : Int → Int) (len q : Int) : Prop := (0 ≤ q ∧ q ≤ len ∧ q ≤ 20) ∧ (∀ i, 0 ≤ i → i < q → vW (f i)) ∧ (q = len ∨ q = 20 ∨ ¬ vW (f q))
def wvz (len q : Int) : Int := if q = len ∧ 1 ≤ q then q else -1 - q
theorem WV.uq {f g : Int → Int} {len p q : Int} (h : WV f len p) (h2 : WV g len q) (hf : ∀ j, 0 ≤ j → j < len → f j = g j) : p = q := by
  obtain ⟨a, b, c⟩ := h
  obtain ⟨a2, b2, c2⟩ := h2
  rcases Int.lt_or_le p q with h | h
  · exfalso
    have := b2 p a.1 h
    rcases c with c | c | c
    · omega
    · omega
    · exact c (by rw [hf p a.1 (by omega)]; exact this)
  · rcases Int.lt_or_le q p with h' | h'
    · exfalso
      have := b q a2.1 h'
      rcases c2 with c | c | c
      · omega
      · omega
      · exact c (by rw [← hf q a2.1 (by omega)]; exact this)
    · omega
theorem gX11_weatherFault_L2 {X48 : Mem → Prop} {Q : Int → Mem → Prop} {M : Mem} (hI : IX M) (hX : WV (M 157) (M 156 1) (M 156 1) → X48 M) (hQ : ∀ q : Int, q < M 156 1 → WV (M 157) (M 156 1) q → Q q M) : ∀ (n : Nat) (v1 : Int), (0 ≤ v1 ∧ v1 ≤ 20 ∧ v1 ≤ M 156 1) → (∀ i, 0 ≤ i → i < v1 → vW (M 157 i)) → 20 - v1 < (n : Int) → qX11_weatherFault_L2 X48 Q n v1 M := by
  intro n
  induction n with
  | zero => intro v1 hv ha hm; exact absurd hm (by omega)
  | succ n ih =>
    intro v1 hv ha hm
    rw [qX11_weatherFault_L2]
    intro x1 e1 _
    have b1 : 0 ≤ x1 ∧ x1 ≤ 80 := by rw [e1]; exact bx_c156_1.mp (hI.bx _ _)
    refine ⟨⟨by omega, by omega⟩, ⟨fun c => ?_, fun c => ?_⟩⟩
    · have e : M 156 1 = v1 := by omega
      rw [e] at hX
      exact hX ⟨by omega, ha, Or.inl rfl⟩
    · unfold qX9_signAt
      refine ⟨fun c2 => by omega, fun _ => ?_⟩
      intro x2 e2 _
      refine ⟨fun c3 => by omega, fun _ => ⟨by omega, by omega, ?_⟩⟩
      intro x6 e6 _ _
      have hn : ¬ (48 ≤ x6 ∧ x6 ≤ 57) → WV (M 157) (M 156 1) v1 := fun q => ⟨by omega, ha, Or.inr (Or.inr (fun w => q (by rw [e6]; exact w)))⟩
      refine ⟨fun c4 => hQ _ (by omega) ⟨by omega, ha, Or.inr (Or.inl c4)⟩, fun c4 => ⟨fun c5 => hQ _ (by omega) (hn (by omega)), fun c5 => ⟨fun c6 => ?_, fun c6 => hQ _ (by omega) (hn (by omega))⟩⟩⟩
      refine ih _ (by omega) (fun i a q => ?_) (by omega)
      by_cases ci : i = v1
      · rw [ci, ← e6]; exact ⟨by omega, c6⟩
      · exact ha i a (by omega)
