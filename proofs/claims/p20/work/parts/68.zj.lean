section
/-! HOUR: acts -/
abbrev sgn (s : Int) : Prop := s = 110 ∨ s = 116 ∨ s = 112 ∨ s = 98 ∨ s = 120
abbrev dg1 (f : Int → Int) (t a : Int) : Prop := a + 1 < t ∧ 48 ≤ f (a + 1) ∧ f (a + 1) ≤ 57
abbrev dg2 (f : Int → Int) (t a : Int) : Prop := a + 2 < t ∧ (f a = 120 ∨ 49 ≤ f (a + 2)) ∧ 48 ≤ f (a + 2) ∧ f (a + 2) ≤ 57
/-- an act at a: whether it can stand, where reading is then, its sign and its numbers -/
def prA (f : Int → Int) (t a : Int) : Int × Int × Int × Int × Int := if ¬ (a < t ∧ sgn (f a)) then (0, a, 0, 0, 0) else if ¬ dg1 f t a then (0, a + 1, 0, 0, 0) else if f a = 110 ∨ f a = 116 then (1, a + 2, f a, f (a + 1) - 48, 0) else if ¬ dg2 f t a then (0, a + 2, 0, 0, 0) else (1, a + 3, f a, f (a + 1) - 48, f (a + 2) - 48)
theorem prA_0 {f : Int → Int} {t a : Int} (h : ¬ (a < t ∧ sgn (f a))) : prA f t a = (0, a, 0, 0, 0) := by unfold prA; rw [if_pos h]
theorem prA_1 {f : Int → Int} {t a : Int} (h : a < t ∧ sgn (f a)) (h1 : ¬ dg1 f t a) : prA f t a = (0, a + 1, 0, 0, 0) := by unfold prA; rw [if_neg (fun q => q h), if_pos h1]
theorem prA_2 {f : Int → Int} {t a : Int} (h : a < t ∧ sgn (f a)) (h1 : dg1 f t a) (h2 : f a = 110 ∨ f a = 116) : prA f t a = (1, a + 2, f a, f (a + 1) - 48, 0) := by unfold prA; rw [if_neg (fun q => q h), if_neg (fun q => q h1), if_pos h2]
theorem prA_3 {f : Int → Int} {t a : Int} (h : a < t ∧ sgn (f a)) (h1 : dg1 f t a) (h2 : ¬ (f a = 110 ∨ f a = 116)) (h3 : ¬ dg2 f t a) : prA f t a = (0, a + 2, 0, 0, 0) := by unfold prA; rw [if_neg (fun q => q h), if_neg (fun q => q h1), if_neg h2, if_pos h3]
theorem prA_4 {f : Int → Int} {t a : Int} (h : a < t ∧ sgn (f a)) (h1 : dg1 f t a) (h2 : ¬ (f a = 110 ∨ f a = 116)) (h3 : dg2 f t a) : prA f t a = (1, a + 3, f a, f (a + 1) - 48, f (a + 2) - 48) := by unfold prA; rw [if_neg (fun q => q h), if_neg (fun q => q h1), if_neg h2, if_neg (fun q => q h3)]
theorem prA_b {f : Int → Int} {t a : Int} (ha : a ≤ t) : (a ≤ (prA f t a).2.1 ∧ (prA f t a).2.1 ≤ t) ∧ ((prA f t a).1 = 0 ∨ (prA f t a).1 = 1 ∧ a + 2 ≤ (prA f t a).2.1) := by
  by_cases h : a < t ∧ sgn (f a)
  · by_cases h1 : dg1 f t a
    · by_cases h2 : f a = 110 ∨ f a = 116
      · rw [prA_2 h h1 h2]
        refine ⟨⟨?_, ?_⟩, Or.inr ⟨rfl, ?_⟩⟩
        · show a ≤ a + 2; omega
        · show a + 2 ≤ t
          have := h1.1
          omega
        · show a + 2 ≤ a + 2; omega
      · by_cases h3 : dg2 f t a
        · rw [prA_4 h h1 h2 h3]
          refine ⟨⟨?_, ?_⟩, Or.inr ⟨rfl, ?_⟩⟩
          · show a ≤ a + 3; omega
          · show a + 3 ≤ t
            have := h3.1
            omega
          · show a + 2 ≤ a + 3; omega
        · rw [prA_3 h h1 h2 h3]
          refine ⟨⟨?_, ?_⟩, Or.inl rfl⟩
          · show a ≤ a + 2; omega
          · show a + 2 ≤ t
            have := h1.1
            omega
    · rw [prA_1 h h1]
      refine ⟨⟨?_, ?_⟩, Or.inl rfl⟩
      · show a ≤ a + 1; omega
      · show a + 1 ≤ t
        have := h.1
        omega
  · rw [prA_0 h]
    exact ⟨⟨Int.le_refl _, ha⟩, Or.inl rfl⟩
theorem gX11_passAct {M : Mem} {Q : Int → Mem → Prop} (hI : IX M) (hQ : ∀ M' : Mem, IX M' → Ks kA M M' → M' 156 2 = (prA (M 157) (M 156 3) (M 156 2)).2.1 → Q (prA (M 157) (M 156 3) (M 156 2)).1 M') : qX11_passAct M Q := by
  unfold qX11_passAct
  refine gX9_look hI ?_
  intro x1 p1 _
  have NO : ¬ (M 156 2 < M 156 3 ∧ sgn (M 157 (M 156 2))) → Q 0 M := by
    intro h
    have := hQ M hI Ks.rf
    rw [prA_0 h] at this
    exact this rfl
  have J96 : ∀ M6 : Mem, IX M6 → Ks kA M M6 → M6 156 2 = M 156 2 + 2 → (M 156 2 < M 156 3 ∧ sgn (M 157 (M 156 2))) → dg1 (M 157) (M 156 3) (M 156 2) → ¬ (M 157 (M 156 2) = 110 ∨ M 157 (M 156 2) = 116) → (M 156 2 + 2 < M 156 3 → M 157 (M 156 2) = 120 ∨ M 157 (M 156 2 + 2) ≠ 48) → qX11_passAct_J96 Q M6 := by
    intro M6 i6 k6 a6 h h1 h2 h3
    have g157 : M6 157 = M 157 := funext fun j => k6 157 j (by omega)
    have g3 : M6 156 3 = M 156 3 := k6 156 3 (by omega)
    unfold qX11_passAct_J96
    refine gX9_digit i6 ?_
    intro x12 M12 i12 k12 p12 _
    rw [g157, g3, a6] at p12
    have K12 := k6.tr k12
    rcases p12 with ⟨⟨q0, q1, q2⟩, qz, qa⟩ | ⟨q0, qz, qa⟩
    · refine ⟨fun c => by omega, fun _ => ?_⟩
      have := hQ M12 i12 K12
      rw [prA_4 h h1 h2 ⟨q0, by have := h3 q0; omega, q1, q2⟩] at this
      exact this (by rw [qa]; show M 156 2 + 2 + 1 = M 156 2 + 3; omega)
    · refine ⟨fun _ => ?_, fun c => absurd qz c⟩
      have := hQ M12 i12 K12
      rw [prA_3 h h1 h2 (fun w => q0 ⟨w.1, w.2.2⟩)] at this
      exact this qa
  have J50 : ∀ v2 : Int, (M 156 2 < M 156 3 ∧ sgn (M 157 (M 156 2))) → (v2 = 1 ∧ (M 157 (M 156 2) = 112 ∨ M 157 (M 156 2) = 98) ∨ v2 = 0 ∧ (M 157 (M 156 2) = 110 ∨ M 157 (M 156 2) = 116 ∨ M 157 (M 156 2) = 120)) → x1 = M 157 (M 156 2) → qX11_passAct_J50 Q x1 v2 M := by
    intro v2 h hv ex
    unfold qX11_passAct_J50
    refine gX9_pass hI ?_
    intro M5 i5 k5 p5
    have a5 : M5 156 2 = M 156 2 + 1 := by rcases p5 with q | q <;> omega
    have g157 : M5 157 = M 157 := funext fun j => k5 157 j (by omega)
    have g3 : M5 156 3 = M 156 3 := k5 156 3 (by omega)
    refine gX9_digit i5 ?_
    intro x6 M6 i6 k6 p6 _
    rw [g157, g3, a5] at p6
    have K6 := k5.tr k6
    rcases p6 with ⟨q1, qz, qa⟩ | ⟨q0, qz, qa⟩
    · have h1 : dg1 (M 157) (M 156 3) (M 156 2) := ⟨q1.1, q1.2.1, q1.2.2⟩
      have q48 : 48 ≤ M 157 (M 156 2 + 1) := q1.2.1
      have a6 : M6 156 2 = M 156 2 + 2 := by omega
      have J86 : (M 156 2 + 2 < M 156 3 → v2 = 0 ∨ M 157 (M 156 2 + 2) ≠ 48) → qX11_passAct_J86 Q x1 v2 M6 := by
        intro h3
        unfold qX11_passAct_J86
        refine ⟨by rcases hv with q | q <;> rw [q.1] <;> exact ⟨by decide, by decide⟩, ⟨fun c => ?_, fun c => ⟨?_, ⟨fun c2 => ?_, fun c2 => ?_⟩⟩⟩⟩
        · exact J96 M6 i6 K6 a6 h h1 (by omega) (fun w => by have := h3 w; omega)
        · have := bx_c157.mp (hI.bx 157 (M 156 2))
          exact ⟨by omega, by omega⟩
        · have := hQ M6 i6 K6
          rw [prA_2 h h1 (by omega)] at this
          exact this a6
        · exact J96 M6 i6 K6 a6 h h1 (by omega) (fun w => Or.inl (by omega))
      refine ⟨fun c => by omega, fun _ => ⟨by rcases hv with q | q <;> rw [q.1] <;> exact ⟨by decide, by decide⟩, ⟨fun c => J86 (fun _ => Or.inl c), fun c => ?_⟩⟩⟩
      refine gX9_look i6 ?_
      intro x16 p16 _
      have g157' : M6 157 = M 157 := funext fun j => K6 157 j (by omega)
      have g3' : M6 156 3 = M 156 3 := K6 156 3 (by omega)
      rw [g157', g3', a6] at p16
      refine ⟨fun c2 => J86 (fun w => by omega), fun c2 => ?_⟩
      have := hQ M6 i6 K6
      rw [prA_3 h h1 (by omega) (fun w => by have := w.2.1; omega)] at this
      exact this a6
    · refine ⟨fun _ => ?_, fun c => absurd qz c⟩
      have := hQ M6 i6 K6
      rw [prA_1 h (fun w => q0 ⟨w.1, w.2.1, w.2.2⟩)] at this
      exact this (by rw [qa])
  have J25 : ∀ t0 : Int, (t0 = 1 ∧ (x1 = 112 ∨ x1 = 98) ∨ t0 = 0 ∧ x1 ≠ 112 ∧ x1 ≠ 98) → qX11_passAct_J25 Q x1 t0 M := by
    intro t0 ht
    unfold qX11_passAct_J25
    have b1 : -1 ≤ x1 ∧ x1 ≤ 255 := by
      have := bx_c157.mp (hI.bx 157 (M 156 2))
      rcases p1 with q | q <;> omega
    refine ⟨by rcases ht with q | q <;> rw [q.1] <;> exact ⟨by decide, by decide⟩, ⟨fun c => ?_, fun c => ⟨⟨by omega, by omega⟩, ⟨fun c2 => ?_, fun c2 => ⟨fun c3 => ?_, fun c3 => ⟨fun c4 => ?_, fun c4 => ?_⟩⟩⟩⟩⟩⟩
    · rcases p1 with q | q
      · exact J50 t0 ⟨q.1, by omega⟩ (by omega) q.2
      · omega
    · rcases p1 with q | q
      · exact J50 t0 ⟨q.1, by omega⟩ (by omega) q.2
      · omega
    · rcases p1 with q | q
      · exact J50 t0 ⟨q.1, by omega⟩ (by omega) q.2
      · omega
    · rcases p1 with q | q
      · exact J50 t0 ⟨q.1, by omega⟩ (by omega) q.2
      · omega
    · refine NO (fun w => ?_)
      have w1 := w.1
      have w2 := w.2
      rcases p1 with q | q
      · omega
      · omega
  unfold qX11_passAct_J20
  exact ⟨fun c => J25 1 (Or.inl ⟨rfl, Or.inl c⟩), fun c => ⟨fun c2 => J25 0 (Or.inr ⟨rfl, c, c2⟩), fun c2 => J25 1 (Or.inl ⟨rfl, Or.inr c2⟩)⟩⟩
/-- reading acts from a on: whether all can stand, where reading is then -/
def hrd (f : Int → Int) (t : Int) : Nat → Int → Int × Int
  | 0, a => (1, a)
  | n + 1, a => if t ≤ a then (1, a) else if (prA f t a).1 = 0 then (0, (prA f t a).2.1) else hrd f t n (prA f t a).2.1
theorem hrd_b {f : Int → Int} {t : Int} : ∀ (n : Nat) (a : Int), (0 ≤ a ∧ a ≤ t) → (0 ≤ (hrd f t n a).2 ∧ (hrd f t n a).2 ≤ t) ∧ ((hrd f t n a).1 = 0 ∨ (hrd f t n a).1 = 1) := by
  intro n
  induction n with
  | zero => intro a ha; exact ⟨ha, Or.inr rfl⟩
  | succ n ih =>
    intro a ha
    have b := prA_b (f := f) (t := t) ha.2
    unfold hrd
    split
    · exact ⟨ha, Or.inr rfl⟩
    · split
      · refine ⟨⟨?_, b.1.2⟩, Or.inl rfl⟩
        show 0 ≤ (prA f t a).2.1
        omega
      · exact ih _ ⟨by omega, b.1.2⟩
theorem gX11_hourFault_L11 {X48 : Mem → Prop} {Q : Int → Mem → Prop} {M0 : Mem} {T : Int × Int} (ht : M0 156 3 ≤ 60) (hX : T.1 = 1 → ∀ M' : Mem, IX M' → Ks kA M0 M' → M' 156 2 = T.2 → X48 M') (hQ : T.1 = 0 → ∀ M' : Mem, IX M' → Ks kA M0 M' → M' 156 2 = T.2 → Q T.2 M') : ∀ (n : Nat) (v1 : Int) (M : Mem), IX M → Ks kA M0 M → hrd (M0 157) (M0 156 3) n (M 156 2) = T → (0 ≤ M 156 2 ∧ M 156 2 ≤ M0 156 3) → (0 ≤ v1 ∧ 2 * v1 ≤ M 156 2) → M0 156 3 - M 156 2 ≤ 2 * n → qX11_hourFault_L11 X48 Q (n + 1) v1 M := by
  intro n
  induction n with
  | zero =>
    intro v1 M hI hK hT ha hv hn
    rw [qX11_hourFault_L11]
    refine ⟨⟨by omega, by omega⟩, ⟨fun c => by omega, fun _ => ?_⟩⟩
    unfold qX9_isRead
    intro x1 e1 _ x2 e2 _
    have e3 : M 156 3 = M0 156 3 := hK 156 3 (by omega)
    refine ⟨fun c => by omega, fun c => ?_⟩
    intro _ _
    refine ⟨fun _ => ?_, fun c2 => absurd c2 (by decide)⟩
    subst hT
    exact hX rfl M hI hK rfl
  | succ n ih =>
    intro v1 M hI hK hT ha hv hn
    have e157 : M 157 = M0 157 := funext fun j => hK 157 j (by omega)
    have e3 : M 156 3 = M0 156 3 := hK 156 3 (by omega)
    have b := prA_b (f := M0 157) (t := M0 156 3) ha.2
    rw [qX11_hourFault_L11]
    refine ⟨⟨by omega, by omega⟩, ⟨fun c => by omega, fun _ => ?_⟩⟩
    unfold qX9_isRead
    intro x1 e1 _ x2 e2 _
    unfold hrd at hT
    refine ⟨fun c => ?_, fun c => ?_⟩
    · intro _ _
      refine ⟨fun c2 => absurd rfl c2, fun _ => ?_⟩
      rw [if_neg (by omega)] at hT
      refine gX11_passAct hI ?_
      intro M6 i6 k6 a6 _ _
      rw [e157, e3] at a6 ⊢
      have K6 := hK.tr k6
      refine ⟨fun c3 => ?_, fun c3 => ?_⟩
      · rw [if_neg c3] at hT
        exact ih _ M6 i6 K6 (by rw [a6]; exact hT) (by omega) (by omega) (by omega)
      · rw [if_pos c3] at hT
        subst hT
        intro x8 e8 _
        rw [e8, a6]
        exact hQ rfl M6 i6 K6 a6
    · intro _ _
      refine ⟨fun _ => ?_, fun c2 => absurd c2 (by decide)⟩
      rw [if_pos (by omega)] at hT
      subst hT
      exact hX rfl M hI hK rfl
end
section
/-! HOUR: the reference reads acts -/
def sgX (s : Int) : Int := if s = 110 then 0 else if s = 116 then 1 else if s = 112 then 2 else if s = 98 then 3 else 4
theorem b8L : ((bS 8).length : Int) = 5 := rfl
theorem b8g : ∀ i : Nat, i < 5 → sgn ((bS 8).getD i 0) ∧ sgX ((bS 8).getD i 0) = i := by decide
theorem b8c (s : Int) (h : sgn s) : ∃ i : Nat, i < 5 ∧ (bS 8).getD i 0 = s := by
  rcases h with h | h | h | h | h
  · exact ⟨0, by decide, h.symm⟩
  · exact ⟨1, by decide, h.symm⟩
  · exact ⟨2, by decide, h.symm⟩
  · exact ⟨3, by decide, h.symm⟩
  · exact ⟨4, by decide, h.symm⟩
theorem gX12_digitIn {p1 p2 b : Int} {M : Mem} {Q : Int → Mem → Prop} (hI : IM b M) (hQ : ∀ (z : Int) (M' : Mem), IM b M' → FrJ (fun k j => k = 1 ∧ j = 15) M M' → ((M 1 15 < M 1 16 ∧ p1 ≤ M 7 (M 1 15) - 48 ∧ M 7 (M 1 15) - 48 ≤ p2) ∧ z = M 7 (M 1 15) - 48 ∧ M' 1 15 = M 1 15 + 1 ∨ ¬ (M 1 15 < M 1 16 ∧ p1 ≤ M 7 (M 1 15) - 48 ∧ M 7 (M 1 15) - 48 ≤ p2) ∧ z = -1 ∧ M' 1 15 = M 1 15) → Q z M') : qX12_digitIn p1 p2 M Q := by
  have b15 := bm_c1_15.mp (hI.bx 1 15)
  have b16 := bm_c1_16.mp (hI.bx 1 16)
  unfold qX12_digitIn
  intro x1 e1 _ x2 e2 _
  refine ⟨fun c => hQ _ M hI FrJ.rf (Or.inr ⟨by omega, rfl, rfl⟩), fun c => ?_⟩
  intro x4 e4 _
  refine ⟨by omega, by omega, ?_⟩
  intro x7 e7 _
  rw [e4] at e7
  have b7 : 0 ≤ x7 ∧ x7 ≤ 255 := by rw [e7]; exact bm_c7.mp (hI.bx _ _)
  refine ⟨⟨by omega, by omega⟩, ?_⟩
  refine sX12_in (p0 := x7 - 48) (p2 := p1) (p4 := p2) hI ?_
  intro z hz _ _
  refine ⟨fun d => ?_, fun d => ?_⟩
  · have hd := hz.2.1 (by rcases hz.1 with q | q <;> omega)
    intro x11 e11 _
    refine ⟨⟨by omega, by omega⟩, ?_⟩
    intro M13 h13 x14 e14 _
    have f14 : x14 = M 1 15 + 1 := by rw [e14, h13, up2_s, e11]
    refine ⟨by omega, by omega, ?_⟩
    intro x17 e17 _
    have f17 : x17 = x7 := by rw [e17, h13, up2_n (by decide), show x14 - 1 = M 1 15 from by omega, e7]
    refine ⟨⟨by omega, by omega⟩, ?_⟩
    refine hQ _ M13 (by rw [h13]; exact hI.up (by omega) (bm_c1_15.mpr ⟨by omega, by omega⟩)) (by rw [h13]; exact FrJ.rf.up ⟨rfl, rfl⟩) (Or.inl ⟨⟨by omega, by omega, by omega⟩, by omega, by rw [h13, up2_s, e11]⟩)
  · have hd := hz.2.2 d
    exact hQ _ M hI FrJ.rf (Or.inr ⟨by omega, rfl, rfl⟩)
abbrev kAc (k : Nat) (j : Int) : Prop := k = 19 ∨ k = 20 ∨ k = 21 ∨ (k = 1 ∧ (j = 15 ∨ j = 39))
/-- entry k of the acts is the act at a -/
def ENT (M : Mem) (k : Int) (P : Int × Int × Int × Int × Int) : Prop := M 19 k = sgX P.2.2.1 ∧ M 20 k = P.2.2.2.1 ∧ (¬ (P.2.2.1 = 110 ∨ P.2.2.1 = 116) → M 21 k = P.2.2.2.2)
theorem gX12_readsAct {b : Int} {M : Mem} {Q : Int → Mem → Prop} (hI : IM b M) (hk : M 1 39 ≤ 58) (ha : M 1 15 ≤ M 1 16) (hQ : ∀ M' : Mem, IM b M' → FrJ kAc M M' → M' 1 15 = (prA (M 7) (M 1 16) (M 1 15)).2.1 → (∀ (k : Nat) (j : Int), (k = 19 ∨ k = 20 ∨ k = 21) → 0 ≤ j → j < M 1 39 → M' k j = M k j) → M' 1 39 = M 1 39 + 1 → ((prA (M 7) (M 1 16) (M 1 15)).1 = 1 → ENT M' (M 1 39) (prA (M 7) (M 1 16) (M 1 15))) → Q (prA (M 7) (M 1 16) (M 1 15)).1 M') : qX12_readsAct M Q := by
  have b15 := bm_c1_15.mp (hI.bx 1 15)
  have b16 := bm_c1_16.mp (hI.bx 1 16)
  have b39 := bm_c1_39.mp (hI.bx 1 39)
  unfold qX12_readsAct
  intro x1 e1 _
  refine gX12_takesOf hI (by decide) ?_
  intro x2 M2 i2 f2 p2 _
  refine ⟨by omega, by omega, ?_⟩
  intro M5 h5 x6 e6 _
  have f6 : x6 = M 1 39 := by rw [e6, h5, up2_n (by decide)]; exact f2 1 39 (by omega)
  refine ⟨⟨by omega, by omega⟩, ?_⟩
  intro M8 h8 x9 e9 _
  have f9 : x9 = x2 := by rw [e9, h8, up2_n (by decide), h5, up2_s]
  have i5 : IM b M5 := by rw [h5]; exact i2.up (by omega) (by simp [BM])
  have i8 : IM b M8 := by rw [h8]; exact i5.up (by omega) (bm_c1_39.mpr ⟨by omega, by omega⟩)
  have F8 : FrJ kAc M M8 := by rw [h8, h5]; exact ((f2.mono (by intro k j h; omega)).up (by omega)).up (by omega)
  have o8 : ∀ (k : Nat) (j : Int), (k = 19 ∨ k = 20 ∨ k = 21) → 0 ≤ j → j < M 1 39 → M8 k j = M k j := by
    intro k j hk' h0 h1
    rw [h8, up2_n (by omega), h5]
    by_cases c : k = 19
    · rw [c, up2_j (by omega)]; exact f2 19 j (by omega)
    · rw [up2_n c]; exact f2 k j (by omega)
  have n8 : M8 1 39 = M 1 39 + 1 := by rw [h8, up2_s, f6]
  have s8 : M8 19 (M 1 39) = x2 := by rw [h8, up2_n (by decide), h5, e1, up2_s]
  have a8 : M8 1 15 = M2 1 15 := by rw [h8, up2_j (by decide), h5, up2_n (by decide)]
  have g7 : M8 7 = M 7 := funext fun j => F8 7 j (by omega)
  have g16 : M8 1 16 = M 1 16 := F8 1 16 (by omega)
  refine ⟨fun c => ?_, fun c => ?_⟩
  · rcases p2 with ⟨q1, q2, q3, q4⟩ | ⟨q1, _, _⟩
    · rw [b8L] at q2
      obtain ⟨u1, u2⟩ := b8g x2.toNat (by omega)
      rw [q3] at u1 u2
      have hs : M 1 15 < M 1 16 ∧ sgn (M 7 (M 1 15)) := ⟨q1, u1⟩
      have v2 : x2 = sgX (M 7 (M 1 15)) := by omega
      refine gX12_number (p1 := 1) i8 (by decide) ?_
      intro x11 M11 i11 f11 p11 r11 M12 h12
      rw [g7, g16, a8, q4] at p11
      have b11 := p11.b (by decide)
      have i12 : IM b M12 := by rw [h12]; exact i11.up (by omega) (bm_c20.mpr ⟨b11.1, b11.2.2.1 rfl⟩)
      have F12 : FrJ kAc M M12 := by rw [h12]; exact (F8.tr (f11.mono (by intro k j h; omega))).up (by omega)
      have o12 : ∀ (k : Nat) (j : Int), (k = 19 ∨ k = 20 ∨ k = 21) → 0 ≤ j → j < M 1 39 → M12 k j = M k j := by
        intro k j hk' h0 h1
        rw [h12]
        by_cases c2 : k = 20
        · rw [c2, up2_j (by omega), f11 20 j (by omega)]; exact o8 20 j (by omega) h0 h1
        · rw [up2_n c2, f11 k j (by omega)]; exact o8 k j hk' h0 h1
      have n12 : M12 1 39 = M 1 39 + 1 := by rw [h12, up2_n (by decide), f11 1 39 (by omega)]; exact n8
      have s12 : M12 19 (M 1 39) = x2 := by rw [h12, up2_n (by decide), f11 19 _ (by omega)]; exact s8
      have d12 : M12 20 (M 1 39) = x11 := by rw [h12, e1, up2_s]
      have a12 : M12 1 15 = M11 1 15 := by rw [h12, up2_n (by decide)]
      have j7 : M12 7 = M 7 := funext fun j => F12 7 j (by omega)
      have j16 : M12 1 16 = M 1 16 := F12 1 16 (by omega)
      intro x13 e13 _
      have f13 : x13 = x11 := by rw [e13, e1]; exact d12
      have J69 : ∀ (N : Mem) (z : Int), N 20 x1 = x11 → (x11 < 0 → Q 0 N) → (0 ≤ x11 → Q 1 N) → qX12_readsAct_J69 Q x1 N := by
        intro N z hN h0 h1
        unfold qX12_readsAct_J69
        refine ⟨by omega, by omega, ?_⟩
        intro x17 e17 _
        exact ⟨fun c2 => h0 (by omega), fun c2 => h1 (by omega)⟩
      refine ⟨fun c2 => ?_, fun c2 => ?_⟩
      · rcases p11 with ⟨w1, w2, w3⟩ | ⟨k, hk', w2, w3, w4, w5, w6⟩
        · refine J69 M12 0 (by rw [e1]; exact d12) (fun _ => ?_) (fun w => by omega)
          have := hQ M12 i12 F12
          rw [prA_1 hs (fun w => w3 ⟨w.1, w.2.1, w.2.2⟩)] at this
          exact this (by rw [a12]; exact w2) o12 n12 (fun w => absurd w (by show ¬ (0 : Int) = 1; decide))
        · have := b11.1
          have k1 : k = 1 := by omega
          have : 0 ≤ x11 := by
            have hn := nmV_b (f := M 7) (a := M 1 15 + 1) k.toNat (fun i p q => w4 i p (by omega))
            rw [← w6] at hn
            exact hn.1
          omega
      · have hd : dg1 (M 7) (M 1 16) (M 1 15) ∧ x11 = M 7 (M 1 15 + 1) - 48 ∧ M11 1 15 = M 1 15 + 2 := by
          rcases p11 with ⟨w1, w2, w3⟩ | ⟨k, hk', w2, w3, w4, w5, w6⟩
          · omega
          · have k1 : k = 1 := by omega
            have h0 := w4 0 (by decide) (by omega)
            rw [show M 1 15 + 1 + 0 = M 1 15 + 1 from by omega] at h0
            refine ⟨⟨by omega, h0.1, h0.2⟩, ?_, by omega⟩
            rw [w6, k1]
            show 10 * 0 + M 7 (M 1 15 + 1 + ((0 : Nat) : Int)) - 48 = _
            rw [show M 1 15 + 1 + ((0 : Nat) : Int) = M 1 15 + 1 from by omega]
            omega
        obtain ⟨h1, vd, va⟩ := hd
        intro x19 e19 _
        have f19 : x19 = sgX (M 7 (M 1 15)) := by rw [e19, e1, s12]; exact v2
        have sv : (sgX (M 7 (M 1 15)) < 2 ↔ M 7 (M 1 15) = 110 ∨ M 7 (M 1 15) = 116) ∧ (sgX (M 7 (M 1 15)) = 4 ↔ M 7 (M 1 15) = 120) := by
          rcases u1 with h | h | h | h | h <;> rw [h] <;> decide
        refine ⟨fun c3 => ?_, fun c3 => ?_⟩
        · have hp : ¬ (M 7 (M 1 15) = 110 ∨ M 7 (M 1 15) = 116) := fun w => by have := sv.1.mpr w; omega
          intro x21 e21 _
          have f21 : x21 = sgX (M 7 (M 1 15)) := by rw [e21, e1, s12]; exact v2
          have J105 : ∀ t0 : Int, (t0 = 0 ∧ M 7 (M 1 15) = 120 ∨ t0 = 1 ∧ M 7 (M 1 15) ≠ 120) → qX12_readsAct_J105 Q x1 t0 x1 M12 := by
            intro t0 ht
            unfold qX12_readsAct_J105
            refine ⟨by rcases ht with q | q <;> rw [q.1] <;> exact ⟨by decide, by decide⟩, ?_⟩
            refine gX12_digitIn i12 ?_
            intro x24 M24 i24 f24 p24 _
            rw [j7, j16, a12, va] at p24
            refine ⟨by omega, by omega, ?_⟩
            intro M27 h27
            refine ⟨by omega, by omega, ?_⟩
            intro x30 e30 _
            have f30 : x30 = x24 := by rw [e30, h27, up2_s]
            have bx24 : -1 ≤ x24 ∧ x24 ≤ 9 := by rcases p24 with q | q <;> omega
            have i27 : IM b M27 := by rw [h27]; exact i24.up (by omega) (bm_c21.mpr ⟨by omega, by omega⟩)
            have F27 : FrJ kAc M M27 := by rw [h27]; exact (F12.tr (f24.mono (by intro k j h; omega))).up (by omega)
            have o27 : ∀ (k : Nat) (j : Int), (k = 19 ∨ k = 20 ∨ k = 21) → 0 ≤ j → j < M 1 39 → M27 k j = M k j := by
              intro k j hk' h0 h1
              rw [h27]
              by_cases c4 : k = 21
              · rw [c4, up2_j (by omega), f24 21 j (by omega)]; exact o12 21 j (by omega) h0 h1
              · rw [up2_n c4, f24 k j (by omega)]; exact o12 k j hk' h0 h1
            have n27 : M27 1 39 = M 1 39 + 1 := by rw [h27, up2_n (by decide), f24 1 39 (by omega)]; exact n12
            have a27 : M27 1 15 = M24 1 15 := by rw [h27, up2_n (by decide)]
            rcases p24 with ⟨q1', q2', q3'⟩ | ⟨q1', q2', q3'⟩
            · refine ⟨fun c4 => by omega, fun _ => ?_⟩
              have h3 : dg2 (M 7) (M 1 16) (M 1 15) := ⟨by omega, by omega, by omega, by omega⟩
              have := hQ M27 i27 F27
              rw [prA_4 hs h1 hp h3] at this
              refine this (by rw [a27, q3']; show M 1 15 + 2 + 1 = M 1 15 + 3; omega) o27 n27 (fun _ => ⟨?_, ?_, fun _ => ?_⟩)
              · rw [h27, up2_n (by decide), f24 19 _ (by omega), s12]
                exact v2
              · rw [h27, up2_n (by decide), f24 20 _ (by omega), d12]
                exact vd
              · rw [h27, e1, up2_s]
                exact q2'
            · refine ⟨fun _ => ?_, fun c4 => by omega⟩
              have := hQ M27 i27 F27
              rw [prA_3 hs h1 hp (fun w => q1' (by have w1 := w.1; have w2 := w.2.1; have w3 := w.2.2; omega))] at this
              exact this (by rw [a27, q3']) o27 n27 (fun w => absurd w (by show ¬ (0 : Int) = 1; decide))
          refine ⟨fun c4 => J105 1 (Or.inr ⟨rfl, fun w => c4 (by rw [f21]; exact sv.2.mpr w)⟩), fun c4 => J105 0 (Or.inl ⟨rfl, sv.2.mp (by omega)⟩)⟩
        · have hp : M 7 (M 1 15) = 110 ∨ M 7 (M 1 15) = 116 := sv.1.mp (by omega)
          refine J69 M12 0 (by rw [e1]; exact d12) (fun w => by omega) (fun _ => ?_)
          have := hQ M12 i12 F12
          rw [prA_2 hs h1 hp] at this
          exact this (by rw [a12]; exact va) o12 n12 (fun _ => ⟨by rw [s12]; exact v2, by rw [d12]; exact vd, fun w => absurd hp w⟩)
    · omega
  · rcases p2 with ⟨q1, q2, q3, q4⟩ | ⟨q1, q2, q3⟩
    · omega
    · have no : ¬ (M 1 15 < M 1 16 ∧ sgn (M 7 (M 1 15))) := by
        intro w
        obtain ⟨i, hi, e⟩ := b8c _ w.2
        rcases q3 with u | u
        · have := w.1
          omega
        · rw [b8L] at u
          exact u (i : Int) (by omega) (by omega) (by rw [show ((i : Int)).toNat = i from by omega]; exact e)
      have := hQ M8 i8 F8
      rw [prA_0 no] at this
      exact this (by rw [a8]; exact q2) o8 n8 (fun w => absurd w (by show ¬ (0 : Int) = 1; decide))
end
section
/-! HOUR: acts are done -/
noncomputable def doA (E : Mem) (r : Int → Int) (P : Int × Int × Int × Int × Int) : Int := if P.2.2.1 = 110 then itF E P.2.2.2.1.toNat r 12 else if P.2.2.1 = 116 then tnA E r P.2.2.2.1 else if P.2.2.1 = 112 then psA E r P.2.2.2.1 P.2.2.2.2 else if P.2.2.1 = 98 then psA E r P.2.2.2.1 (-P.2.2.2.2) else swA E r P.2.2.2.1 P.2.2.2.2
noncomputable def doR (E : Mem) (r : Int → Int) (P : Int × Int × Int × Int × Int) : Int → Int := if P.2.2.1 = 110 then itF E P.2.2.2.1.toNat r else if P.2.2.1 = 116 then tnR E r P.2.2.2.1 else if P.2.2.1 = 112 then psR E r P.2.2.2.1 P.2.2.2.2 else if P.2.2.1 = 98 then psR E r P.2.2.2.1 (-P.2.2.2.2) else swR E r P.2.2.2.1 P.2.2.2.2
/-- what an act that can stand is -/
theorem prA_ok {f : Int → Int} {t a : Int} (h : (prA f t a).1 = 1) : (a < t ∧ sgn (f a)) ∧ dg1 f t a ∧ ((f a = 110 ∨ f a = 116) ∧ prA f t a = (1, a + 2, f a, f (a + 1) - 48, 0) ∨ ¬ (f a = 110 ∨ f a = 116) ∧ dg2 f t a ∧ prA f t a = (1, a + 3, f a, f (a + 1) - 48, f (a + 2) - 48)) := by
  by_cases c : a < t ∧ sgn (f a)
  · by_cases c1 : dg1 f t a
    · by_cases c2 : f a = 110 ∨ f a = 116
      · exact ⟨c, c1, Or.inl ⟨c2, prA_2 c c1 c2⟩⟩
      · by_cases c3 : dg2 f t a
        · exact ⟨c, c1, Or.inr ⟨c2, c3, prA_4 c c1 c2 c3⟩⟩
        · rw [prA_3 c c1 c2 c3] at h
          exact absurd h (by show ¬ (0 : Int) = 1; decide)
    · rw [prA_1 c c1] at h
      exact absurd h (by show ¬ (0 : Int) = 1; decide)
  · rw [prA_0 c] at h
    exact absurd h (by show ¬ (0 : Int) = 1; decide)
abbrev kDo (kl k : Nat) (j : Int) : Prop := (k = 156 ∧ j = 2) ∨ (1 ≤ k ∧ k ≤ 7) ∨ (160 ≤ k ∧ k ≤ 162) ∨ k = kl + 3 ∨ k = kl + 4
theorem gX11_doAct {M E : Mem} {r : Int → Int} {Q : Int → Mem → Prop} (hI : IX M) (hS : STR E M) (hL : LAW E M (M 155 16).toNat) (hw : WFC (E 11) (E 1 24)) (hC : SC E M 1 r) (hW : WR E r) (h37 : r 37 ≤ 1999999000) (h1 : (prA (M 157) (M 156 3) (M 156 2)).1 = 1) (hQ : ∀ M' : Mem, IX M' → Ks (kDo (M 155 16).toNat) M M' → M' 156 2 = (prA (M 157) (M 156 3) (M 156 2)).2.1 → SC E M' 1 (doR E r (prA (M 157) (M 156 3) (M 156 2))) → WR E (doR E r (prA (M 157) (M 156 3) (M 156 2))) → Q (doA E r (prA (M 157) (M 156 3) (M 156 2))) M') : qX11_doAct M Q := by
  obtain ⟨c0, c1, c2⟩ := prA_ok h1
  have el : (M 155 16).toNat = 187 ∨ (M 155 16).toNat = 192 := hI.l16
  have eb := hS.eb
  have is1 : isS 1 := by decide
  unfold qX11_doAct
  refine gX9_look hI ?_
  intro x1 p1 _
  have f1 : x1 = M 157 (M 156 2) := by rcases p1 with q | q <;> omega
  refine gX9_pass hI ?_
  intro M2 i2 k2 p2
  have a2 : M2 156 2 = M 156 2 + 1 := by rcases p2 with q | q <;> omega
  have g157 : M2 157 = M 157 := funext fun j => k2 157 j (by omega)
  have g3 : M2 156 3 = M 156 3 := k2 156 3 (by omega)
  refine gX9_digit i2 ?_
  intro x3 M3 i3 k3 p3 _
  rw [g157, g3, a2] at p3
  have w1 : M 156 2 + 1 < M 156 3 := c1.1
  have w2 := c1.2.1
  have w3 := c1.2.2
  have v3 : x3 = M 157 (M 156 2 + 1) - 48 ∧ M3 156 2 = M 156 2 + 2 := by
    rcases p3 with q | q
    · exact ⟨q.2.1, by omega⟩
    · exact absurd ⟨w1, w2, w3⟩ q.1
  have K3 : Ks kA M M3 := k2.tr k3
  have h157 : M3 157 = M 157 := funext fun j => K3 157 j (by omega)
  have h3 : M3 156 3 = M 156 3 := K3 156 3 (by omega)
  have S3 : STR E M3 := hS.fr (K3 _ _ (by omega)) (K3 _ _ (by omega)) (K3 _ _ (by omega)) (fun j => K3 159 j (by omega))
  have C3 : SC E M3 1 r := hC.fr (fun i j hi => K3 _ j (by omega))
  have KD : ∀ M' : Mem, Ks (kDo (M 155 16).toNat) M3 M' → Ks (kDo (M 155 16).toNat) M M' := fun M' h => (K3.mono (fun k j q => Or.inl q)).tr h
  have own : ∀ m, 0 ≤ m → m < E 1 5 → 0 ≤ E 3 m ∧ E 3 m < E 1 4 := hS.2.2.2.2.2.2.2.2
  have DIG : ¬ (M 157 (M 156 2) = 110 ∨ M 157 (M 156 2) = 116) → ∀ Q' : Int → Mem → Prop, (∀ M5 : Mem, IX M5 → Ks kA M3 M5 → M5 156 2 = M 156 2 + 3 → Q' (M 157 (M 156 2 + 2) - 48) M5) → qX9_digit M3 Q' := by
    intro hn Q' hq
    have d2 : dg2 (M 157) (M 156 3) (M 156 2) := by
      rcases c2 with q | q
      · exact absurd q.1 hn
      · exact q.2.1
    refine gX9_digit i3 ?_
    intro x5 M5 i5 k5 p5
    rw [h157, h3, v3.2] at p5
    rcases p5 with q | q
    · rw [q.2.1]
      exact hq M5 i5 k5 (by omega)
    · exact absurd ⟨d2.1, d2.2.2.1, d2.2.2.2⟩ q.1
  have E4 : ¬ (M 157 (M 156 2) = 110 ∨ M 157 (M 156 2) = 116) → prA (M 157) (M 156 3) (M 156 2) = (1, M 156 2 + 3, M 157 (M 156 2), M 157 (M 156 2 + 1) - 48, M 157 (M 156 2 + 2) - 48) := by
    intro hn
    rcases c2 with q | q
    · exact absurd q.1 hn
    · exact q.2.2
  have E2 : (M 157 (M 156 2) = 110 ∨ M 157 (M 156 2) = 116) → prA (M 157) (M 156 3) (M 156 2) = (1, M 156 2 + 2, M 157 (M 156 2), M 157 (M 156 2 + 1) - 48, 0) := by
    intro hn
    rcases c2 with q | q
    · exact q.2
    · exact absurd hn q.1
  refine ⟨fun d => ?_, fun d => ?_, fun d => ?_, fun d => ?_, fun d => ?_⟩
  · have hn : ¬ (M 157 (M 156 2) = 110 ∨ M 157 (M 156 2) = 116) := by omega
    rw [E4 hn] at hQ
    refine DIG hn _ ?_
    intro M5 i5 k5 a5 _
    have S5 : STR E M5 := S3.fr (k5 _ _ (by omega)) (k5 _ _ (by omega)) (k5 _ _ (by omega)) (fun j => k5 159 j (by omega))
    have C5 : SC E M5 1 r := C3.fr (fun i j hi => k5 _ j (by omega))
    have b5 := bx_c157.mp (hI.bx 157 (M 156 2 + 2))
    refine ⟨⟨by omega, by omega⟩, ?_⟩
    rw [v3.1]
    refine gX6_shove i5 is1 S5 C5 hW ?_
    intro M7 i7 k7 c7 _
    have v : doA E r (1, M 156 2 + 3, M 157 (M 156 2), M 157 (M 156 2 + 1) - 48, M 157 (M 156 2 + 2) - 48) = psA E r (M 157 (M 156 2 + 1) - 48) (-(M 157 (M 156 2 + 2) - 48)) := by
      show (if M 157 (M 156 2) = 110 then _ else if M 157 (M 156 2) = 116 then _ else if M 157 (M 156 2) = 112 then _ else if M 157 (M 156 2) = 98 then _ else _) = _
      rw [if_neg (by omega), if_neg (by omega), if_neg (by omega), if_pos (by omega)]
    have w : doR E r (1, M 156 2 + 3, M 157 (M 156 2), M 157 (M 156 2 + 1) - 48, M 157 (M 156 2 + 2) - 48) = psR E r (M 157 (M 156 2 + 1) - 48) (-(M 157 (M 156 2 + 2) - 48)) := by
      show (if M 157 (M 156 2) = 110 then _ else if M 157 (M 156 2) = 116 then _ else if M 157 (M 156 2) = 112 then _ else if M 157 (M 156 2) = 98 then _ else _) = _
      rw [if_neg (by omega), if_neg (by omega), if_neg (by omega), if_pos (by omega)]
    rw [v, w] at hQ
    exact hQ M7 i7 (KD M7 ((k5.mono (fun k j q => Or.inl q)).tr (k7.mono (by intro k j q; omega)))) (by rw [k7 156 2 (by omega)]; exact a5) c7 (hW.ps eb)
  · have hn : M 157 (M 156 2) = 110 ∨ M 157 (M 156 2) = 116 := by omega
    rw [E2 hn] at hQ
    have g16 : M3 155 16 = M 155 16 := K3 155 16 (by omega)
    have L3 : LAW E M3 (M 155 16).toNat := hL.fr (K3 _ _ (by omega)) (K3 _ _ (by omega)) (fun j => K3 _ j (by omega)) (fun j => K3 _ j (by omega))
    rw [g16]
    refine ⟨hI.l16, ?_⟩
    refine gX10_walk i3 is1 hI.l16 S3 L3 hw C3 hW h37 (by omega) ?_
    intro M9 i9 k9 c9 w9 x10 e10 _
    have v : doA E r (1, M 156 2 + 2, M 157 (M 156 2), M 157 (M 156 2 + 1) - 48, 0) = itF E x3.toNat r 12 := by
      show (if M 157 (M 156 2) = 110 then itF E (M 157 (M 156 2 + 1) - 48).toNat r 12 else _) = _
      rw [if_pos (by omega), ← v3.1]
    have w : doR E r (1, M 156 2 + 2, M 157 (M 156 2), M 157 (M 156 2 + 1) - 48, 0) = itF E x3.toNat r := by
      show (if M 157 (M 156 2) = 110 then itF E (M 157 (M 156 2 + 1) - 48).toNat r else _) = _
      rw [if_pos (by omega), ← v3.1]
    rw [v, w] at hQ
    have f10 : x10 = itF E x3.toNat r 12 := by rw [e10]; exact c9.2.2.2.2.1
    rw [f10]
    exact hQ M9 i9 (KD M9 (k9.mono (by intro k j q; omega))) (by rw [k9 156 2 (by unfold kAd; omega)]; exact v3.2) c9 w9
  · have hn : ¬ (M 157 (M 156 2) = 110 ∨ M 157 (M 156 2) = 116) := by omega
    rw [E4 hn] at hQ
    refine DIG hn _ ?_
    intro M5 i5 k5 a5 _
    have S5 : STR E M5 := S3.fr (k5 _ _ (by omega)) (k5 _ _ (by omega)) (k5 _ _ (by omega)) (fun j => k5 159 j (by omega))
    have C5 : SC E M5 1 r := C3.fr (fun i j hi => k5 _ j (by omega))
    rw [v3.1]
    refine gX6_shove i5 is1 S5 C5 hW ?_
    intro M7 i7 k7 c7 _
    have v : doA E r (1, M 156 2 + 3, M 157 (M 156 2), M 157 (M 156 2 + 1) - 48, M 157 (M 156 2 + 2) - 48) = psA E r (M 157 (M 156 2 + 1) - 48) (M 157 (M 156 2 + 2) - 48) := by
      show (if M 157 (M 156 2) = 110 then _ else if M 157 (M 156 2) = 116 then _ else if M 157 (M 156 2) = 112 then _ else _) = _
      rw [if_neg (by omega), if_neg (by omega), if_pos (by omega)]
    have w : doR E r (1, M 156 2 + 3, M 157 (M 156 2), M 157 (M 156 2 + 1) - 48, M 157 (M 156 2 + 2) - 48) = psR E r (M 157 (M 156 2 + 1) - 48) (M 157 (M 156 2 + 2) - 48) := by
      show (if M 157 (M 156 2) = 110 then _ else if M 157 (M 156 2) = 116 then _ else if M 157 (M 156 2) = 112 then _ else _) = _
      rw [if_neg (by omega), if_neg (by omega), if_pos (by omega)]
    rw [v, w] at hQ
    exact hQ M7 i7 (KD M7 ((k5.mono (fun k j q => Or.inl q)).tr (k7.mono (by intro k j q; omega)))) (by rw [k7 156 2 (by omega)]; exact a5) c7 (hW.ps eb)
  · have hn : M 157 (M 156 2) = 110 ∨ M 157 (M 156 2) = 116 := by omega
    rw [E2 hn] at hQ
    refine gX6_turn i3 is1 S3 C3 hW ?_
    intro M7 i7 k7 c7 _
    have v : doA E r (1, M 156 2 + 2, M 157 (M 156 2), M 157 (M 156 2 + 1) - 48, 0) = tnA E r x3 := by
      show (if M 157 (M 156 2) = 110 then _ else if M 157 (M 156 2) = 116 then tnA E r (M 157 (M 156 2 + 1) - 48) else _) = _
      rw [if_neg (by omega), if_pos (by omega), ← v3.1]
    have w : doR E r (1, M 156 2 + 2, M 157 (M 156 2), M 157 (M 156 2 + 1) - 48, 0) = tnR E r x3 := by
      show (if M 157 (M 156 2) = 110 then _ else if M 157 (M 156 2) = 116 then tnR E r (M 157 (M 156 2 + 1) - 48) else _) = _
      rw [if_neg (by omega), if_pos (by omega), ← v3.1]
    rw [v, w] at hQ
    exact hQ M7 i7 (KD M7 (k7.mono (by intro k j q; omega))) (by rw [k7 156 2 (by omega)]; exact v3.2) c7 (hW.tn eb own)
  · have hn : ¬ (M 157 (M 156 2) = 110 ∨ M 157 (M 156 2) = 116) := by omega
    rw [E4 hn] at hQ
    refine DIG hn _ ?_
    intro M5 i5 k5 a5 _
    have S5 : STR E M5 := S3.fr (k5 _ _ (by omega)) (k5 _ _ (by omega)) (k5 _ _ (by omega)) (fun j => k5 159 j (by omega))
    have C5 : SC E M5 1 r := C3.fr (fun i j hi => k5 _ j (by omega))
    rw [v3.1]
    refine gX6_exchange i5 is1 S5 C5 hW ?_
    intro M7 i7 k7 c7 _
    have v : doA E r (1, M 156 2 + 3, M 157 (M 156 2), M 157 (M 156 2 + 1) - 48, M 157 (M 156 2 + 2) - 48) = swA E r (M 157 (M 156 2 + 1) - 48) (M 157 (M 156 2 + 2) - 48) := by
      show (if M 157 (M 156 2) = 110 then _ else if M 157 (M 156 2) = 116 then _ else if M 157 (M 156 2) = 112 then _ else if M 157 (M 156 2) = 98 then _ else _) = _
      rw [if_neg (by omega), if_neg (by omega), if_neg (by omega), if_neg (by omega)]
    have w : doR E r (1, M 156 2 + 3, M 157 (M 156 2), M 157 (M 156 2 + 1) - 48, M 157 (M 156 2 + 2) - 48) = swR E r (M 157 (M 156 2 + 1) - 48) (M 157 (M 156 2 + 2) - 48) := by
      show (if M 157 (M 156 2) = 110 then _ else if M 157 (M 156 2) = 116 then _ else if M 157 (M 156 2) = 112 then _ else if M 157 (M 156 2) = 98 then _ else _) = _
      rw [if_neg (by omega), if_neg (by omega), if_neg (by omega), if_neg (by omega)]
    rw [v, w] at hQ
    exact hQ M7 i7 (KD M7 ((k5.mono (fun k j q => Or.inl q)).tr (k7.mono (by intro k j q; omega)))) (by rw [k7 156 2 (by omega)]; exact a5) c7 (hW.sw eb)
end
section
/-! HOUR: the reference does acts -/
theorem gX12_does_L46 {p1 b : Int} {E : Mem} {r : Int → Int} {Q : Int → Mem → Prop} {m : Int} (hm : 0 ≤ m ∧ m ≤ 9) (hb : b + 9 ≤ 2000000000) (hQ : ∀ M' : Mem, IM (b + 9) M' → CE E M' → M' 5 = itF E m.toNat r → Q 1 M') : ∀ (n : Nat) (v3 : Int) (M : Mem), IM (b + v3) M → CE E M → M 5 = itF E v3.toNat r → (0 ≤ v3 ∧ v3 ≤ m) → m - v3 < (n : Int) → qX12_does_L46 p1 Q n m v3 M := by
  intro n
  induction n with
  | zero => intro v3 M hI hE hr hv hn; exact absurd hn (by omega)
  | succ n ih =>
    intro v3 M hI hE hr hv hn
    rw [qX12_does_L46]
    refine ⟨⟨by omega, by omega⟩, ⟨by omega, by omega⟩, ⟨fun c => hQ _ (hI.mono (by omega)) hE (by rw [hr, show v3.toNat = m.toNat from by omega]), fun c => ?_⟩⟩
    refine gX12_stepGoes hI hE (by omega) (Or.inl rfl) ?_
    intro M' i' E' k'
    exact ih _ _ (i'.mono (by omega)) E' (by rw [k', hr, itF_s hv.1]) (by omega) (by omega)
theorem ps_4 {E : Mem} {r : Int → Int} {m v : Int} : psA E r m v ≠ -4 := by
  unfold psA psV
  split
  · decide
  · split
    · decide
    · omega
theorem sw_4 {E : Mem} {r : Int → Int} {a b : Int} : swA E r a b ≠ -4 := by
  unfold swA
  split
  · decide
  · split
    · decide
    · have := (ab_b (r b - r a)).1
      omega
theorem gX12_does {p1 b : Int} {M E : Mem} {P : Int × Int × Int × Int × Int} {Q : Int → Mem → Prop} (hI : IM b M) (hE : CE E M) (hb : b + 9 ≤ 2000000000) (hk : 0 ≤ p1 ∧ p1 < 60) (hP : ENT M p1 P) (hs : sgn P.2.2.1) (hd : 0 ≤ P.2.2.2.1 ∧ P.2.2.2.1 ≤ 9) (hr12 : 0 ≤ itF E P.2.2.2.1.toNat (M 5) 12) (hQ : ∀ (z : Int) (M' : Mem), IM (b + 9) M' → CE E M' → M' 5 = doR E (M 5) P → (z = 1 ∧ isDn (doA E (M 5) P) ∨ z = 0 ∧ ¬ isDn (doA E (M 5) P)) → Q z M') : qX12_does p1 M Q := by
  obtain ⟨e19, e20, e21⟩ := hP
  unfold doA doR at hQ
  unfold qX12_does
  refine ⟨hk.1, hk.2, ?_⟩
  intro x3 w3 _ x4 w4 _
  have f3 : x3 = P.2.2.2.1 := by rw [w3, e20]
  have f4 : x4 = sgX P.2.2.1 := by rw [w4, e19]
  have W : ∀ N : Mem, IM b N → FrJ (fun k _ => k = 5) M N → CE E N := fun N _ f => hE.fr f (by intro k j h; rcases h with h | h | h | h | h <;> omega)
  refine ⟨fun c => ?_, fun c => ?_, fun c => ?_, fun c => ?_, fun c => ?_⟩
  · have s : P.2.2.1 = 110 := by
      rcases hs with h | h | h | h | h
      · exact h
      · rw [h] at f4; have : sgX 116 = 1 := rfl; omega
      · rw [h] at f4; have : sgX 112 = 2 := rfl; omega
      · rw [h] at f4; have : sgX 98 = 3 := rfl; omega
      · rw [h] at f4; have : sgX 120 = 4 := rfl; omega
    rw [if_pos s, if_pos s] at hQ
    refine ⟨10, ?_⟩
    rw [f3]
    refine gX12_does_L46 (b := b) (r := M 5) hd hb ?_ _ _ _ (hI.mono (by omega)) hE rfl (by omega) (by omega)
    intro M' i' E' k'
    exact hQ 1 M' i' E' k' (Or.inl ⟨rfl, Or.inl hr12⟩)
  · have s : P.2.2.1 = 116 := by
      rcases hs with h | h | h | h | h
      · rw [h] at f4; have : sgX 110 = 0 := rfl; omega
      · exact h
      · rw [h] at f4; have : sgX 112 = 2 := rfl; omega
      · rw [h] at f4; have : sgX 98 = 3 := rfl; omega
      · rw [h] at f4; have : sgX 120 = 4 := rfl; omega
    rw [if_neg (by omega), if_pos s, if_neg (by omega), if_pos s] at hQ
    refine gX12_turnsOne hI hE (Or.inl rfl) ?_
    intro M' i' f' k' _
    rw [f3] at k' ⊢
    refine ⟨fun d => hQ 1 M' (i'.mono (by omega)) (W M' i' f') k' (Or.inl ⟨rfl, Or.inl d⟩), fun d => ⟨fun d2 => hQ 0 M' (i'.mono (by omega)) (W M' i' f') k' (Or.inr ⟨rfl, fun u => ?_⟩), fun d2 => hQ 1 M' (i'.mono (by omega)) (W M' i' f') k' (Or.inl ⟨rfl, Or.inr d2⟩)⟩⟩
    rcases u with u | u
    · exact d u
    · exact d2 u
  · have s : P.2.2.1 = 112 := by
      rcases hs with h | h | h | h | h
      · rw [h] at f4; have : sgX 110 = 0 := rfl; omega
      · rw [h] at f4; have : sgX 116 = 1 := rfl; omega
      · exact h
      · rw [h] at f4; have : sgX 98 = 3 := rfl; omega
      · rw [h] at f4; have : sgX 120 = 4 := rfl; omega
    rw [if_neg (by omega), if_neg (by omega), if_pos s, if_neg (by omega), if_neg (by omega), if_pos s] at hQ
    intro x14 w14 _
    have f14 : x14 = P.2.2.2.2 := by rw [w14, e21 (by omega)]
    refine gX12_pushesOne hI hE (Or.inl rfl) ?_
    intro M' i' f' k' _
    rw [f3, f14] at k' ⊢
    have n4 := ps_4 (E := E) (r := M 5) (m := P.2.2.2.1) (v := P.2.2.2.2)
    refine ⟨fun d => hQ 0 M' (i'.mono (by omega)) (W M' i' f') k' (Or.inr ⟨rfl, fun u => ?_⟩), fun d => hQ 1 M' (i'.mono (by omega)) (W M' i' f') k' (Or.inl ⟨rfl, Or.inl (by omega)⟩)⟩
    rcases u with u | u
    · omega
    · exact n4 u
  · have s : P.2.2.1 = 98 := by
      rcases hs with h | h | h | h | h
      · rw [h] at f4; have : sgX 110 = 0 := rfl; omega
      · rw [h] at f4; have : sgX 116 = 1 := rfl; omega
      · rw [h] at f4; have : sgX 112 = 2 := rfl; omega
      · exact h
      · rw [h] at f4; have : sgX 120 = 4 := rfl; omega
    rw [if_neg (by omega), if_neg (by omega), if_neg (by omega), if_pos s, if_neg (by omega), if_neg (by omega), if_neg (by omega), if_pos s] at hQ
    intro x17 w17 _
    have f17 : x17 = P.2.2.2.2 := by rw [w17, e21 (by omega)]
    have b17 : -100 ≤ x17 ∧ x17 ≤ 300 := by rw [w17]; exact bm_c21.mp (hI.bx _ _)
    refine ⟨⟨by omega, by omega⟩, ?_⟩
    refine gX12_pushesOne hI hE (Or.inl rfl) ?_
    intro M' i' f' k' _
    rw [f3, f17] at k' ⊢
    have n4 := ps_4 (E := E) (r := M 5) (m := P.2.2.2.1) (v := -P.2.2.2.2)
    refine ⟨fun d => hQ 0 M' (i'.mono (by omega)) (W M' i' f') k' (Or.inr ⟨rfl, fun u => ?_⟩), fun d => hQ 1 M' (i'.mono (by omega)) (W M' i' f') k' (Or.inl ⟨rfl, Or.inl (by omega)⟩)⟩
    rcases u with u | u
    · omega
    · exact n4 u
  · have s : P.2.2.1 = 120 := by
      rcases hs with h | h | h | h | h
      · rw [h] at f4; have : sgX 110 = 0 := rfl; omega
      · rw [h] at f4; have : sgX 116 = 1 := rfl; omega
      · rw [h] at f4; have : sgX 112 = 2 := rfl; omega
      · rw [h] at f4; have : sgX 98 = 3 := rfl; omega
      · exact h
    rw [if_neg (by omega), if_neg (by omega), if_neg (by omega), if_neg (by omega), if_neg (by omega), if_neg (by omega), if_neg (by omega), if_neg (by omega)] at hQ
    intro x21 w21 _
    have f21 : x21 = P.2.2.2.2 := by rw [w21, e21 (by omega)]
    refine gX12_swapsTwo hI hE ?_
    intro M' i' f' k' _
    rw [f3, f21] at k' ⊢
    have n4 := sw_4 (E := E) (r := M 5) (a := P.2.2.2.1) (b := P.2.2.2.2)
    refine ⟨fun d => hQ 0 M' (i'.mono (by omega)) (W M' i' f') k' (Or.inr ⟨rfl, fun u => ?_⟩), fun d => hQ 1 M' (i'.mono (by omega)) (W M' i' f') k' (Or.inl ⟨rfl, Or.inl (by omega)⟩)⟩
    rcases u with u | u
    · omega
    · exact n4 u
end
section
/-! HOUR: the class does them -/
theorem do_nd {E : Mem} {r : Int → Int} {P : Int × Int × Int × Int × Int} (h0 : 0 ≤ itF E P.2.2.2.1.toNat r 12) (h : ¬ isDn (doA E r P)) : doR E r P = r := by
  unfold doA at h
  unfold doR
  by_cases c1 : P.2.2.1 = 110
  · rw [if_pos c1] at h
    exact absurd (Or.inl h0) h
  · rw [if_neg c1] at h ⊢
    by_cases c2 : P.2.2.1 = 116
    · rw [if_pos c2] at h ⊢
      exact tn_nd h
    · rw [if_neg c2] at h ⊢
      by_cases c3 : P.2.2.1 = 112
      · rw [if_pos c3] at h ⊢
        exact ps_nd h
      · rw [if_neg c3] at h ⊢
        by_cases c4 : P.2.2.1 = 98
        · rw [if_pos c4] at h ⊢
          exact ps_nd h
        · rw [if_neg c4] at h ⊢
          exact sw_nd h
theorem do_37 {E : Mem} {r : Int → Int} {P : Int × Int × Int × Int × Int} (hE : EBx E) (hd : 0 ≤ P.2.2.2.1 ∧ P.2.2.2.1 ≤ 9) : r 37 ≤ doR E r P 37 ∧ doR E r P 37 ≤ r 37 + 9 := by
  have e := hE.2
  have tn : ∀ m, tnR E r m 37 = r 37 := by
    intro m
    unfold tnR
    split
    · rename_i c
      rw [up_j (by have := c.1; omega)]
    · rfl
  have ps : ∀ m v, psR E r m v 37 = r 37 := by
    intro m v
    unfold psR
    split
    · rename_i c
      have c0 : 0 ≤ m ∧ m < E 1 5 := c.1.1
      rw [up_j (by omega)]
    · rfl
  have sw : ∀ a b, swR E r a b 37 = r 37 := by
    intro a b
    unfold swR
    split
    · rename_i c
      have c0 : 0 ≤ a ∧ a < E 1 4 := c.1.1
      have c1 : 0 ≤ b ∧ b < E 1 4 := c.1.2.1
      rw [up_j (by omega), up_j (by omega)]
    · rfl
  unfold doR
  by_cases c1 : P.2.2.1 = 110
  · rw [if_pos c1, itF_37 hE]
    omega
  · rw [if_neg c1]
    by_cases c2 : P.2.2.1 = 116
    · rw [if_pos c2, tn]
      omega
    · rw [if_neg c2]
      by_cases c3 : P.2.2.1 = 112
      · rw [if_pos c3, ps]
        omega
      · rw [if_neg c3]
        by_cases c4 : P.2.2.1 = 98
        · rw [if_pos c4, ps]
          omega
        · rw [if_neg c4, sw]
          omega
/-- from a on: how many acts are done, whether one is refused, the row then -/
noncomputable def hrG (E : Mem) (f : Int → Int) (t : Int) : Nat → Int → (Int → Int) → Int × Int × (Int → Int)
  | 0, _, r => (0, 0, r)
  | n + 1, a, r => if t ≤ a then (0, 0, r) else if 0 ≤ doA E r (prA f t a) ∨ doA E r (prA f t a) = -4 then ((hrG E f t n (prA f t a).2.1 (doR E r (prA f t a))).1 + 1, (hrG E f t n (prA f t a).2.1 (doR E r (prA f t a))).2) else (0, 1, r)
theorem gX11_hour_L32 {X92 : Int → Int → Int → Mem → Prop} {Q : Int → Mem → Prop} {M0 E : Mem} {T : Int × Int × (Int → Int)} (hI0 : IX M0) (hS0 : STR E M0) (hL0 : LAW E M0 (M0 155 16).toNat) (hw : WFC (E 11) (E 1 24)) (ht : M0 156 3 ≤ 60) (hX : ∀ M' : Mem, IX M' → Ks (kDo (M0 155 16).toNat) M0 M' → SC E M' 1 T.2.2 → WR E T.2.2 → X92 (-1) T.1 T.2.1 M') : ∀ (n : Nat) (v2 v4 : Int) (M : Mem) (r : Int → Int), IX M → Ks (kDo (M0 155 16).toNat) M0 M → SC E M 1 r → WR E r → (hrd (M0 157) (M0 156 3) n (M 156 2)).1 = 1 → v2 + (hrG E (M0 157) (M0 156 3) n (M 156 2) r).1 = T.1 → (hrG E (M0 157) (M0 156 3) n (M 156 2) r).2 = T.2 → (0 ≤ M 156 2 ∧ M 156 2 ≤ M0 156 3) → (0 ≤ v4 ∧ 2 * v4 ≤ M 156 2) → (0 ≤ v2 ∧ v2 ≤ v4) → r 37 ≤ 1999990000 + 9 * v4 → M0 156 3 - M 156 2 ≤ 2 * n → qX11_hour_L32 X92 Q (n + 1) (-1) v2 0 v4 M := by
  intro n
  induction n with
  | zero =>
    intro v2 v4 M r hI hK hC hW hp hT1 hT2 ha hv h2 h37 hn
    rw [qX11_hour_L32]
    refine ⟨⟨by omega, by omega⟩, ⟨fun c => by omega, fun _ => ⟨⟨by decide, by decide⟩, ⟨fun c => absurd rfl c, fun _ => ⟨⟨by decide, by decide⟩, ⟨fun c => absurd rfl c, fun _ => ?_⟩⟩⟩⟩⟩⟩
    unfold qX9_isRead
    intro x1 e1 _ x2 e2 _
    have el : (M0 155 16).toNat = 187 ∨ (M0 155 16).toNat = 192 := hI0.l16
    have e3 : M 156 3 = M0 156 3 := hK 156 3 (by omega)
    refine ⟨fun c => by omega, fun c => ?_⟩
    intro _ _
    refine ⟨fun _ => ?_, fun c2 => absurd c2 (by decide)⟩
    have t1 : v2 = T.1 := by rw [← hT1]; show v2 = v2 + 0; omega
    have t2 : ((0, r) : Int × (Int → Int)) = T.2 := hT2
    have H := hX M hI hK
    rw [← t2, ← t1] at H
    exact H hC hW
  | succ n ih =>
    intro v2 v4 M r hI hK hC hW hp hT1 hT2 ha hv h2 h37 hn
    have el : (M0 155 16).toNat = 187 ∨ (M0 155 16).toNat = 192 := hI0.l16
    have e157 : M 157 = M0 157 := funext fun j => hK 157 j (by omega)
    have e3 : M 156 3 = M0 156 3 := hK 156 3 (by omega)
    have e16 : M 155 16 = M0 155 16 := hK 155 16 (by omega)
    have b := prA_b (f := M0 157) (t := M0 156 3) ha.2
    have S1 : STR E M := hS0.fr (hK _ _ (by omega)) (hK _ _ (by omega)) (hK _ _ (by omega)) (fun j => hK 159 j (by omega))
    have L1 : LAW E M (M0 155 16).toNat := hL0.fr (hK _ _ (by omega)) (hK _ _ (by omega)) (fun j => hK _ j (by omega)) (fun j => hK _ j (by omega))
    rw [qX11_hour_L32]
    refine ⟨⟨by omega, by omega⟩, ⟨fun c => by omega, fun _ => ⟨⟨by decide, by decide⟩, ⟨fun c => absurd rfl c, fun _ => ⟨⟨by decide, by decide⟩, ⟨fun c => absurd rfl c, fun _ => ?_⟩⟩⟩⟩⟩⟩
    unfold qX9_isRead
    intro x1 e1 _ x2 e2 _
    unfold hrd at hp
    unfold hrG at hT1 hT2
    refine ⟨fun c => ?_, fun c => ?_⟩
    · intro _ _
      refine ⟨fun c2 => absurd rfl c2, fun _ => ?_⟩
      have na : ¬ M0 156 3 ≤ M 156 2 := by omega
      rw [if_neg na] at hp hT1 hT2
      have p1 : (prA (M0 157) (M0 156 3) (M 156 2)).1 = 1 := by
        rcases b.2 with q | q
        · rw [if_pos q] at hp
          exact absurd hp (by show ¬ (0 : Int) = 1; decide)
        · exact q.1
      rw [if_neg (by omega)] at hp
      refine gX11_doAct (r := r) hI S1 (by rw [e16]; exact L1) hw hC hW (by omega) (by rw [e157, e3]; exact p1) ?_
      intro M6 i6 k6 a6 c6 w6
      rw [e16] at k6
      rw [e157, e3] at a6 c6 w6 ⊢
      intro _
      have K6 := hK.tr k6
      have dd : 0 ≤ (prA (M0 157) (M0 156 3) (M 156 2)).2.2.2.1 ∧ (prA (M0 157) (M0 156 3) (M 156 2)).2.2.2.1 ≤ 9 := by
        obtain ⟨_, d1, d2⟩ := prA_ok p1
        have y1 := d1.2.1
        have y2 := d1.2.2
        rcases d2 with q | q
        · rw [q.2]
          show 0 ≤ M0 157 (M 156 2 + 1) - 48 ∧ M0 157 (M 156 2 + 1) - 48 ≤ 9
          omega
        · rw [q.2.2]
          show 0 ≤ M0 157 (M 156 2 + 1) - 48 ∧ M0 157 (M 156 2 + 1) - 48 ≤ 9
          omega
      have d37 := do_37 (r := r) (P := prA (M0 157) (M0 156 3) (M 156 2)) hS0.eb dd
      have h12 : (prA (M0 157) (M0 156 3) (M 156 2)).2.2.1 = 110 → 0 ≤ itF E (prA (M0 157) (M0 156 3) (M 156 2)).2.2.2.1.toNat r 12 := by
        intro s
        unfold doR at w6
        rw [if_pos s] at w6
        have := arF_b (itF E (prA (M0 157) (M0 156 3) (M 156 2)).2.2.2.1.toNat r) (eH E)
        have := w6.2.2.2.1
        omega
      have DONE : isDn (doA E r (prA (M0 157) (M0 156 3) (M 156 2))) → qX11_hour_J73 (qX11_hour_L32 X92 Q (n + 1)) X92 Q (-1) v2 v4 0 M6 := by
        intro dn
        rw [if_pos (show 0 ≤ doA E r (prA (M0 157) (M0 156 3) (M 156 2)) ∨ doA E r (prA (M0 157) (M0 156 3) (M 156 2)) = -4 from dn)] at hT1 hT2
        unfold qX11_hour_J73
        refine ⟨⟨by decide, by decide⟩, ⟨fun _ => ?_, fun c3 => absurd rfl c3⟩⟩
        refine ih (v2 + 1) (v4 + 1) M6 _ i6 K6 c6 w6 (by rw [a6]; exact hp) ?_ (by rw [a6]; exact hT2) (by omega) (by omega) (by omega) (by omega) (by omega)
        rw [a6, ← hT1]
        show v2 + 1 + _ = v2 + (_ + 1)
        omega
      have FAIL : ¬ isDn (doA E r (prA (M0 157) (M0 156 3) (M 156 2))) → qX11_hour_J73 (qX11_hour_L32 X92 Q (n + 1)) X92 Q (-1) v2 v4 1 M6 := by
        intro dn
        rw [if_neg (show ¬ (0 ≤ doA E r (prA (M0 157) (M0 156 3) (M 156 2)) ∨ doA E r (prA (M0 157) (M0 156 3) (M 156 2)) = -4) from dn)] at hT1 hT2
        have same : doR E r (prA (M0 157) (M0 156 3) (M 156 2)) = r := by
          by_cases s : (prA (M0 157) (M0 156 3) (M 156 2)).2.2.1 = 110
          · exact do_nd (h12 s) dn
          · unfold doA at dn
            unfold doR
            rw [if_neg s] at dn ⊢
            by_cases c2 : (prA (M0 157) (M0 156 3) (M 156 2)).2.2.1 = 116
            · rw [if_pos c2] at dn ⊢; exact tn_nd dn
            · rw [if_neg c2] at dn ⊢
              by_cases c3 : (prA (M0 157) (M0 156 3) (M 156 2)).2.2.1 = 112
              · rw [if_pos c3] at dn ⊢; exact ps_nd dn
              · rw [if_neg c3] at dn ⊢
                by_cases c4 : (prA (M0 157) (M0 156 3) (M 156 2)).2.2.1 = 98
                · rw [if_pos c4] at dn ⊢; exact ps_nd dn
                · rw [if_neg c4] at dn ⊢; exact sw_nd dn
        rw [same] at c6 w6
        unfold qX11_hour_J73
        refine ⟨⟨by decide, by decide⟩, ⟨fun c3 => absurd c3 (by decide), fun _ => ?_⟩⟩
        rw [qX11_hour_L32]
        have t1 : v2 + 0 = T.1 := hT1
        have t2 : ((1, r) : Int × (Int → Int)) = T.2 := hT2
        have H := hX M6 i6 K6
        rw [← t2, ← t1] at H
        have HH := H c6 w6
        refine ⟨⟨by omega, by omega⟩, ⟨fun _ => HH, fun _ => ⟨⟨by decide, by decide⟩, ⟨fun c3 => absurd rfl c3, fun _ => ⟨⟨by decide, by decide⟩, ⟨fun _ => HH, fun c3 => absurd c3 (by decide)⟩⟩⟩⟩⟩⟩
      unfold qX11_isDone
      refine ⟨fun d => ?_, fun d => ⟨fun d2 => ?_, fun d2 => ?_⟩⟩
      · intro _ _
        exact ⟨fun _ => DONE (Or.inl d), fun q => absurd q (by decide)⟩
      · intro _ _
        refine ⟨fun q => absurd rfl q, fun _ => FAIL (fun u => ?_)⟩
        rcases u with u | u
        · exact d u
        · exact d2 u
      · intro _ _
        exact ⟨fun _ => DONE (Or.inr d2), fun q => absurd q (by decide)⟩
    · intro _ _
      refine ⟨fun _ => ?_, fun c2 => absurd c2 (by decide)⟩
      rw [if_pos (show M0 156 3 ≤ M 156 2 by omega)] at hT1 hT2
      have t1 : v2 + 0 = T.1 := hT1
      have t2 : ((0, r) : Int × (Int → Int)) = T.2 := hT2
      have H := hX M hI hK
      rw [← t2, ← t1, Int.add_zero] at H
      exact H hC hW
end
section
/-! HOUR: the reference's loops -/
theorem mhF_oo {E : Mem} {r : Int → Int} {h j : Int} (hh : 0 ≤ h) (hj : j ≤ 5) (hn : j ≠ h) : mhF E r h j = r j := by
  unfold mhF
  split
  · rfl
  · split
    · rw [up_j hn, up_j (by omega), up_j (by omega)]
    · rw [up_j hn]
theorem WR.hs {E : Mem} (hE : EBx E) : ∀ (l : List Int) (r : Int → Int), VL (eG E) r l → (∀ x, x ∈ l → x < E 1 4) → WR E r → WR E (hsF E l r) := by
  intro l
  induction l with
  | nil => intro r _ _ hW; exact hW
  | cons h t ih =>
    intro r hV hl hW
    obtain ⟨v1, v2, v3⟩ := hV
    show WR E (hsF E t (mhF E r h))
    refine ih _ (v3.cg (fun x hx => ?_)) (fun x hx => hl x (List.mem_cons_of_mem _ hx)) (hW.mh hE ⟨v1.1, hl h List.mem_cons_self⟩ v1.2.2.1)
    have := v3.i x hx
    exact mhF_oo v1.1 this.2 (v2 x hx)
theorem WR.ms {E : Mem} {r : Int → Int} (hE : EBx E) (hW : WR E r) : ∀ n : Nat, (n : Int) ≤ E 1 5 → WR E (msF E n r) := by
  intro n
  induction n with
  | zero => intro _; exact hW
  | succ n ih =>
    intro h
    have i := ih (by omega)
    show WR E (if 0 ≤ msF E n r (29 + n) then msF E n r else mmF E (msF E n r) n)
    split
    · exact i
    · exact i.mm hE ⟨by omega, by omega⟩
theorem WR.st {E : Mem} {r : Int → Int} (hE : EBx E) (hW : WR E r) : WR E (stF E r) := by
  have f := hE.f
  have g := hE.2
  have hl : ∀ x, x ∈ lnL r (eH E) (eG E).toNat → x < E 1 4 := fun x q => by have := lnL_mem _ x q; omega
  have w := WR.ms hE (WR.hs hE _ r (lnL_VL (by omega) _ (by have := hE.1; omega)) hl hW) (eO E) (by omega)
  have e : ∀ j, j ≠ 37 → stF E r j = msF E (eO E) (hsF E (lnL r (eH E) (eG E).toNat) r) j := fun j h => by unfold stF; rw [up_j h]
  have e37 : stF E r 37 = msF E (eO E) (hsF E (lnL r (eH E) (eG E).toNat) r) 37 + 1 := by unfold stF; rw [upS]
  refine ⟨fun i j i0 i1 j0 j1 q p => ?_, fun i i0 i1 => ?_, fun i i0 i1 => ?_, ?_, ?_⟩
  · rw [e i (by omega), e j (by omega)] at q
    rw [e i (by omega)] at p
    exact w.1 i j i0 i1 j0 j1 q p
  · rw [e i (by omega), e (6 + i) (by omega)]
    exact w.2.1 i i0 i1
  · rw [e (21 + i) (by omega), e (13 + i) (by omega), e (29 + i) (by omega)]
    exact w.2.2.1 i i0 i1
  · rw [e 12 (by decide), w.2.2.2.1]
    exact arF_cg (fun i i0 i1 => by rw [e i (by omega)])
  · rw [e37]
    have := w.2.2.2.2
    omega
theorem WR.it {E : Mem} {r : Int → Int} (hE : EBx E) (hW : WR E r) : ∀ n : Nat, WR E (itF E n r) := by
  intro n
  induction n with
  | zero => exact hW
  | succ n ih => exact WR.st hE ih
theorem WR.dos {E : Mem} {r : Int → Int} {P : Int × Int × Int × Int × Int} (hE : EBx E) (hW : WR E r) (ho : ∀ m, 0 ≤ m → m < E 1 5 → 0 ≤ E 3 m ∧ E 3 m < E 1 4) : WR E (doR E r P) := by
  unfold doR
  split
  · exact WR.it hE hW _
  · split
    · exact hW.tn hE ho
    · split
      · exact hW.ps hE
      · split
        · exact hW.ps hE
        · exact hW.sw hE
/-- where the k-th act begins -/
def poA (f : Int → Int) (t : Int) : Nat → Int
  | 0 => 0
  | k + 1 => (prA f t (poA f t k)).2.1
theorem poA_s {f : Int → Int} {t k : Int} (h : 0 ≤ k) : poA f t (k + 1).toNat = (prA f t (poA f t k.toNat)).2.1 := by
  rw [show (k + 1).toNat = k.toNat + 1 from by omega]
  rfl
/-- the acts read so far: entry i is the act at its place -/
def ACS (M : Mem) (f : Int → Int) (t n : Int) : Prop := ∀ i, 0 ≤ i → i < n → (prA f t (poA f t i.toNat)).1 = 1 ∧ poA f t i.toNat < t ∧ ENT M i (prA f t (poA f t i.toNat))
theorem ACS.fr {M M' : Mem} {f : Int → Int} {t n : Int} (h : ACS M f t n) (hf : ∀ (k : Nat) (j : Int), (k = 19 ∨ k = 20 ∨ k = 21) → 0 ≤ j → j < n → M' k j = M k j) : ACS M' f t n := by
  intro i p q
  obtain ⟨a, b, c1, c2, c3⟩ := h i p q
  exact ⟨a, b, by rw [hf 19 i (by omega) p q]; exact c1, by rw [hf 20 i (by omega) p q]; exact c2, fun w => by rw [hf 21 i (by omega) p q]; exact c3 w⟩
theorem gX12_hour_L19 {b v1 : Int} {X42 : Int → Int → Mem → Prop} {Q : Int → Mem → Prop} {M0 : Mem} {T : Int × Int} (ht : M0 1 16 ≤ 60) (hX : ∀ M' : Mem, IM b M' → FrJ kAc M0 M' → M' 1 15 = T.2 → (T.1 = 1 → M0 1 16 ≤ T.2 → 0 ≤ M' 1 39 ∧ M' 1 39 ≤ 30 ∧ ACS M' (M0 7) (M0 1 16) (M' 1 39) ∧ poA (M0 7) (M0 1 16) (M' 1 39).toNat = M' 1 15) → X42 v1 T.1 M') : ∀ (n : Nat) (M : Mem), IM b M → FrJ kAc M0 M → hrd (M0 7) (M0 1 16) n (M 1 15) = T → M 1 15 ≤ M0 1 16 → (2 * M 1 39 ≤ M 1 15) → ACS M (M0 7) (M0 1 16) (M 1 39) → poA (M0 7) (M0 1 16) (M 1 39).toNat = M 1 15 → M0 1 16 - M 1 15 ≤ 2 * n → qX12_hour_L19 X42 Q (n + 2) v1 1 M := by
  intro n
  induction n with
  | zero =>
    intro M hI hF hT ha h2 hA hp hn
    have b39 := bm_c1_39.mp (hI.bx 1 39)
    have e16 : M 1 16 = M0 1 16 := hF 1 16 (by omega)
    rw [qX12_hour_L19]
    refine ⟨⟨by decide, by decide⟩, ⟨fun c => absurd c (by decide), fun _ => ?_⟩⟩
    intro x6 e6 _ x7 e7 _
    refine ⟨fun _ => ?_, fun c => by omega⟩
    subst hT
    exact hX M hI hF rfl (fun _ _ => ⟨b39.1, by omega, hA, hp⟩)
  | succ n ih =>
    intro M hI hF hT ha h2 hA hp hn
    have b39 := bm_c1_39.mp (hI.bx 1 39)
    have b15 := bm_c1_15.mp (hI.bx 1 15)
    have e7' : M 7 = M0 7 := funext fun j => hF 7 j (by omega)
    have e16 : M 1 16 = M0 1 16 := hF 1 16 (by omega)
    have bp := prA_b (f := M0 7) (t := M0 1 16) ha
    rw [qX12_hour_L19]
    refine ⟨⟨by decide, by decide⟩, ⟨fun c => absurd c (by decide), fun _ => ?_⟩⟩
    intro x6 e6 _ x7 e7 _
    unfold hrd at hT
    refine ⟨fun c => ?_, fun c => ?_⟩
    · rw [if_pos (by omega)] at hT
      subst hT
      exact hX M hI hF rfl (fun _ _ => ⟨b39.1, by omega, hA, hp⟩)
    · rw [if_neg (by omega)] at hT
      refine gX12_readsAct hI (by omega) (by omega) ?_
      intro M9 i9 f9 a9 o9 n9 en9
      rw [e7', e16] at a9 en9 ⊢
      intro _ _
      have F9 := hF.tr f9
      rcases bp.2 with q | q
      · rw [if_pos q] at hT
        rw [q, qX12_hour_L19]
        refine ⟨⟨by decide, by decide⟩, ⟨fun _ => ?_, fun c2 => absurd rfl c2⟩⟩
        subst hT
        exact hX M9 i9 F9 a9 (fun w => absurd w (by show ¬ (0 : Int) = 1; decide))
      · rw [if_neg (by omega)] at hT
        rw [q.1]
        refine ih M9 i9 F9 (by rw [a9]; exact hT) (by omega) (by omega) ?_ ?_ (by omega)
        · rw [n9]
          intro i p w
          by_cases ci : i = M 1 39
          · rw [ci, hp]
            exact ⟨q.1, by omega, en9 q.1⟩
          · have old := ACS.fr (M' := M9) hA o9 i p (by omega)
            exact old
        · rw [n9, poA_s b39.1, hp, a9]
abbrev kDm (k : Nat) (j : Int) : Prop := k = 5 ∨ (13 ≤ k ∧ k ≤ 14) ∨ (16 ≤ k ∧ k ≤ 18) ∨ (k = 1 ∧ (j = 30 ∨ j = 31 ∨ j = 35))
theorem gX12_hour_L64 {b : Int} {E M0 : Mem} {X88 : Int → Mem → Prop} {Q : Int → Mem → Prop} {f : Int → Int} {t K : Int} {T : Int × Int × (Int → Int)} (hE0 : EBx E) (ho : ∀ m, 0 ≤ m → m < E 1 5 → 0 ≤ E 3 m ∧ E 3 m < E 1 4) (hK : 0 ≤ K ∧ K ≤ 30) (hb : b + 300 ≤ 2000000000) (hlast : t ≤ poA f t K.toNat) (hX : ∀ (v4 : Int) (M' : Mem), IM (b + 300) M' → CE E M' → Ks kDm M0 M' → M' 5 = T.2.2 → M' 1 39 = K → v4 = T.1 → (T.2.1 = 0 ∧ v4 = K ∨ T.2.1 = 1 ∧ v4 < K) → X88 v4 M') : ∀ (n : Nat) (v4 : Int) (M : Mem) (r : Int → Int), IM (b + 9 * v4) M → CE E M → Ks kDm M0 M → M 5 = r → WR E r → M 1 39 = K → ACS M f t K → v4 + (hrG E f t n (poA f t v4.toNat) r).1 = T.1 → (hrG E f t n (poA f t v4.toNat) r).2 = T.2 → (0 ≤ v4 ∧ v4 ≤ K) → K - v4 < (n : Int) → qX12_hour_L64 X88 Q n v4 M := by
  intro n
  induction n with
  | zero => intro v4 M r hI hE hKs h5 hW h39 hA hT1 hT2 hv hn; exact absurd hn (by omega)
  | succ n ih =>
    intro v4 M r hI hE hKs h5 hW h39 hA hT1 hT2 hv hn
    rw [qX12_hour_L64]
    intro x16 e16 _
    unfold hrG at hT1 hT2
    refine ⟨⟨by omega, by omega⟩, ⟨fun c => ?_, fun c => ?_⟩⟩
    · have ev : v4 = K := by omega
      rw [ev, if_pos hlast] at hT1 hT2
      have t2 : ((0, r) : Int × (Int → Int)) = T.2 := hT2
      have t1 : K + 0 = T.1 := hT1
      exact hX v4 M (hI.mono (by omega)) hE hKs (by rw [h5, ← t2]) h39 (by omega) (Or.inl ⟨by rw [← t2], ev⟩)
    · obtain ⟨a1, a2, a3⟩ := hA v4 hv.1 (by omega)
      rw [if_neg (by omega)] at hT1 hT2
      obtain ⟨d0, d1, d2⟩ := prA_ok a1
      have dd : sgn (prA f t (poA f t v4.toNat)).2.2.1 ∧ 0 ≤ (prA f t (poA f t v4.toNat)).2.2.2.1 ∧ (prA f t (poA f t v4.toNat)).2.2.2.1 ≤ 9 := by
        have y1 := d1.2.1
        have y2 := d1.2.2
        rcases d2 with q | q
        · rw [q.2]
          refine ⟨d0.2, ?_⟩
          show 0 ≤ f (poA f t v4.toNat + 1) - 48 ∧ f (poA f t v4.toNat + 1) - 48 ≤ 9
          omega
        · rw [q.2.2]
          refine ⟨d0.2, ?_⟩
          show 0 ≤ f (poA f t v4.toNat + 1) - 48 ∧ f (poA f t v4.toNat + 1) - 48 ≤ 9
          omega
      have h12 : 0 ≤ itF E (prA f t (poA f t v4.toNat)).2.2.2.1.toNat r 12 := by
        have w := WR.it hE0 hW (prA f t (poA f t v4.toNat)).2.2.2.1.toNat
        have := arF_b (itF E (prA f t (poA f t v4.toNat)).2.2.2.1.toNat r) (eH E)
        have := w.2.2.2.1
        omega
      refine fmX12_does (gX12_does (P := prA f t (poA f t v4.toNat)) hI hE (by omega) ⟨hv.1, by omega⟩ a3 dd.1 dd.2 (by rw [h5]; exact h12) (Q := fun z M' => IM (b + 9 * v4 + 9) M' ∧ CE E M' ∧ M' 5 = doR E (M 5) (prA f t (poA f t v4.toNat)) ∧ (z = 1 ∧ isDn (doA E (M 5) (prA f t (poA f t v4.toNat))) ∨ z = 0 ∧ ¬ isDn (doA E (M 5) (prA f t (poA f t v4.toNat))))) (fun z M' p q u w => ⟨p, q, u, w⟩)) ?_
      intro z M' kf ⟨i', E', k5, hz⟩ _ _
      rw [h5] at k5 hz
      have A' : ACS M' f t K := hA.fr (fun k j hk h0 h1 => kf k j (by omega))
      have g39 : M' 1 39 = K := by rw [kf 1 39 (by omega)]; exact h39
      refine ⟨fun c2 => ?_, fun c2 => ?_⟩
      · have nd : ¬ isDn (doA E r (prA f t (poA f t v4.toNat))) := by
          rcases hz with q | q
          · omega
          · exact q.2
        rw [if_neg (show ¬ (0 ≤ doA E r (prA f t (poA f t v4.toNat)) ∨ doA E r (prA f t (poA f t v4.toNat)) = -4) from nd)] at hT1 hT2
        have t2 : ((1, r) : Int × (Int → Int)) = T.2 := hT2
        have t1 : v4 + 0 = T.1 := hT1
        rw [do_nd h12 nd] at k5
        exact hX v4 M' (i'.mono (by omega)) E' (hKs.tr kf) (by rw [k5, ← t2]) g39 (by omega) (Or.inr ⟨by rw [← t2], by omega⟩)
      · have dn : isDn (doA E r (prA f t (poA f t v4.toNat))) := by
          rcases hz with q | q
          · exact q.2
          · omega
        rw [if_pos (show 0 ≤ doA E r (prA f t (poA f t v4.toNat)) ∨ doA E r (prA f t (poA f t v4.toNat)) = -4 from dn)] at hT1 hT2
        refine ih (v4 + 1) M' (doR E r (prA f t (poA f t v4.toNat))) (i'.mono (by omega)) E' (hKs.tr kf) k5 (WR.dos hE0 hW ho) g39 A' ?_ ?_ (by omega) (by omega)
        · rw [poA_s hv.1, ← hT1]
          show v4 + 1 + _ = v4 + (_ + 1)
          omega
        · rw [poA_s hv.1]
          exact hT2
end
section
/-! THE RULE'S TEXT: what the class reads, as a pure row of states -/
/-- a number of three digits at most at a -/
def nm3 (f : Int → Int) (t a : Int) : Int × Int := if ¬ (a < t ∧ 48 ≤ f a ∧ f a ≤ 57) then (-1, a) else if ¬ (a + 1 < t ∧ 48 ≤ f (a + 1) ∧ f (a + 1) ≤ 57) then (nmV f a 1, a + 1) else if ¬ (a + 2 < t ∧ 48 ≤ f (a + 2) ∧ f (a + 2) ≤ 57) then (nmV f a 2, a + 2) else (nmV f a 3, a + 3)
theorem nm3_N (f : Int → Int) (t a : Int) : NUM f a t 3 (nm3 f t a).1 (nm3 f t a).2 := by
  unfold nm3
  by_cases c1 : a < t ∧ 48 ≤ f a ∧ f a ≤ 57
  · rw [if_neg (fun q => q c1)]
    by_cases c2 : a + 1 < t ∧ 48 ≤ f (a + 1) ∧ f (a + 1) ≤ 57
    · rw [if_neg (fun q => q c2)]
      by_cases c3 : a + 2 < t ∧ 48 ≤ f (a + 2) ∧ f (a + 2) ≤ 57
      · rw [if_neg (fun q => q c3)]
        refine Or.inr ⟨3, by decide, rfl, by omega, fun i p q => ?_, Or.inl rfl, rfl⟩
        have : i = 0 ∨ i = 1 ∨ i = 2 := by omega
        rcases this with rfl | rfl | rfl
        · rw [show a + 0 = a from by omega]; exact c1.2
        · exact c2.2
        · exact c3.2
      · rw [if_pos c3]
        refine Or.inr ⟨2, by decide, rfl, by omega, fun i p q => ?_, Or.inr ?_, rfl⟩
        · have : i = 0 ∨ i = 1 := by omega
          rcases this with rfl | rfl
          · rw [show a + 0 = a from by omega]; exact c1.2
          · exact c2.2
        · by_cases ct : t ≤ a + 2
          · exact Or.inl ct
          · exact Or.inr (fun w => c3 ⟨by omega, w.1, w.2⟩)
    · rw [if_pos c2]
      refine Or.inr ⟨1, by decide, rfl, by omega, fun i p q => ?_, Or.inr ?_, rfl⟩
      · rw [show a + i = a from by omega]; exact c1.2
      · by_cases ct : t ≤ a + 1
        · exact Or.inl ct
        · exact Or.inr (fun w => c2 ⟨by omega, w.1, w.2⟩)
  · rw [if_pos c1]
    exact Or.inl ⟨rfl, rfl, fun w => c1 ⟨w.1, w.2.1, w.2.2⟩⟩
theorem nm3_q {f g : Int → Int} {t a z a' : Int} (h : NUM g a t 3 z a') (hf : ∀ j, a ≤ j → j < t → g j = f j) : z = (nm3 f t a).1 ∧ a' = (nm3 f t a).2 := h.uq (nm3_N f t a) hf
theorem nm3_n {f : Int → Int} {t a : Int} (h : ¬ (a < t ∧ 48 ≤ f a ∧ f a ≤ 57)) : (nm3 f t a).1 = -1 ∧ (nm3 f t a).2 = a := by
  unfold nm3
  rw [if_pos h]
  exact ⟨rfl, rfl⟩
theorem nm3_p {f : Int → Int} {t a : Int} (h : a < t ∧ 48 ≤ f a ∧ f a ≤ 57) : 0 ≤ (nm3 f t a).1 := by
  rcases nm3_N f t a with ⟨_, _, w⟩ | ⟨k, hk, _, _, w, _, e⟩
  · exact absurd ⟨h.1, h.2.1, h.2.2⟩ w
  · rw [e]
    exact (nmV_b k.toNat (fun i p q => w i p (by omega))).1
/-- how close a sign binds; what the sign on top of those that wait binds -/
def bnd (c : Int) : Int := if c = 42 then 3 else if c = 43 then 2 else if c = 45 then 2 else if c = 47 then 3 else if c = 60 then 1 else if c = 61 then 1 else if c = 62 then 1 else if c = 302 then 4 else 0
def lbd : List Int → Int
  | [] => 0
  | c :: _ => bnd c
/-- those on top that bind as close or closer come into the law -/
def rls (b : Int) : List Int → List (Int × Int) → List Int × List (Int × Int)
  | [], O => ([], O)
  | c :: W, O => if bnd c < b then (c :: W, O) else rls b W ((c, 0) :: O)
def rel : List Int → List (Int × Int) → List (Int × Int)
  | [], O => O
  | c :: P, O => rel P ((c, 0) :: O)
def AL (b : Int) : List Int → Prop
  | [] => True
  | c :: P => b ≤ bnd c ∧ AL b P
theorem AL.mono {b b' : Int} : ∀ {P : List Int}, AL b P → b' ≤ b → AL b' P
  | [], _, _ => trivial
  | _ :: _, h, q => ⟨by have := h.1; omega, h.2.mono q⟩
theorem AL.app {b c : Int} : ∀ {P : List Int}, AL b P → b ≤ bnd c → AL b (P ++ [c])
  | [], _, q => ⟨q, trivial⟩
  | _ :: _, h, q => ⟨h.1, h.2.app q⟩
theorem rel_app (c : Int) : ∀ (P : List Int) (O : List (Int × Int)), rel (P ++ [c]) O = (c, 0) :: rel P O
  | [], _ => rfl
  | _ :: P, O => rel_app c P _
theorem ap1 (P : List Int) (c : Int) (W : List Int) : P ++ c :: W = (P ++ [c]) ++ W := by rw [List.append_assoc]; rfl
theorem rls_t {b : Int} {W : List Int} {O : List (Int × Int)} (h : lbd W < b) : rls b W O = (W, O) := by
  cases W with
  | nil => rfl
  | cons c W =>
    show (if bnd c < b then (c :: W, O) else rls b W ((c, 0) :: O)) = _
    rw [if_pos (show bnd c < b from h)]
theorem rls_a {b : Int} {W : List Int} : ∀ {P : List Int} {O : List (Int × Int)}, AL b P → lbd W < b → rls b (P ++ W) O = (W, rel P O)
  | [], _, _, h => rls_t h
  | c :: P, O, a, h => by
    show (if bnd c < b then (c :: (P ++ W), O) else rls b (P ++ W) ((c, 0) :: O)) = _
    rw [if_neg (by have := a.1; omega)]
    exact rls_a a.2 h
theorem rls_n {b : Int} : ∀ (W : List Int) (O : List (Int × Int)), ((rls b W O).1.length + (rls b W O).2.length = W.length + O.length) ∧ lbd (rls b W O).1 < b ∨ (rls b W O).1 = [] ∧ (rls b W O).2.length = W.length + O.length
  | [], O => Or.inr ⟨rfl, by show O.length = 0 + O.length; omega⟩
  | c :: W, O => by
    show ((if bnd c < b then (c :: W, O) else rls b W ((c, 0) :: O)).1.length + (if bnd c < b then (c :: W, O) else rls b W ((c, 0) :: O)).2.length = W.length + 1 + O.length) ∧ lbd (if bnd c < b then (c :: W, O) else rls b W ((c, 0) :: O)).1 < b ∨ (if bnd c < b then (c :: W, O) else rls b W ((c, 0) :: O)).1 = [] ∧ (if bnd c < b then (c :: W, O) else rls b W ((c, 0) :: O)).2.length = W.length + 1 + O.length
    by_cases d : bnd c < b
    · rw [if_pos d]
      exact Or.inl ⟨rfl, d⟩
    · rw [if_neg d]
      have h := rls_n (b := b) W ((c, 0) :: O)
      have e : ((c, 0) :: O).length = O.length + 1 := rfl
      rw [e] at h
      rcases h with h | h
      · exact Or.inl ⟨by omega, h.2⟩
      · exact Or.inr ⟨h.1, by omega⟩
theorem rls_len (b : Int) (W : List Int) (O : List (Int × Int)) : (rls b W O).1.length + (rls b W O).2.length = W.length + O.length := by
  rcases rls_n (b := b) W O with h | h
  · exact h.1
  · rw [h.1, h.2]
    exact Nat.zero_add _
theorem tl_len (W : List Int) : W.tail.length ≤ W.length := by
  cases W with
  | nil => exact Nat.le_refl _
  | cons c W => exact Nat.le_succ _
/-- a state of reading: whether a thing is wanted, depth, what waits, the law so far, the place -/
abbrev PSt : Type := Int × Int × List Int × List (Int × Int) × Int
def pst (f : Int → Int) (t : Int) : PSt → Option PSt
  | (w, dp, W, O, a) => if w = 1 then (if 0 ≤ (nm3 f t a).1 then some (0, dp, W, (300, (nm3 f t a).1) :: O, (nm3 f t a).2) else if f a = 45 then some (1, dp, 302 :: W, O, a + 1) else if f a = 40 ∧ dp < 4 then some (1, dp + 1, 40 :: W, O, a + 1) else if 0 ≤ ixS (bS 0) (f a) then some (0, dp, W, (301, ixS (bS 0) (f a)) :: O, a + 1) else none) else (if f a = 41 ∧ 0 < dp then some (0, dp - 1, (rls 1 W O).1.tail, (rls 1 W O).2, a + 1) else if bnd (f a) = 1 then (if lbd (rls 2 W O).1 = 1 then none else some (1, dp, f a :: (rls 2 W O).1, (rls 2 W O).2, a + 1)) else if 1 < bnd (f a) then some (1, dp, f a :: (rls (bnd (f a)) W O).1, (rls (bnd (f a)) W O).2, a + 1) else none)
theorem pst_1 {f : Int → Int} {t dp a : Int} {W : List Int} {O : List (Int × Int)} (h : 0 ≤ (nm3 f t a).1) : pst f t (1, dp, W, O, a) = some (0, dp, W, (300, (nm3 f t a).1) :: O, (nm3 f t a).2) := by
  rw [pst, if_pos rfl, if_pos h]
theorem pst_2 {f : Int → Int} {t dp a : Int} {W : List Int} {O : List (Int × Int)} (h : f a = 45) : pst f t (1, dp, W, O, a) = some (1, dp, 302 :: W, O, a + 1) := by
  rw [pst, if_pos rfl, if_neg (by rw [(nm3_n (f := f) (t := t) (a := a) (by omega)).1]; decide), if_pos h]
theorem pst_3 {f : Int → Int} {t dp a : Int} {W : List Int} {O : List (Int × Int)} (h : f a = 40) (hd : dp < 4) : pst f t (1, dp, W, O, a) = some (1, dp + 1, 40 :: W, O, a + 1) := by
  rw [pst, if_pos rfl, if_neg (by rw [(nm3_n (f := f) (t := t) (a := a) (by omega)).1]; decide), if_neg (by omega), if_pos ⟨h, hd⟩]
theorem pst_4 {f : Int → Int} {t dp a : Int} {W : List Int} {O : List (Int × Int)} (hn : (nm3 f t a).1 < 0) (h1 : f a ≠ 45) (h2 : ¬ (f a = 40 ∧ dp < 4)) (h : 0 ≤ ixS (bS 0) (f a)) : pst f t (1, dp, W, O, a) = some (0, dp, W, (301, ixS (bS 0) (f a)) :: O, a + 1) := by
  rw [pst, if_pos rfl, if_neg (by omega), if_neg h1, if_neg h2, if_pos h]
theorem pst_5 {f : Int → Int} {t dp a : Int} {W : List Int} {O : List (Int × Int)} (hn : (nm3 f t a).1 < 0) (h1 : f a ≠ 45) (h2 : ¬ (f a = 40 ∧ dp < 4)) (h : ixS (bS 0) (f a) < 0) : pst f t (1, dp, W, O, a) = none := by
  rw [pst, if_pos rfl, if_neg (by omega), if_neg h1, if_neg h2, if_neg (by omega)]
theorem pst_6 {f : Int → Int} {t w dp a : Int} {W : List Int} {O : List (Int × Int)} (hw : w ≠ 1) (h : f a = 41) (hd : 0 < dp) : pst f t (w, dp, W, O, a) = some (0, dp - 1, (rls 1 W O).1.tail, (rls 1 W O).2, a + 1) := by
  rw [pst, if_neg hw, if_pos ⟨h, hd⟩]
theorem pst_7 {f : Int → Int} {t w dp a : Int} {W : List Int} {O : List (Int × Int)} (hw : w ≠ 1) (h : bnd (f a) = 1) (hl : lbd (rls 2 W O).1 = 1) : pst f t (w, dp, W, O, a) = none := by
  have h41 : ¬ (f a = 41 ∧ 0 < dp) := fun q => by rw [q.1] at h; exact absurd h (by decide)
  rw [pst, if_neg hw, if_neg h41, if_pos h, if_pos hl]
theorem pst_8 {f : Int → Int} {t w dp a : Int} {W : List Int} {O : List (Int × Int)} (hw : w ≠ 1) (h : bnd (f a) = 1) (hl : lbd (rls 2 W O).1 ≠ 1) : pst f t (w, dp, W, O, a) = some (1, dp, f a :: (rls 2 W O).1, (rls 2 W O).2, a + 1) := by
  have h41 : ¬ (f a = 41 ∧ 0 < dp) := fun q => by rw [q.1] at h; exact absurd h (by decide)
  rw [pst, if_neg hw, if_neg h41, if_pos h, if_neg hl]
theorem pst_9 {f : Int → Int} {t w dp a : Int} {W : List Int} {O : List (Int × Int)} (hw : w ≠ 1) (h : 1 < bnd (f a)) : pst f t (w, dp, W, O, a) = some (1, dp, f a :: (rls (bnd (f a)) W O).1, (rls (bnd (f a)) W O).2, a + 1) := by
  have h41 : ¬ (f a = 41 ∧ 0 < dp) := fun q => by rw [q.1] at h; exact absurd h (by decide)
  rw [pst, if_neg hw, if_neg h41, if_neg (by omega), if_pos h]
theorem pst_0 {f : Int → Int} {t w dp a : Int} {W : List Int} {O : List (Int × Int)} (hw : w ≠ 1) (h41 : ¬ (f a = 41 ∧ 0 < dp)) (h : bnd (f a) < 1) : pst f t (w, dp, W, O, a) = none := by
  rw [pst, if_neg hw, if_neg h41, if_neg (by omega), if_neg (by omega)]
/-- how far a step goes -/
theorem pst_b {f : Int → Int} {t w dp a : Int} {W : List Int} {O : List (Int × Int)} {S1 : PSt} (ha : a < t) (h : pst f t (w, dp, W, O, a) = some S1) : a + 1 ≤ S1.2.2.2.2 ∧ S1.2.2.2.2 ≤ t ∧ (S1.2.2.1.length : Int) + S1.2.2.2.1.length ≤ W.length + O.length + 1 := by
  by_cases cw : w = 1
  · subst cw
    by_cases c1 : 0 ≤ (nm3 f t a).1
    · rw [pst_1 c1] at h
      have e := Option.some.inj h
      subst e
      have b := (nm3_N f t a).b (by decide)
      refine ⟨?_, ?_, ?_⟩
      · show a + 1 ≤ (nm3 f t a).2
        exact b.2.2.2.2.2.2.1 c1
      · show (nm3 f t a).2 ≤ t
        exact b.2.2.2.2.2.1 (by omega)
      · show (W.length : Int) + ((O.length + 1 : Nat) : Int) ≤ _
        omega
    · by_cases c2 : f a = 45
      · rw [pst_2 c2] at h
        have e := Option.some.inj h
        subst e
        refine ⟨Int.le_refl _, ?_, ?_⟩
        · show a + 1 ≤ t
          omega
        · show ((W.length + 1 : Nat) : Int) + O.length ≤ _
          omega
      · by_cases c3 : f a = 40 ∧ dp < 4
        · rw [pst_3 c3.1 c3.2] at h
          have e := Option.some.inj h
          subst e
          refine ⟨Int.le_refl _, ?_, ?_⟩
          · show a + 1 ≤ t
            omega
          · show ((W.length + 1 : Nat) : Int) + O.length ≤ _
            omega
        · by_cases c4 : 0 ≤ ixS (bS 0) (f a)
          · rw [pst_4 (by omega) c2 c3 c4] at h
            have e := Option.some.inj h
            subst e
            refine ⟨Int.le_refl _, ?_, ?_⟩
            · show a + 1 ≤ t
              omega
            · show (W.length : Int) + ((O.length + 1 : Nat) : Int) ≤ _
              omega
          · rw [pst_5 (by omega) c2 c3 (by omega)] at h
            cases h
  · by_cases c1 : f a = 41 ∧ 0 < dp
    · rw [pst_6 cw c1.1 c1.2] at h
      have e := Option.some.inj h
      subst e
      have l := rls_len 1 W O
      have l2 := tl_len (rls 1 W O).1
      refine ⟨Int.le_refl _, ?_, ?_⟩
      · show a + 1 ≤ t
        omega
      · show ((rls 1 W O).1.tail.length : Int) + (rls 1 W O).2.length ≤ _
        omega
    · by_cases c2 : bnd (f a) = 1
      · by_cases c3 : lbd (rls 2 W O).1 = 1
        · rw [pst_7 cw c2 c3] at h
          cases h
        · rw [pst_8 cw c2 c3] at h
          have e := Option.some.inj h
          subst e
          have l := rls_len 2 W O
          refine ⟨Int.le_refl _, ?_, ?_⟩
          · show a + 1 ≤ t
            omega
          · show (((rls 2 W O).1.length + 1 : Nat) : Int) + (rls 2 W O).2.length ≤ _
            omega
      · by_cases c3 : 1 < bnd (f a)
        · rw [pst_9 cw c3] at h
          have e := Option.some.inj h
          subst e
          have l := rls_len (bnd (f a)) W O
          refine ⟨Int.le_refl _, ?_, ?_⟩
          · show a + 1 ≤ t
            omega
          · show (((rls (bnd (f a)) W O).1.length + 1 : Nat) : Int) + (rls (bnd (f a)) W O).2.length ≤ _
            omega
        · rw [pst_0 cw c1 (by omega)] at h
          cases h
/-- n steps, as far as they go -/
def pru (f : Int → Int) (t : Int) : Nat → PSt → PSt
  | 0, S => S
  | n + 1, S => if S.2.2.2.2 < t then (match pst f t S with | some S1 => pru f t n S1 | none => S) else S
def PR (f : Int → Int) (t : Int) : Nat → PSt → PSt → Prop
  | 0, S, S' => S = S'
  | n + 1, S, S' => S.2.2.2.2 < t ∧ ∃ S1, pst f t S = some S1 ∧ PR f t n S1 S'
theorem PR.tr {f : Int → Int} {t : Int} : ∀ {n m : Nat} {S S1 S2 : PSt}, PR f t n S S1 → PR f t m S1 S2 → PR f t (n + m) S S2
  | 0, m, S, S1, S2, h, h2 => by
    have e : S = S1 := h
    rw [e, Nat.zero_add]
    exact h2
  | n + 1, m, S, S1, S2, h, h2 => by
    obtain ⟨a, T, b, c⟩ := h
    rw [Nat.succ_add]
    exact ⟨a, T, b, c.tr h2⟩
theorem PR.one {f : Int → Int} {t w dp a : Int} {W : List Int} {O : List (Int × Int)} {S1 : PSt} (ha : a < t) (h : pst f t (w, dp, W, O, a) = some S1) : PR f t 1 (w, dp, W, O, a) S1 := ⟨ha, S1, h, rfl⟩
theorem pru_s {f : Int → Int} {t : Int} {n : Nat} {S : PSt} (h : t ≤ S.2.2.2.2 ∨ pst f t S = none) : pru f t n S = S := by
  cases n with
  | zero => rfl
  | succ n =>
    unfold pru
    by_cases c : S.2.2.2.2 < t
    · rw [if_pos c]
      rcases h with h | h
      · omega
      · rw [h]
    · rw [if_neg c]
theorem pru_n {f : Int → Int} {t : Int} {n : Nat} {S S1 : PSt} (h : S.2.2.2.2 < t) (h1 : pst f t S = some S1) : pru f t (n + 1) S = pru f t n S1 := by
  show (if S.2.2.2.2 < t then (match pst f t S with | some S1 => pru f t n S1 | none => S) else S) = _
  rw [if_pos h, h1]
theorem PR.pru {f : Int → Int} {t : Int} : ∀ {m n : Nat} {S S' : PSt}, PR f t m S S' → (t ≤ S'.2.2.2.2 ∨ pst f t S' = none) → t - S.2.2.2.2 ≤ n → pru f t n S = S'
  | 0, n, S, S', h, q, _ => by
    have e : S = S' := h
    rw [e]
    exact pru_s q
  | m + 1, n, (w, dp, W, O, x), S', h, q, hn => by
    obtain ⟨a, T, b, c⟩ := h
    have a' : x < t := a
    have hn' : t - x ≤ n := hn
    have hb := pst_b (S1 := T) a' b
    cases n with
    | zero => omega
    | succ n =>
      rw [pru_n a b]
      exact c.pru q (by omega)
end
section
/-! THE RULE'S TEXT: the class reads it -/
/-- what waits stands in g; the law so far in g, h (its letters u) -/
def SK (g : Int → Int) : List Int → Prop
  | [] => True
  | c :: W => g W.length = c ∧ SK g W
def SO (g h : Int → Int) (u : Int) : List (Int × Int) → Prop
  | [] => True
  | p :: O => (g O.length = p.1 ∧ h O.length = p.2 ∧ kOK p.1 p.2 ∧ (p.1 = 301 → bt (iI u) p.2.toNat = true)) ∧ SO g h u O
theorem SK.cg {g g' : Int → Int} : ∀ {W : List Int}, SK g W → (∀ j : Int, 0 ≤ j → j < W.length → g' j = g j) → SK g' W
  | [], _, _ => trivial
  | c :: W, h, e => by
    have l : ((c :: W).length : Int) = W.length + 1 := by show ((W.length + 1 : Nat) : Int) = _; omega
    rw [l] at e
    exact ⟨by rw [e _ (by omega) (by omega)]; exact h.1, h.2.cg (fun j p q => e j p (by omega))⟩
theorem SO.cg {g h g' h' : Int → Int} {u u' : Int} (hu : ∀ i, bt (iI u) i = true → bt (iI u') i = true) : ∀ {O : List (Int × Int)}, SO g h u O → (∀ j : Int, 0 ≤ j → j < O.length → g' j = g j) → (∀ j : Int, 0 ≤ j → j < O.length → h' j = h j) → SO g' h' u' O
  | [], _, _, _ => trivial
  | p :: O, s, e, e2 => by
    have l : ((p :: O).length : Int) = O.length + 1 := by show ((O.length + 1 : Nat) : Int) = _; omega
    rw [l] at e e2
    obtain ⟨⟨a, b, c, d⟩, s2⟩ := s
    exact ⟨⟨by rw [e _ (by omega) (by omega)]; exact a, by rw [e2 _ (by omega) (by omega)]; exact b, c, fun q => hu _ (d q)⟩, s2.cg hu (fun j p q => e j p (by omega)) (fun j p q => e2 j p (by omega))⟩
/-- the law at k so far -/
def ROl (k : Nat) (M : Mem) (O : List (Int × Int)) : Prop := M k 4 = O.length ∧ SO (M (k + 1)) (M (k + 2)) (M k 5) O
def RWt (M : Mem) (W : List Int) : Prop := M 185 1 = W.length ∧ SK (M 186) W
theorem ROl.fr {k : Nat} {M M' : Mem} {O : List (Int × Int)} (h : ROl k M O) (e4 : M' k 4 = M k 4) (e5 : M' k 5 = M k 5) (e1 : M' (k + 1) = M (k + 1)) (e2 : M' (k + 2) = M (k + 2)) : ROl k M' O := by
  unfold ROl at h ⊢
  rw [e4, e5, e1, e2]
  exact h
theorem RWt.fr {M M' : Mem} {W : List Int} (h : RWt M W) (e1 : M' 185 1 = M 185 1) (e2 : M' 186 = M 186) : RWt M' W := by
  unfold RWt at h ⊢
  rw [e1, e2]
  exact h
abbrev kAl (k0 : Nat) (k : Nat) (j : Int) : Prop := (k = k0 ∧ (j = 4 ∨ j = 5)) ∨ k = k0 + 1 ∨ k = k0 + 2
theorem gX2_add {k0 : Nat} {p1 p2 : Int} {M : Mem} {O : List (Int × Int)} {Q : Mem → Prop} (hI : IX M) (hk0 : isL k0) (hp : kOK p1 p2) (hu : p1 = 301 → bt (iI (M k0 5)) p2.toNat = true) (hR : ROl k0 M O) (hn : O.length < 40) (hQ : ∀ M' : Mem, IX M' → Ks (fun k j => (k = k0 ∧ j = 4) ∨ k = k0 + 1 ∨ k = k0 + 2) M M' → ROl k0 M' ((p1, p2) :: O) → Q M') : qX2_add k0 p1 p2 M Q := by
  have ek0 : k0 = 187 ∨ k0 = 192 := hk0
  have h301 : p1 = 301 → 0 ≤ p2 ∧ p2 ≤ 6 := by intro h; rcases hp with q | q | q | q | q | q | q | q | q | q <;> omega
  obtain ⟨hl, hs⟩ := hR
  unfold qX2_add
  intro x1 e1 r1
  refine ⟨fun c => by omega, fun c => ?_⟩
  intro x3 e3 r3
  refine ⟨by omega, by omega, ?_⟩
  intro M6 h6 x7 e7 r7
  have f7 : x7 = x3 := by rw [e7, h6, up2_n (by omega), e3]
  refine ⟨by omega, by omega, ?_⟩
  intro M10 h10 x11 e11 r11
  have f11 : x11 = x3 := by rw [e11, h10, up2_n (by omega), h6, up2_n (by omega), e3]
  refine ⟨⟨by omega, by omega⟩, ?_⟩
  intro M13 h13
  have K : Ks (fun k j => (k = k0 ∧ j = 4) ∨ k = k0 + 1 ∨ k = k0 + 2) M M13 := by
    rw [h13, h10, h6]
    exact ((Ks.rf.wr (Or.inr (Or.inl rfl))).wr (Or.inr (Or.inr rfl))).wr (Or.inl ⟨rfl, rfl⟩)
  have g1 : ∀ j, M13 (k0 + 1) j = if j = x3 then p1 else M (k0 + 1) j := by
    intro j
    rw [h13, up2_n (by omega), h10, up2_n (by omega), h6, up2_a, if_pos rfl]
  have g2 : ∀ j, M13 (k0 + 2) j = if j = x3 then p2 else M (k0 + 2) j := by
    intro j
    rw [h13, up2_n (by omega), h10, up2_a, if_pos rfl, f7, h6, up2_n (by omega)]
  refine hQ _ ?_ K ⟨?_, ⟨?_, ?_, hp, ?_⟩, ?_⟩
  · rw [h13, h10, h6]
    refine ⟨BX.up (BX.up (BX.up hI.1 (bx_lf1 hk0)) (bx_lf2 hk0)) ((bx_l4 hk0).mpr ⟨by omega, by omega⟩), ?_, fun k' j' hk' => ?_⟩
    · rw [up2_n (by rcases hk0 with rfl | rfl <;> omega), up2_n (by rcases hk0 with rfl | rfl <;> omega), up2_n (by rcases hk0 with rfl | rfl <;> omega)]
      exact hI.2.1
    · have hd : k' + 1 ≠ k0 ∧ k' + 1 ≠ k0 + 2 ∧ k' + 2 ≠ k0 ∧ k' + 2 ≠ k0 + 1 := by rcases hk' with rfl | rfl <;> rcases hk0 with rfl | rfl <;> omega
      rw [up2_n hd.1, up2_n hd.2.1, up2_n hd.2.2.1, f7, up2_a, up2_a, up2_n (k' := k' + 2) hd.2.2.2]
      by_cases c1 : k' = k0
      · subst c1
        rw [if_pos rfl, if_pos rfl]
        by_cases c2 : j' = x3
        · rw [if_pos c2, if_pos c2]; exact h301
        · rw [if_neg c2, if_neg c2]; exact hI.2.2 _ _ hk'
      · rw [if_neg (by omega), if_neg (by omega)]; exact hI.2.2 _ _ hk'
  · show M13 k0 4 = ((O.length + 1 : Nat) : Int)
    rw [h13, up2_s]
    omega
  · show M13 (k0 + 1) O.length = p1
    rw [g1, if_pos (by omega)]
  · show M13 (k0 + 2) O.length = p2
    rw [g2, if_pos (by omega)]
  · show p1 = 301 → bt (iI (M13 k0 5)) p2.toNat = true
    rw [K k0 5 (by omega)]
    exact hu
  · refine hs.cg (u' := M13 k0 5) (by rw [K k0 5 (by omega)]; exact fun _ q => q) (fun j p q => ?_) (fun j p q => ?_)
    · rw [g1, if_neg (by omega)]
    · rw [g2, if_neg (by omega)]
theorem gX2_addLetter {k0 : Nat} {p1 : Int} {M : Mem} {O : List (Int × Int)} {Q : Mem → Prop} (hI : IX M) (hk0 : isL k0) (hp : 0 ≤ p1 ∧ p1 ≤ 6) (hR : ROl k0 M O) (hn : O.length < 40) (hQ : ∀ M' : Mem, IX M' → Ks (kAl k0) M M' → ROl k0 M' ((301, p1) :: O) → Q M') : qX2_addLetter k0 p1 M Q := by
  have ek0 : k0 = 187 ∨ k0 = 192 := hk0
  have h301 : (301 : Int) = 301 → 0 ≤ p1 ∧ p1 ≤ 6 := fun _ => hp
  obtain ⟨hl, hs⟩ := hR
  unfold qX2_addLetter qX2_add
  intro x1 e1 r1
  refine ⟨fun c => by omega, fun c => ?_⟩
  intro x3 e3 r3
  refine ⟨by omega, by omega, ?_⟩
  intro M6 h6 x7 e7 r7
  have f7 : x7 = x3 := by rw [e7, h6, up2_n (by omega), e3]
  refine ⟨by omega, by omega, ?_⟩
  intro M10 h10 x11 e11 r11
  have f11 : x11 = x3 := by rw [e11, h10, up2_n (by omega), h6, up2_n (by omega), e3]
  refine ⟨⟨by omega, by omega⟩, ?_⟩
  intro M13 h13
  have i13 : IX M13 := by
    rw [h13, h10, h6]
    refine ⟨BX.up (BX.up (BX.up hI.1 (bx_lf1 hk0)) (bx_lf2 hk0)) ((bx_l4 hk0).mpr ⟨by omega, by omega⟩), ?_, fun k' j' hk' => ?_⟩
    · rw [up2_n (by rcases hk0 with rfl | rfl <;> omega), up2_n (by rcases hk0 with rfl | rfl <;> omega), up2_n (by rcases hk0 with rfl | rfl <;> omega)]
      exact hI.2.1
    · have hd : k' + 1 ≠ k0 ∧ k' + 1 ≠ k0 + 2 ∧ k' + 2 ≠ k0 ∧ k' + 2 ≠ k0 + 1 := by rcases hk' with rfl | rfl <;> rcases hk0 with rfl | rfl <;> omega
      rw [up2_n hd.1, up2_n hd.2.1, up2_n hd.2.2.1, f7, up2_a, up2_a, up2_n (k' := k' + 2) hd.2.2.2]
      by_cases c1 : k' = k0
      · subst c1
        rw [if_pos rfl, if_pos rfl]
        by_cases c2 : j' = x3
        · rw [if_pos c2, if_pos c2]; exact h301
        · rw [if_neg c2, if_neg c2]; exact hI.2.2 _ _ hk'
      · rw [if_neg (by omega), if_neg (by omega)]; exact hI.2.2 _ _ hk'
  have g1 : ∀ j, M13 (k0 + 1) j = if j = x3 then 301 else M (k0 + 1) j := by
    intro j
    rw [h13, up2_n (by omega), h10, up2_n (by omega), h6, up2_a, if_pos rfl]
  have g2 : ∀ j, M13 (k0 + 2) j = if j = x3 then p1 else M (k0 + 2) j := by
    intro j
    rw [h13, up2_n (by omega), h10, up2_a, if_pos rfl, f7, h6, up2_n (by omega)]
  have g5 : M13 k0 5 = M k0 5 := by rw [h13, up2_j (by decide), h10, up2_n (by omega), h6, up2_n (by omega)]
  intro y2 q2 _ y3 q3 _ y4 q4 _ M5 h5
  have hb : ∀ i, i < 32 → bt (iI y4) i = (bt (iI (M k0 5)) i || decide ((i : Int) = p1)) := by
    intro i hi
    rw [q4, bt_oI, q3, bt_sl1 ⟨by omega, by omega⟩ hi, q2, g5]
  have hm : ∀ i, bt (iI (M k0 5)) i = true → bt (iI y4) i = true := by
    intro i h
    by_cases c : i < 32
    · rw [hb i c, h]; rfl
    · rw [b_big (by omega)] at h
      cases h
  have k1 : M5 (k0 + 1) = M13 (k0 + 1) := by rw [h5, up2_n (by omega)]
  have k2 : M5 (k0 + 2) = M13 (k0 + 2) := by rw [h5, up2_n (by omega)]
  have k4 : M5 k0 4 = M13 k0 4 := by rw [h5, up2_j (by decide)]
  have k5 : M5 k0 5 = y4 := by rw [h5, up2_s]
  refine hQ _ ?_ ?_ ⟨?_, ⟨?_, ?_, Or.inr (Or.inl ⟨rfl, hp⟩), ?_⟩, ?_⟩
  · rw [h5]; exact i13.up (isL.nsp0 hk0) (bx_lf0 hk0 (by decide))
  · rw [h5, h13, h10, h6]
    exact (((Ks.rf.wr (Or.inr (Or.inl rfl))).wr (Or.inr (Or.inr rfl))).wr (Or.inl ⟨rfl, Or.inl rfl⟩)).wr (Or.inl ⟨rfl, Or.inr rfl⟩)
  · show M5 k0 4 = ((O.length + 1 : Nat) : Int)
    rw [k4, h13, up2_s]
    omega
  · show M5 (k0 + 1) O.length = 301
    rw [k1, g1, if_pos (by omega)]
  · show M5 (k0 + 2) O.length = p1
    rw [k2, g2, if_pos (by omega)]
  · intro _
    show bt (iI (M5 k0 5)) p1.toNat = true
    rw [k5, hb _ (by omega), decide_eq_true (by omega), Bool.or_true]
  · rw [k5]
    refine hs.cg hm (fun j p q => ?_) (fun j p q => ?_)
    · rw [k1, g1, if_neg (by omega)]
    · rw [k2, g2, if_neg (by omega)]
theorem gX5_bindingOf {p0 : Int} {M : Mem} {Q : Int → Mem → Prop} (hQ : Q (bnd p0) M) : qX5_bindingOf p0 M Q := by
  unfold qX5_bindingOf
  refine ⟨fun c => ?_, fun c => ?_, fun c => ?_, fun c => ?_, fun c => ?_, fun c => ?_, fun c => ?_, fun c => ?_, fun c => ?_⟩
  · rw [c] at hQ; exact hQ
  · rw [c] at hQ; exact hQ
  · rw [c] at hQ; exact hQ
  · rw [c] at hQ; exact hQ
  · rw [c] at hQ; exact hQ
  · rw [c] at hQ; exact hQ
  · rw [c] at hQ; exact hQ
  · rw [c] at hQ; exact hQ
  · obtain ⟨c1, c2, c3, c4, c5, c6, c7, c8⟩ := c
    have e : bnd p0 = 0 := by
      unfold bnd
      rw [if_neg c1, if_neg c2, if_neg c3, if_neg c4, if_neg c5, if_neg c6, if_neg c7, if_neg c8]
    rw [e] at hQ
    exact hQ
theorem bnd_b (c : Int) : 0 ≤ bnd c ∧ bnd c ≤ 4 ∧ (1 ≤ bnd c → kOK c 0 ∧ c ≠ 301 ∧ c ≠ 40) := by
  unfold bnd kOK
  by_cases c1 : c = 42
  · rw [if_pos c1]; omega
  · rw [if_neg c1]
    by_cases c2 : c = 43
    · rw [if_pos c2]; omega
    · rw [if_neg c2]
      by_cases c3 : c = 45
      · rw [if_pos c3]; omega
      · rw [if_neg c3]
        by_cases c4 : c = 47
        · rw [if_pos c4]; omega
        · rw [if_neg c4]
          by_cases c5 : c = 60
          · rw [if_pos c5]; omega
          · rw [if_neg c5]
            by_cases c6 : c = 61
            · rw [if_pos c6]; omega
            · rw [if_neg c6]
              by_cases c7 : c = 62
              · rw [if_pos c7]; omega
              · rw [if_neg c7]
                by_cases c8 : c = 302
                · rw [if_pos c8]; omega
                · rw [if_neg c8]; omega
theorem gX5_latestBinding {W : List Int} {M : Mem} {Q : Int → Mem → Prop} (hR : RWt M W) (hl : W.length ≤ 40) (hQ : Q (lbd W) M) : qX5_latestBinding M Q := by
  obtain ⟨h1, h2⟩ := hR
  unfold qX5_latestBinding
  intro x1 e1 _
  cases W with
  | nil =>
    have l : (([] : List Int).length : Int) = 0 := rfl
    exact ⟨fun _ => hQ, fun c => by omega⟩
  | cons c W =>
    have l : ((c :: W).length : Int) = W.length + 1 := by show ((W.length + 1 : Nat) : Int) = _; omega
    have l2 : (c :: W).length = W.length + 1 := rfl
    refine ⟨fun q => by omega, fun _ => ?_⟩
    intro x3 e3 _
    refine ⟨by omega, by omega, ?_⟩
    intro x6 e6 _
    have f6 : x6 = c := by
      rw [e6, show x3 - 1 = (W.length : Int) from by omega]
      exact h2.1
    rw [f6]
    exact gX5_bindingOf (fun _ => hQ)
abbrev kRl (k1 : Nat) (k : Nat) (j : Int) : Prop := (k = 185 ∧ j = 1) ∨ (k = k1 ∧ j = 4) ∨ k = k1 + 1 ∨ k = k1 + 2
theorem gX5_release_L0 {k1 : Nat} {p2 : Int} {M0 : Mem} {Q : Mem → Prop} {T : List Int × List (Int × Int)} (hk1 : isL k1) (hp : 1 ≤ p2) (hQ : ∀ M' : Mem, IX M' → Ks (kRl k1) M0 M' → RWt M' T.1 → ROl k1 M' T.2 → Q M') : ∀ (W : List Int) (O : List (Int × Int)) (n : Nat) (M : Mem), IX M → Ks (kRl k1) M0 M → RWt M W → ROl k1 M O → W.length + O.length ≤ 40 → rls p2 W O = T → W.length < n → qX5_release_L0 k1 p2 Q n M := by
  have ek1 : k1 = 187 ∨ k1 = 192 := hk1
  intro W
  induction W with
  | nil =>
    intro O n M hI hK hW hO hl hT hn
    cases n with
    | zero => exact absurd hn (by omega)
    | succ n =>
      rw [qX5_release_L0]
      intro x1 e1 _
      have l : (([] : List Int).length : Int) = 0 := rfl
      have := hW.1
      refine ⟨fun _ => ?_, fun c => by omega⟩
      subst hT
      exact hQ _ hI hK hW hO
  | cons c W ih =>
    intro O n M hI hK hW hO hl hT hn
    have l : ((c :: W).length : Int) = W.length + 1 := by show ((W.length + 1 : Nat) : Int) = _; omega
    have l2 : (c :: W).length = W.length + 1 := rfl
    cases n with
    | zero => exact absurd hn (by omega)
    | succ n =>
      have w1 := hW.1
      rw [qX5_release_L0]
      intro x1 e1 _
      refine ⟨fun q => by omega, fun _ => ?_⟩
      refine gX5_latestBinding hW (by omega) ?_
      intro _
      have hT' : (if bnd c < p2 then (c :: W, O) else rls p2 W ((c, 0) :: O)) = T := hT
      refine ⟨fun q => ?_, fun q => ?_⟩
      · have q' : bnd c < p2 := q
        rw [if_pos q'] at hT'
        subst hT'
        exact hQ _ hI hK hW hO
      · have q' : ¬ bnd c < p2 := q
        rw [if_neg q'] at hT'
        have bb := (bnd_b c).2.2 (by omega)
        intro x5 e5 _
        refine ⟨⟨by omega, by omega⟩, ?_⟩
        intro M7 h7 x8 e8 _
        have f8 : x8 = W.length := by rw [e8, h7, up2_s]; omega
        refine ⟨by omega, by omega, ?_⟩
        intro x11 e11 _
        have f11 : x11 = c := by
          rw [e11, h7, up2_n (by decide), f8]
          exact hW.2.1
        have i7 : IX M7 := by rw [h7]; exact hI.up (by decide) (bx_c185_1.mpr ⟨by omega, by omega⟩)
        rw [f11]
        refine gX2_add (O := O) i7 hk1 bb.1 (fun w => absurd w bb.2.1) (hO.fr (by rw [h7, up2_n (by omega)]) (by rw [h7, up2_n (by omega)]) (by rw [h7, up2_n (by omega)]) (by rw [h7, up2_n (by omega)])) (by omega) ?_
        intro M12 i12 k12 o12
        refine ih _ n M12 i12 ?_ ⟨?_, ?_⟩ o12 (by show W.length + (O.length + 1) ≤ 40; omega) hT' (by omega)
        · have k7 : Ks (kRl k1) M0 M7 := by rw [h7]; exact hK.wr (Or.inl ⟨rfl, rfl⟩)
          exact k7.tr (k12.mono (by intro k j h; omega))
        · rw [k12 185 1 (by omega), h7, up2_s]
          omega
        · rw [show M12 186 = M 186 from by rw [show M12 186 = M7 186 from funext fun j => k12 186 j (by omega), h7, up2_n (by decide)]]
          exact hW.2.2
theorem release_of {k1 : Nat} {p2 : Int} {M : Mem} {Q : Mem → Prop} (h : ∃ n, qX5_release_L0 k1 p2 Q n M) : qX5_release k1 p2 M Q := by
  obtain ⟨n, h⟩ := h
  cases n with
  | zero => rw [qX5_release_L0] at h; exact h.elim
  | succ n =>
    rw [qX5_release_L0] at h
    unfold qX5_release
    intro x1 e1 r1
    refine ⟨(h x1 e1 r1).1, fun c => ?_⟩
    refine fmX5_latestBinding ((h x1 e1 r1).2 c) ?_
    intro x3 M3 _ h3 r3
    refine ⟨(h3 r3).1, fun c2 => ?_⟩
    intro x5 e5 r5
    obtain ⟨a, h4⟩ := (h3 r3).2 c2 x5 e5 r5
    refine ⟨a, ?_⟩
    intro M7 e7 x8 e8 r8
    obtain ⟨a2, a3, h5⟩ := h4 M7 e7 x8 e8 r8
    refine ⟨a2, a3, ?_⟩
    intro x11 e11 r11
    exact fmX2_add (h5 x11 e11 r11) (fun M' _ h6 => ⟨n, h6⟩)
theorem gX5_release {k1 : Nat} {p2 : Int} {M : Mem} {W : List Int} {O : List (Int × Int)} {Q : Mem → Prop} (hI : IX M) (hk1 : isL k1) (hp : 1 ≤ p2) (hW : RWt M W) (hO : ROl k1 M O) (hl : W.length + O.length ≤ 40) (hQ : ∀ M' : Mem, IX M' → Ks (kRl k1) M M' → RWt M' (rls p2 W O).1 → ROl k1 M' (rls p2 W O).2 → Q M') : qX5_release k1 p2 M Q :=
  release_of ⟨W.length + 1, gX5_release_L0 hk1 hp hQ W O _ M hI Ks.rf hW hO hl rfl (by omega)⟩
theorem gX5_hold {p1 : Int} {M : Mem} {W : List Int} {Q : Mem → Prop} (hI : IX M) (hW : RWt M W) (hl : W.length < 40) (hQ : ∀ M' : Mem, IX M' → Ks (fun k j => (k = 185 ∧ j = 1) ∨ k = 186) M M' → RWt M' (p1 :: W) → Q M') : qX5_hold p1 M Q := by
  obtain ⟨h1, h2⟩ := hW
  unfold qX5_hold
  intro x1 e1 _
  refine ⟨fun c => by omega, fun c => ?_⟩
  intro x3 e3 _
  refine ⟨by omega, by omega, ?_⟩
  intro M6 h6 x7 e7 _
  have f7 : x7 = x3 := by rw [e7, h6, up2_n (by decide), e3]
  have hM6 : IX M6 := by rw [h6]; exact hI.up (by decide) (by simp [BX])
  refine ⟨⟨by omega, by omega⟩, ?_⟩
  intro M9 h9
  have k2 : M9 186 = M6 186 := by rw [h9, up2_n (by decide)]
  refine hQ _ (by rw [h9]; exact hM6.up (by decide) (bx_c185_1.mpr ⟨by omega, by omega⟩)) (by rw [h9, h6]; exact (Ks.rf.wr (Or.inr rfl)).wr (Or.inl ⟨rfl, rfl⟩)) ⟨?_, ?_, ?_⟩
  · show M9 185 1 = ((W.length + 1 : Nat) : Int)
    rw [h9, up2_s]
    omega
  · show M9 186 W.length = p1
    rw [k2, h6, show (W.length : Int) = x3 from by omega, up2_s]
  · rw [k2]
    exact h2.cg (fun j p q => by rw [h6, up2_j (by omega)])
/-- the class's state of reading -/
def REP (k : Nat) (M : Mem) (w dp : Int) (W : List Int) (O : List (Int × Int)) (a : Int) : Prop := M 185 3 = w ∧ M 185 2 = dp ∧ RWt M W ∧ ROl k M O ∧ M 156 2 = a
abbrev REPs (k : Nat) (M : Mem) (S : PSt) : Prop := REP k M S.1 S.2.1 S.2.2.1 S.2.2.2.1 S.2.2.2.2
abbrev kRw (k2 : Nat) (k : Nat) (j : Int) : Prop := (k = 156 ∧ j = 2) ∨ k = 185 ∨ k = 186 ∨ (k = k2 ∧ (j = 4 ∨ j = 5)) ∨ k = k2 + 1 ∨ k = k2 + 2
theorem gX5_takeThing {k2 : Nat} {M : Mem} {Q : Int → Mem → Prop} {f : Int → Int} {t dp a : Int} {W : List Int} {O : List (Int × Int)} (hI : IX M) (hk2 : isL k2) (hf : ∀ j, 0 ≤ j → j < t → M 157 j = f j) (ht : M 156 3 = t) (ha : 0 ≤ a ∧ a < t) (hl : W.length + O.length < 40) (hR : REP k2 M 1 dp W O a) (hN : ∀ M' : Mem, IX M' → Ks (kRw k2) M M' → M' 156 2 = a → pst f t (1, dp, W, O, a) = none → Q 0 M') (hY : ∀ (S1 : PSt) (M' : Mem), IX M' → Ks (kRw k2) M M' → pst f t (1, dp, W, O, a) = some S1 → REPs k2 M' S1 → Q 1 M') : qX5_takeThing k2 M Q := by
  have ek2 : k2 = 187 ∨ k2 = 192 := hk2
  obtain ⟨hw, hd, hW, hO, h2⟩ := hR
  have bd := bx_c185_2.mp (hI.bx 185 2)
  have bf : -1 ≤ f a ∧ f a ≤ 255 := by
    have := bx_c157.mp (hI.bx 157 a)
    rw [hf a ha.1 ha.2] at this
    omega
  -- behind a sign that was taken
  have J121 : ∀ (M1 : Mem) (w' dp' : Int) (W' : List Int) (O' : List (Int × Int)), IX M1 → Ks (kRw k2) M M1 → pst f t (1, dp, W, O, a) = some (w', dp', W', O', a + 1) → REP k2 M1 w' dp' W' O' a → qX5_takeThing_J121 k2 Q M1 := by
    intro M1 w' dp' W' O' i1 k1 hs r1
    unfold qX5_takeThing_J121
    refine gX9_pass i1 ?_
    intro M2 i2 k2' p2
    have e3 : M1 156 3 = t := by rw [k1 156 3 (by omega)]; exact ht
    obtain ⟨r3, r4, r5, r6, r7⟩ := r1
    refine hY _ M2 i2 (k1.tr (k2'.mono (by intro k j h; omega))) hs ⟨?_, ?_, ?_, ?_, ?_⟩
    · rw [k2' 185 3 (by omega)]; exact r3
    · rw [k2' 185 2 (by omega)]; exact r4
    · exact r5.fr (k2' 185 1 (by omega)) (funext fun j => k2' 186 j (by omega))
    · exact r6.fr (k2' _ _ (by omega)) (k2' _ _ (by omega)) (funext fun j => k2' _ j (by omega)) (funext fun j => k2' _ j (by omega))
    · show M2 156 2 = a + 1
      omega
  unfold qX5_takeThing
  refine gX9_number (p1 := 3) hI (by omega) ?_
  intro x1 M1 i1 k1 n1 _
  rw [h2, ht] at n1
  obtain ⟨z1, a1⟩ := nm3_q (f := f) n1 (fun j p q => hf j (by omega) q)
  have nb := (nm3_N f t a).b (by decide)
  have K1 : Ks (kRw k2) M M1 := k1.mono (by intro k j h; omega)
  have e3 : M1 156 3 = t := by rw [k1 156 3 (by omega)]; exact ht
  have W1 : RWt M1 W := hW.fr (k1 185 1 (by omega)) (funext fun j => k1 186 j (by omega))
  have O1 : ROl k2 M1 O := hO.fr (k1 _ _ (by omega)) (k1 _ _ (by omega)) (funext fun j => k1 _ j (by omega)) (funext fun j => k1 _ j (by omega))
  have d1 : M1 185 2 = dp := by rw [k1 185 2 (by omega)]; exact hd
  have w1 : M1 185 3 = 1 := by rw [k1 185 3 (by omega)]; exact hw
  refine ⟨fun c => ?_, fun c => ?_⟩
  · have zn : (nm3 f t a).1 < 0 := by omega
    have aa : M1 156 2 = a := by rw [a1]; exact nb.2.2.2.2.2.2.2 zn
    refine gX9_look i1 ?_
    intro x3 p3 _
    rw [aa, e3] at p3
    have f3 : x3 = f a := by
      rcases p3 with q | q
      · rw [q.2, k1 157 a (by omega)]; exact hf a ha.1 ha.2
      · omega
    have J83 : f a ≠ 45 → ¬ (f a = 40 ∧ dp < 4) → qX5_takeThing_J83 k2 Q x3 M1 := by
      intro n45 n40
      unfold qX5_takeThing_J83
      have b3 : 0 ≤ f a := by
        have := bx_c157.mp (hI.bx 157 a)
        rw [hf a ha.1 ha.2] at this
        omega
      refine ⟨⟨by omega, by omega⟩, ⟨fun _ => ⟨by omega, by omega, ?_⟩, fun q => by omega⟩⟩
      intro x10 e10 r10
      rw [f3] at e10
      have f10 := ixS_0 (f a)
      rw [← e10] at f10
      unfold qX5_takeThing_J101
      refine ⟨r10, ⟨fun q => ?_, fun q => ?_⟩⟩
      · refine gX2_addLetter (O := O) i1 hk2 (by omega) O1 (by omega) ?_
        intro M13 i13 k13 o13 M14 h14
        have i14 : IX M14 := by rw [h14]; exact i13.up (by decide) (by simp [BX])
        have hs := pst_4 (f := f) (t := t) (dp := dp) (a := a) (W := W) (O := O) zn n45 n40 (by omega)
        rw [← e10] at hs
        have K14 : Ks (kRw k2) M M14 := by rw [h14]; exact (K1.tr (k13.mono (by intro k j h; omega))).wr (by omega)
        refine J121 M14 _ _ _ _ i14 K14 hs ⟨by rw [h14, up2_s], ?_, ?_, ?_, ?_⟩
        · rw [h14, up2_j (by decide), k13 185 2 (by omega)]; exact d1
        · exact W1.fr (by rw [h14, up2_j (by decide), k13 185 1 (by omega)]) (by rw [h14, up2_n (by decide)]; exact funext fun j => k13 186 j (by omega))
        · exact o13.fr (by rw [h14, up2_n (by omega)]) (by rw [h14, up2_n (by omega)]) (by rw [h14, up2_n (by omega)]) (by rw [h14, up2_n (by omega)])
        · rw [h14, up2_n (by decide), k13 156 2 (by omega)]; exact aa
      · exact hN M1 i1 K1 aa (pst_5 zn n45 n40 (by omega))
    refine ⟨fun c3 => ⟨fun c4 => J83 (by omega) (by omega), fun c4 => ?_⟩, fun c3 => ?_⟩
    · intro x16 e16 _
      refine ⟨fun c5 => J83 (by omega) (by omega), fun c5 => ?_⟩
      intro x18 e18 _
      refine ⟨⟨by omega, by omega⟩, ?_⟩
      intro M20 h20
      have i20 : IX M20 := by rw [h20]; exact i1.up (by decide) (bx_c185_2.mpr ⟨by omega, by omega⟩)
      refine gX5_hold (W := W) i20 (W1.fr (by rw [h20, up2_j (by decide)]) (by rw [h20, up2_n (by decide)])) (by omega) ?_
      intro M21 i21 k21 w21
      have hs := pst_3 (f := f) (t := t) (dp := dp) (a := a) (W := W) (O := O) (by omega) (by omega)
      have K20 : Ks (kRw k2) M M20 := by rw [h20]; exact K1.wr (by omega)
      rw [c4] at w21
      refine J121 M21 _ _ _ _ i21 (K20.tr (k21.mono (by intro k j h; omega))) hs ⟨?_, ?_, w21, ?_, ?_⟩
      · rw [k21 185 3 (by omega), h20, up2_j (by decide)]; exact w1
      · rw [k21 185 2 (by omega), h20, up2_s]; omega
      · exact O1.fr (by rw [k21 _ _ (by omega), h20, up2_n (by omega)]) (by rw [k21 _ _ (by omega), h20, up2_n (by omega)]) (by rw [show M21 (k2 + 1) = M20 (k2 + 1) from funext fun j => k21 _ j (by omega), h20, up2_n (by omega)]) (by rw [show M21 (k2 + 2) = M20 (k2 + 2) from funext fun j => k21 _ j (by omega), h20, up2_n (by omega)])
      · rw [k21 156 2 (by omega), h20, up2_n (by decide)]; exact aa
    · refine gX5_hold (W := W) i1 W1 (by omega) ?_
      intro M22 i22 k22 w22
      have hs := pst_2 (f := f) (t := t) (dp := dp) (a := a) (W := W) (O := O) (by omega)
      refine J121 M22 _ _ _ _ i22 (K1.tr (k22.mono (by intro k j h; omega))) hs ⟨?_, ?_, w22, ?_, ?_⟩
      · rw [k22 185 3 (by omega)]; exact w1
      · rw [k22 185 2 (by omega)]; exact d1
      · exact O1.fr (k22 _ _ (by omega)) (k22 _ _ (by omega)) (funext fun j => k22 _ j (by omega)) (funext fun j => k22 _ j (by omega))
      · rw [k22 156 2 (by omega)]; exact aa
  · have zp : 0 ≤ (nm3 f t a).1 := by omega
    refine gX2_add (O := O) i1 hk2 (Or.inl ⟨rfl, by omega, by omega⟩) (fun w => absurd w (by decide)) O1 (by omega) ?_
    intro M23 i23 k23 o23 M24 h24
    have i24 : IX M24 := by rw [h24]; exact i23.up (by decide) (by simp [BX])
    have hs := pst_1 (f := f) (t := t) (dp := dp) (a := a) (W := W) (O := O) zp
    rw [z1] at o23
    refine hY _ M24 i24 (by rw [h24]; exact (K1.tr (k23.mono (by intro k j h; omega))).wr (by omega)) hs ⟨by rw [h24, up2_s], ?_, ?_, ?_, ?_⟩
    · rw [h24, up2_j (by decide), k23 185 2 (by omega)]; exact d1
    · exact W1.fr (by rw [h24, up2_j (by decide), k23 185 1 (by omega)]) (by rw [h24, up2_n (by decide)]; exact funext fun j => k23 186 j (by omega))
    · exact o23.fr (by rw [h24, up2_n (by omega)]) (by rw [h24, up2_n (by omega)]) (by rw [h24, up2_n (by omega)]) (by rw [h24, up2_n (by omega)])
    · rw [h24, up2_n (by decide), k23 156 2 (by omega)]; exact a1
end
section
/-! THE RULE'S TEXT: the class reads it to its end -/
def c40 : List Int → Int
  | [] => 0
  | c :: W => c40 W + (if c = 40 then 1 else 0)
theorem c40_rls {b : Int} (hb : 1 ≤ b) : ∀ (W : List Int) (O : List (Int × Int)), c40 (rls b W O).1 = c40 W
  | [], _ => rfl
  | c :: W, O => by
    show c40 (if bnd c < b then (c :: W, O) else rls b W ((c, 0) :: O)).1 = c40 W + (if c = 40 then 1 else 0)
    by_cases d : bnd c < b
    · rw [if_pos d]; rfl
    · rw [if_neg d, c40_rls hb W, if_neg ((bnd_b c).2.2 (by omega)).2.2]
      omega
theorem c40_tl (W : List Int) : c40 W - 1 ≤ c40 W.tail := by
  cases W with
  | nil => show (0 : Int) - 1 ≤ 0; decide
  | cons c W =>
    show c40 W + (if c = 40 then 1 else 0) - 1 ≤ c40 W
    split <;> omega
theorem c40_c (c : Int) (W : List Int) : c40 W ≤ c40 (c :: W) := by
  show c40 W ≤ c40 W + (if c = 40 then 1 else 0)
  split <;> omega
theorem pst_c {f : Int → Int} {t w dp a : Int} {W : List Int} {O : List (Int × Int)} {S1 : PSt} (hc : dp ≤ c40 W) (h : pst f t (w, dp, W, O, a) = some S1) : S1.2.1 ≤ c40 S1.2.2.1 := by
  by_cases cw : w = 1
  · subst cw
    by_cases c1 : 0 ≤ (nm3 f t a).1
    · rw [pst_1 c1] at h
      have e := Option.some.inj h
      subst e
      exact hc
    · by_cases c2 : f a = 45
      · rw [pst_2 c2] at h
        have e := Option.some.inj h
        subst e
        show dp ≤ c40 (302 :: W)
        have := c40_c 302 W
        omega
      · by_cases c3 : f a = 40 ∧ dp < 4
        · rw [pst_3 c3.1 c3.2] at h
          have e := Option.some.inj h
          subst e
          show dp + 1 ≤ c40 W + (if (40 : Int) = 40 then 1 else 0)
          rw [if_pos rfl]
          omega
        · by_cases c4 : 0 ≤ ixS (bS 0) (f a)
          · rw [pst_4 (by omega) c2 c3 c4] at h
            have e := Option.some.inj h
            subst e
            exact hc
          · rw [pst_5 (by omega) c2 c3 (by omega)] at h
            cases h
  · by_cases c1 : f a = 41 ∧ 0 < dp
    · rw [pst_6 cw c1.1 c1.2] at h
      have e := Option.some.inj h
      subst e
      show dp - 1 ≤ c40 (rls 1 W O).1.tail
      have := c40_tl (rls 1 W O).1
      rw [c40_rls (by decide)] at this
      omega
    · by_cases c2 : bnd (f a) = 1
      · by_cases c3 : lbd (rls 2 W O).1 = 1
        · rw [pst_7 cw c2 c3] at h
          cases h
        · rw [pst_8 cw c2 c3] at h
          have e := Option.some.inj h
          subst e
          show dp ≤ c40 (f a :: (rls 2 W O).1)
          have := c40_c (f a) (rls 2 W O).1
          rw [c40_rls (by decide)] at this
          omega
      · by_cases c3 : 1 < bnd (f a)
        · rw [pst_9 cw c3] at h
          have e := Option.some.inj h
          subst e
          show dp ≤ c40 (f a :: (rls (bnd (f a)) W O).1)
          have := c40_c (f a) (rls (bnd (f a)) W O).1
          rw [c40_rls (by omega)] at this
          omega
        · rw [pst_0 cw c1 (by omega)] at h
          cases h
theorem gX5_takeSign {k2 : Nat} {M : Mem} {Q : Int → Mem → Prop} {f : Int → Int} {t dp a : Int} {W : List Int} {O : List (Int × Int)} (hI : IX M) (hk2 : isL k2) (hf : ∀ j, 0 ≤ j → j < t → M 157 j = f j) (ht : M 156 3 = t) (ha : 0 ≤ a ∧ a < t) (hl : W.length + O.length < 40) (hc : dp ≤ c40 W) (hR : REP k2 M 0 dp W O a) (hN : ∀ M' : Mem, IX M' → Ks (kRw k2) M M' → M' 156 2 = a → pst f t (0, dp, W, O, a) = none → Q 0 M') (hY : ∀ (S1 : PSt) (M' : Mem), IX M' → Ks (kRw k2) M M' → pst f t (0, dp, W, O, a) = some S1 → REPs k2 M' S1 → Q 1 M') : qX5_takeSign k2 M Q := by
  have ek2 : k2 = 187 ∨ k2 = 192 := hk2
  obtain ⟨hw, hd, hW, hO, h2⟩ := hR
  have bd := bx_c185_2.mp (hI.bx 185 2)
  have n01 : (0 : Int) ≠ 1 := by decide
  have J116 : ∀ (M1 : Mem) (w' dp' : Int) (W' : List Int) (O' : List (Int × Int)), IX M1 → Ks (kRw k2) M M1 → pst f t (0, dp, W, O, a) = some (w', dp', W', O', a + 1) → REP k2 M1 w' dp' W' O' a → qX5_takeSign_J116 k2 Q M1 := by
    intro M1 w' dp' W' O' i1 k1 hs r1
    unfold qX5_takeSign_J116
    refine gX9_pass i1 ?_
    intro M2 i2 k2' p2
    have e3 : M1 156 3 = t := by rw [k1 156 3 (by omega)]; exact ht
    obtain ⟨r3, r4, r5, r6, r7⟩ := r1
    refine hY _ M2 i2 (k1.tr (k2'.mono (by intro k j h; omega))) hs ⟨?_, ?_, ?_, ?_, ?_⟩
    · rw [k2' 185 3 (by omega)]; exact r3
    · rw [k2' 185 2 (by omega)]; exact r4
    · exact r5.fr (k2' 185 1 (by omega)) (funext fun j => k2' 186 j (by omega))
    · exact r6.fr (k2' _ _ (by omega)) (k2' _ _ (by omega)) (funext fun j => k2' _ j (by omega)) (funext fun j => k2' _ j (by omega))
    · show M2 156 2 = a + 1
      omega
  -- a sign that is held
  have HOLD : ∀ (M7 : Mem) (b : Int), 1 ≤ b → IX M7 → Ks (kRl k2) M M7 → RWt M7 (rls b W O).1 → ROl k2 M7 (rls b W O).2 → pst f t (0, dp, W, O, a) = some (1, dp, f a :: (rls b W O).1, (rls b W O).2, a + 1) → qX5_hold (f a) M7 (fun (M9 : Mem) => (∀ M10 : Mem, M10 = up2 M9 185 3 1 → (qX5_takeSign_J116 k2 Q M10))) := by
    intro M7 b hb i7 k7 w7 o7 hs
    have ll := rls_len b W O
    refine gX5_hold i7 w7 (by omega) ?_
    intro M9 i9 k9 w9 M10 h10
    have i10 : IX M10 := by rw [h10]; exact i9.up (by decide) (by simp [BX])
    have K9 : Ks (kRw k2) M M9 := (k7.mono (by intro k j h; omega)).tr (k9.mono (by intro k j h; omega))
    refine J116 M10 _ _ _ _ i10 (by rw [h10]; exact K9.wr (by omega)) hs ⟨by rw [h10, up2_s], ?_, ?_, ?_, ?_⟩
    · rw [h10, up2_j (by decide), k9 185 2 (by omega), k7 185 2 (by omega)]; exact hd
    · exact w9.fr (by rw [h10, up2_j (by decide)]) (by rw [h10, up2_n (by decide)])
    · exact o7.fr (by rw [h10, up2_n (by omega), k9 _ _ (by omega)]) (by rw [h10, up2_n (by omega), k9 _ _ (by omega)]) (by rw [h10, up2_n (by omega)]; exact funext fun j => k9 _ j (by omega)) (by rw [h10, up2_n (by omega)]; exact funext fun j => k9 _ j (by omega))
    · rw [h10, up2_n (by decide), k9 156 2 (by omega), k7 156 2 (by omega)]; exact h2
  unfold qX5_takeSign
  refine gX9_look hI ?_
  intro x1 p1 r1
  rw [h2, ht] at p1
  have f1 : x1 = f a := by
    rcases p1 with q | q
    · rw [q.2]; exact hf a ha.1 ha.2
    · omega
  rw [f1] at r1 ⊢
  refine gX5_bindingOf ?_
  intro rb
  have bb := bnd_b (f a)
  have J53 : ¬ (f a = 41 ∧ 0 < dp) → qX5_takeSign_J53 k2 Q (f a) (bnd (f a)) M := by
    intro n41
    unfold qX5_takeSign_J53
    refine ⟨rb, ⟨fun c => ⟨fun c2 => ?_, fun c2 => ?_⟩, fun c => ?_⟩⟩
    · exact hN M hI Ks.rf h2 (pst_0 n01 n41 (by omega))
    · refine gX5_release hI hk2 (by omega) hW hO (by omega) ?_
      intro M7 i7 k7 w7 o7
      exact ⟨r1, HOLD M7 _ (by omega) i7 k7 w7 o7 (pst_9 n01 (by omega))⟩
    · refine gX5_release hI hk2 (by decide) hW hO (by omega) ?_
      intro M12 i12 k12 w12 o12
      have ll := rls_len 2 W O
      refine gX5_latestBinding w12 (by omega) ?_
      intro rl
      refine ⟨fun c3 => ⟨r1, HOLD M12 2 (by decide) i12 k12 w12 o12 (pst_8 n01 c c3)⟩, fun c3 => ?_⟩
      exact hN M12 i12 (k12.mono (by intro k j h; omega)) (by rw [k12 156 2 (by omega)]; exact h2) (pst_7 n01 c c3)
  refine ⟨fun c => J53 (fun q => c q.1), fun c => ?_⟩
  intro x18 e18 _
  refine ⟨fun c2 => J53 (fun q => by omega), fun c2 => ?_⟩
  refine gX5_release hI hk2 (by decide) hW hO (by omega) ?_
  intro M20 i20 k20 w20 o20
  have hs := pst_6 (f := f) (t := t) (w := 0) (dp := dp) (a := a) (W := W) (O := O) n01 c (by omega)
  have hc2 : 1 ≤ c40 (rls 1 W O).1 := by rw [c40_rls (by decide)]; omega
  have w1 := w20.1
  have ll := rls_len 1 W O
  intro x21 e21 _
  refine ⟨⟨by omega, by omega⟩, ?_⟩
  intro M23 h23 x24 e24 _
  have f24 : x24 = dp := by rw [e24, h23, up2_j (by decide), k20 185 2 (by omega)]; exact hd
  refine ⟨⟨by omega, by omega⟩, ?_⟩
  intro M26 h26
  have TL : M26 185 1 = ((rls 1 W O).1.tail.length : Int) ∧ SK (M26 186) (rls 1 W O).1.tail ∧ 1 ≤ x21 := by
    have e186 : M26 186 = M20 186 := by rw [h26, up2_n (by decide), h23, up2_n (by decide)]
    have e1 : M26 185 1 = x21 - 1 := by rw [h26, up2_j (by decide), h23, up2_s]
    rw [e1, e186]
    cases hh : (rls 1 W O).1 with
    | nil =>
      rw [hh] at hc2
      exact absurd hc2 (by decide)
    | cons c' W' =>
      rw [hh] at w20 w1
      have l : ((c' :: W').length : Int) = W'.length + 1 := by show ((W'.length + 1 : Nat) : Int) = _; omega
      refine ⟨?_, w20.2.2, by omega⟩
      show x21 - 1 = (W'.length : Int)
      omega
  have i23 : IX M23 := by rw [h23]; exact i20.up (by decide) (bx_c185_1.mpr ⟨by omega, by omega⟩)
  have i26 : IX M26 := by rw [h26]; exact i23.up (by decide) (bx_c185_2.mpr ⟨by omega, by omega⟩)
  refine J116 M26 _ _ _ _ i26 ?_ hs ⟨?_, ?_, ⟨TL.1, TL.2.1⟩, ?_, ?_⟩
  · rw [h26, h23]
    exact ((k20.mono (by intro k j h; omega)).wr (by omega)).wr (by omega)
  · rw [h26, up2_j (by decide), h23, up2_j (by decide), k20 185 3 (by omega)]; exact hw
  · rw [h26, up2_s, f24]
  · exact o20.fr (by rw [h26, up2_n (by omega), h23, up2_n (by omega)]) (by rw [h26, up2_n (by omega), h23, up2_n (by omega)]) (by rw [h26, up2_n (by omega), h23, up2_n (by omega)]) (by rw [h26, up2_n (by omega), h23, up2_n (by omega)])
  · rw [h26, up2_n (by decide), h23, up2_n (by decide), k20 156 2 (by omega)]; exact h2
theorem pst_w {f : Int → Int} {t : Int} {S S1 : PSt} (h : pst f t S = some S1) : S1.1 = 0 ∨ S1.1 = 1 := by
  obtain ⟨w, dp, W, O, a⟩ := S
  rw [pst] at h
  repeat' split at h
  all_goals first
    | (have e := Option.some.inj h; subst e; first | exact Or.inl rfl | exact Or.inr rfl)
    | cases h
theorem gX5_read_L40 {k2 : Nat} {X92 : Mem → Prop} {Q : Int → Mem → Prop} {f : Int → Int} {t : Int} {M0 : Mem} {T : PSt} (hk2 : isL k2) (hf : ∀ j, 0 ≤ j → j < t → M0 157 j = f j) (ht : M0 156 3 = t) (ht4 : t ≤ 40) (hX : t ≤ T.2.2.2.2 → ∀ M' : Mem, IX M' → Ks (kRw k2) M0 M' → REPs k2 M' T → X92 M') (hQ : T.2.2.2.2 < t → ∀ M' : Mem, IX M' → Ks (kRw k2) M0 M' → M' 156 2 = T.2.2.2.2 → Q T.2.2.2.2 M') : ∀ (n : Nat) (v3 : Int) (M : Mem) (S : PSt), IX M → Ks (kRw k2) M0 M → REPs k2 M S → pru f t n S = T → (S.1 = 0 ∨ S.1 = 1) → S.2.1 ≤ c40 S.2.2.1 → (S.2.2.1.length : Int) + S.2.2.2.1.length ≤ S.2.2.2.2 → (0 ≤ v3 ∧ v3 ≤ S.2.2.2.2) → S.2.2.2.2 ≤ t → t - S.2.2.2.2 ≤ n → qX5_read_L40 k2 X92 Q (n + 1) v3 M := by
  intro n
  induction n with
  | zero =>
    intro v3 M S hI hK hR hT hw hc hl hv ha hn
    rw [qX5_read_L40]
    have e : S = T := hT
    have fin : X92 M := hX (by rw [← e]; omega) M hI hK (by rw [← e]; exact hR)
    refine ⟨⟨by omega, by omega⟩, ⟨fun _ => fin, fun c => ?_⟩⟩
    unfold qX9_isRead
    intro x1 e1 _ x2 e2 _
    have h2 := hR.2.2.2.2
    have e3 : M 156 3 = t := by rw [hK 156 3 (by rcases hk2 with rfl | rfl <;> omega)]; exact ht
    refine ⟨fun c => by omega, fun c => ?_⟩
    intro _ _
    exact ⟨fun _ => fin, fun c2 => absurd c2 (by decide)⟩
  | succ n ih =>
    intro v3 M S hI hK hR hT hw hc hl hv ha hn
    obtain ⟨w, dp, W, O, a⟩ := S
    have hR' : REP k2 M w dp W O a := hR
    have hw' : w = 0 ∨ w = 1 := hw
    have hc' : dp ≤ c40 W := hc
    have hl' : (W.length : Int) + O.length ≤ a := hl
    have hv' : 0 ≤ v3 ∧ v3 ≤ a := hv
    have ha' : a ≤ t := ha
    have hn' : t - a ≤ ((n + 1 : Nat) : Int) := hn
    have h2 : M 156 2 = a := hR'.2.2.2.2
    have e3 : M 156 3 = t := by rw [hK 156 3 (by rcases hk2 with rfl | rfl <;> omega)]; exact ht
    have hf' : ∀ j, 0 ≤ j → j < t → M 157 j = f j := fun j p q => by rw [hK 157 j (by rcases hk2 with rfl | rfl <;> omega)]; exact hf j p q
    rw [qX5_read_L40]
    have fin : t ≤ a → X92 M := by
      intro q
      have e : (w, dp, W, O, a) = T := by rw [← hT]; exact (pru_s (S := (w, dp, W, O, a)) (Or.inl q)).symm
      exact hX (by rw [← e]; exact q) M hI hK (by rw [← e]; exact hR)
    refine ⟨⟨by omega, by omega⟩, ⟨fun c => fin (by omega), fun c => ?_⟩⟩
    unfold qX9_isRead
    intro x1 e1 _ x2 e2 _
    refine ⟨fun c2 => ?_, fun c2 => ?_⟩
    · intro _ _
      refine ⟨fun c3 => absurd rfl c3, fun _ => ?_⟩
      have NO : ∀ M' : Mem, IX M' → Ks (kRw k2) M M' → M' 156 2 = a → pst f t (w, dp, W, O, a) = none → ∀ x : Int, x = M' 156 2 → Q x M' := by
        intro M' i' k' a' hn x ex
        have e : (w, dp, W, O, a) = T := by rw [← hT]; exact (pru_s (S := (w, dp, W, O, a)) (Or.inr hn)).symm
        have q := hQ (by rw [← e]; show a < t; omega) M' i' (hK.tr k') (by rw [← e]; exact a')
        rw [← e] at q
        rw [ex, a']
        exact q
      have YES : ∀ (S1 : PSt) (M' : Mem), IX M' → Ks (kRw k2) M M' → pst f t (w, dp, W, O, a) = some S1 → REPs k2 M' S1 → qX5_read_L40 k2 X92 Q (n + 1) (v3 + 1) M' := by
        intro S1 M' i' k' hs r'
        have b := pst_b (show a < t by omega) hs
        have c := pst_c hc' hs
        refine ih (v3 + 1) M' S1 i' (hK.tr k') r' ?_ (pst_w hs) c (by omega) (by omega) b.2.1 (by omega)
        rw [← hT]
        exact (pru_n (S := (w, dp, W, O, a)) (show a < t by omega) hs).symm
      intro x12 e12 _
      have f12 : x12 = w := by rw [e12]; exact hR'.1
      refine ⟨fun c3 => ?_, fun c3 => ?_⟩
      · have w0 : w = 0 := by omega
        rw [w0] at hR' NO YES
        refine gX5_takeSign hI hk2 hf' e3 (by omega) (by omega) hc' hR' ?_ ?_
        · intro M' i' k' a' hn _ _
          refine ⟨fun q => absurd rfl q, fun _ => ?_⟩
          intro x16 e16 _
          exact NO M' i' k' a' hn x16 e16
        · intro S1 M' i' k' hs r' _ _
          exact ⟨fun _ => YES S1 M' i' k' hs r', fun q => absurd q (by decide)⟩
      · have w0 : w = 1 := by omega
        rw [w0] at hR' NO YES
        refine gX5_takeThing hI hk2 hf' e3 (by omega) (by omega) hR' ?_ ?_
        · intro M' i' k' a' hn _ _
          refine ⟨fun _ => ?_, fun q => absurd rfl q⟩
          intro x19 e19 _
          exact NO M' i' k' a' hn x19 e19
        · intro S1 M' i' k' hs r' _ _
          exact ⟨fun q => absurd q (by decide), fun _ => YES S1 M' i' k' hs r'⟩
    · intro _ _
      exact ⟨fun _ => fin (by omega), fun c3 => absurd c3 (by decide)⟩
/-- where the text of len signs f ends up; what the class says of it; its law -/
def rlS (f : Int → Int) (len : Int) : PSt := pru f (min len 40) 40 (1, 0, [], [], 0)
def rlz (f : Int → Int) (len : Int) : Int := if len = 0 then -1 else if (rlS f len).2.2.2.2 < min len 40 ∨ (rlS f len).1 = 1 ∨ 0 < (rlS f len).2.1 ∨ 40 < len then (rlS f len).2.2.2.2 else -1
def plO : List (Int × Int) := [(43, 0), (62, 0), (300, 2), (301, 1), (300, 1)]
def rlO (f : Int → Int) (len : Int) : List (Int × Int) := if len = 0 then plO else (rls 1 (rlS f len).2.2.1 (rlS f len).2.2.2.1).2
theorem pru_b {f : Int → Int} {t : Int} : ∀ (n : Nat) (S : PSt), S.2.2.2.2 ≤ t → (S.1 = 0 ∨ S.1 = 1) → (S.2.2.1.length : Int) + S.2.2.2.1.length ≤ S.2.2.2.2 → S.2.2.2.2 ≤ (pru f t n S).2.2.2.2 ∧ (pru f t n S).2.2.2.2 ≤ t ∧ ((pru f t n S).1 = 0 ∨ (pru f t n S).1 = 1) ∧ ((pru f t n S).2.2.1.length : Int) + (pru f t n S).2.2.2.1.length ≤ (pru f t n S).2.2.2.2
  | 0, S, h, h2, h3 => ⟨Int.le_refl _, h, h2, h3⟩
  | n + 1, (w, dp, W, O, a), h, h2, h3 => by
    have h' : a ≤ t := h
    have h3' : (W.length : Int) + O.length ≤ a := h3
    by_cases c : a < t
    · cases hs : pst f t (w, dp, W, O, a) with
      | none =>
        rw [pru_s (Or.inr hs)]
        exact ⟨Int.le_refl _, h, h2, h3⟩
      | some S1 =>
        rw [pru_n (S := (w, dp, W, O, a)) c hs]
        have b := pst_b c hs
        have i := pru_b (f := f) n S1 b.2.1 (pst_w hs) (by omega)
        refine ⟨?_, i.2⟩
        show a ≤ _
        omega
    · rw [pru_s (Or.inl (show t ≤ a by omega))]
      exact ⟨Int.le_refl _, h, h2, h3⟩
theorem rlS_b {f : Int → Int} {len : Int} (h : 0 ≤ len) : 0 ≤ (rlS f len).2.2.2.2 ∧ (rlS f len).2.2.2.2 ≤ min len 40 ∧ ((rlS f len).1 = 0 ∨ (rlS f len).1 = 1) ∧ ((rlS f len).2.2.1.length : Int) + (rlS f len).2.2.2.1.length ≤ (rlS f len).2.2.2.2 := by
  have := pru_b (f := f) (t := min len 40) 40 (1, 0, [], [], 0) (show (0 : Int) ≤ min len 40 by omega) (Or.inr rfl) (show ((0 : Nat) : Int) + ((0 : Nat) : Int) ≤ 0 by decide)
  exact this
theorem gX2_plain {k0 : Nat} {M : Mem} {Q : Mem → Prop} (hI : IX M) (hk0 : isL k0) (hQ : ∀ M' : Mem, IX M' → Ks (kAl k0) M M' → ROl k0 M' plO → Q M') : qX2_becomePlain k0 M Q := by
  have ek0 : k0 = 187 ∨ k0 = 192 := hk0
  unfold qX2_becomePlain qX2_clear
  intro M1 h1 M2 h2
  have i1 : IX M1 := by rw [h1]; exact hI.up (isL.nsp0 hk0) ((bx_l4 hk0).mpr ⟨by omega, by omega⟩)
  have i2 : IX M2 := by rw [h2]; exact i1.up (isL.nsp0 hk0) (bx_lf0 hk0 (by decide))
  have k2 : Ks (kAl k0) M M2 := by rw [h2, h1]; exact (Ks.rf.wr (by omega)).wr (by omega)
  have o2 : ROl k0 M2 [] := ⟨by rw [h2, up2_j (by decide), h1, up2_s]; rfl, trivial⟩
  refine gX2_add i2 hk0 (Or.inl ⟨rfl, by decide, by decide⟩) (fun w => absurd w (by decide)) o2 (by decide) ?_
  intro M3 i3 k3 o3
  refine gX2_addLetter i3 hk0 (by decide) o3 (by decide) ?_
  intro M4 i4 k4 o4
  refine gX2_add i4 hk0 (Or.inl ⟨rfl, by decide, by decide⟩) (fun w => absurd w (by decide)) o4 (by decide) ?_
  intro M5 i5 k5 o5
  refine gX2_add i5 hk0 (Or.inr (Or.inr (Or.inr (Or.inr (Or.inl rfl))))) (fun w => absurd w (by decide)) o5 (by decide) ?_
  intro M6 i6 k6 o6
  refine gX2_add i6 hk0 (Or.inr (Or.inr (Or.inr (Or.inr (Or.inr (Or.inr (Or.inl rfl))))))) (fun w => absurd w (by decide)) o6 (by decide) ?_
  intro M7 i7 k7 o7
  have K3 := k2.tr (k3.mono (by intro k j h; omega))
  have K5 := (K3.tr k4).tr (k5.mono (by intro k j h; omega))
  have K7 := (K5.tr (k6.mono (by intro k j h; omega))).tr (k7.mono (by intro k j h; omega))
  exact hQ M7 i7 K7 o7
theorem gX5_read {k2 : Nat} {M : Mem} {Q : Int → Mem → Prop} {f : Int → Int} (hI : IX M) (hk2 : isL k2) (hf : ∀ j, 0 ≤ j → j < M 156 1 → M 157 j = f j) (hQ : ∀ M' : Mem, IX M' → (rlz f (M 156 1) = -1 → ROl k2 M' (rlO f (M 156 1))) → Q (rlz f (M 156 1)) M') : qX5_read k2 M Q := by
  have ek2 : k2 = 187 ∨ k2 = 192 := hk2
  have bL := bx_c156_1.mp (hI.bx 156 1)
  unfold qX5_read qX9_isEmpty
  intro x1 e1 _
  refine ⟨fun c => ?_, fun c => ?_⟩
  · intro _ _
    refine ⟨fun _ => ?_, fun q => absurd rfl q⟩
    have len0 : M 156 1 ≠ 0 := by omega
    unfold qX2_clear
    intro M2 h2 M3 h3 M4 h4 M5 h5 M6 h6
    have i2 : IX M2 := by rw [h2]; exact hI.up (isL.nsp0 hk2) ((bx_l4 hk2).mpr ⟨by omega, by omega⟩)
    have i3 : IX M3 := by rw [h3]; exact i2.up (isL.nsp0 hk2) (bx_lf0 hk2 (by decide))
    have i4 : IX M4 := by rw [h4]; exact i3.up (by decide) (bx_c185_1.mpr (by decide))
    have i5 : IX M5 := by rw [h5]; exact i4.up (by decide) (bx_c185_2.mpr (by decide))
    have i6 : IX M6 := by rw [h6]; exact i5.up (by decide) (by simp [BX])
    have K6 : Ks (fun k j => (k = k2 ∧ (j = 4 ∨ j = 5)) ∨ k = 185) M M6 := by
      rw [h6, h5, h4, h3, h2]
      exact ((((Ks.rf.wr (by omega)).wr (by omega)).wr (by omega)).wr (by omega)).wr (by omega)
    refine gX9_open (p1 := 40) i6 (by decide) ?_
    intro M7 i7 k7 a7 s7
    rw [K6 156 1 (by omega)] at s7
    have sb := rlS_b (f := f) bL.1
    have K7 : Ks (fun k j => (k = k2 ∧ (j = 4 ∨ j = 5)) ∨ k = 185 ∨ (k = 156 ∧ (j = 2 ∨ j = 3))) M M7 := (K6.mono (by intro k j h; omega)).tr (k7.mono (by intro k j h; omega))
    have r7 : REPs k2 M7 (1, 0, [], [], 0) := by
      refine ⟨?_, ?_, ⟨?_, trivial⟩, ⟨?_, trivial⟩, a7⟩
      · rw [k7 185 3 (by omega), h6, up2_s]
      · rw [k7 185 2 (by omega), h6, up2_j (by decide), h5, up2_s]
      · rw [k7 185 1 (by omega), h6, up2_j (by decide), h5, up2_j (by decide), h4, up2_s]
        rfl
      · rw [k7 k2 4 (by omega), h6, up2_n (by omega), h5, up2_n (by omega), h4, up2_n (by omega), h3, up2_j (by decide), h2, up2_s]
        rfl
    have ez : rlz f (M 156 1) = if (rlS f (M 156 1)).2.2.2.2 < min (M 156 1) 40 ∨ (rlS f (M 156 1)).1 = 1 ∨ 0 < (rlS f (M 156 1)).2.1 ∨ 40 < M 156 1 then (rlS f (M 156 1)).2.2.2.2 else -1 := by
      unfold rlz
      rw [if_neg len0]
    refine ⟨41, gX5_read_L40 (f := f) (M0 := M7) (T := rlS f (M 156 1)) hk2 (fun j p q => by rw [K7 157 j (by omega)]; exact hf j p (by omega)) s7 (by omega) ?_ ?_ 40 _ _ _ i7 Ks.rf r7 rfl (Or.inr rfl) (Int.le_refl _) (show ((0 : Nat) : Int) + ((0 : Nat) : Int) ≤ 0 by decide) ⟨Int.le_refl _, Int.le_refl _⟩ (show (0 : Int) ≤ min (M 156 1) 40 by omega) (show min (M 156 1) 40 - 0 ≤ ((40 : Nat) : Int) by omega)⟩
    · intro hge M8 i8 k8 r8
      obtain ⟨r3, r2, rW, rO, ra⟩ := r8
      have BAD : ∀ (x : Int), x = M8 156 2 → ((rlS f (M 156 1)).1 = 1 ∨ 0 < (rlS f (M 156 1)).2.1 ∨ 40 < M 156 1) → Q x M8 := by
        intro x ex hb
        have := hQ M8 i8
        rw [ez, if_pos (Or.inr hb)] at this
        rw [ex, ra]
        exact this (fun q => by omega)
      unfold qX5_read_J92
      intro x21 e21 _
      refine ⟨fun c1 => fun x23 e23 _ => BAD _ e23 (Or.inl (by omega)), fun c1 => ?_⟩
      intro x24 e24 _
      refine ⟨fun c2 => fun x26 e26 _ => BAD _ e26 (Or.inr (Or.inl (by omega))), fun c2 => ?_⟩
      have l8 : M8 156 1 = M 156 1 := by rw [k8 156 1 (by omega), K7 156 1 (by omega)]
      unfold qX9_isWhole
      intro y1 f1 _ y2 f2 _
      refine ⟨fun c3 => ?_, fun c3 => ?_⟩
      · intro _ _
        refine ⟨fun q => absurd rfl q, fun _ => fun x30 e30 _ => BAD _ e30 (Or.inr (Or.inr (by omega)))⟩
      · intro _ _
        refine ⟨fun _ => ?_, fun q => absurd q (by decide)⟩
        refine gX5_release i8 hk2 (by decide) rW rO (by omega) ?_
        intro M29 i29 k29 w29 o29
        have := hQ M29 i29
        rw [ez, if_neg (by omega)] at this
        refine this (fun _ => ?_)
        unfold rlO
        rw [if_neg len0]
        exact o29
    · intro hlt M8 i8 k8 a8
      have := hQ M8 i8
      rw [ez, if_pos (Or.inl hlt)] at this
      exact this (fun q => by omega)
  · intro _ _
    refine ⟨fun q => absurd q (by decide), fun _ => ?_⟩
    refine gX2_plain hI hk2 ?_
    intro M31 i31 k31 o31
    have := hQ M31 i31
    unfold rlz rlO at this
    rw [if_pos (by omega), if_pos (by omega)] at this
    exact this (fun _ => o31)
end
