/-! HOUR: acts -/
abbrev sgn (s : Int) : Prop := s = 110 ∨ s = 116 ∨ s = 112 ∨ s = 98 ∨ s = 120
abbrev dg1 (f : Int → Int) (t a : Int) : Prop := a + 1 < t ∧ 48 ≤ f (a + 1) ∧ f (a + 1) ≤ 57
abbrev dg2 (f : Int → Int) (t a : Int) : Prop := a + 2 < t ∧ (f a = 120 ∨ 49 ≤ f (a + 2)) ∧ 48 ≤ f (a + 2) ∧ f (a + 2) ≤ 57
/-- an act at a: whether it can stand, where reading is then, its sign and its numbers -/
def prA (f : Int → Int) (t a : Int) : Int × Int × Int × Int × Int := if ¬ (a < t ∧ sgn (f a)) then (0, a, 0, 0, 0) else if ¬ dg1 f t a then (0, a + 1, 0, 0, 0) else if f a = 110 ∨ f a = 116 then (1, a + 2, f a, f (a + 1) - 48, 0) else if ¬ dg2 f t a then (0, a + 2, 0, 0, 0) else (1, a + 3, f a, f (a + 1) - 48, f (a + 2) - 48)
theorem prA_0 {f : Int → Int} {t a : Int} (h : ¬ (a < t ∧ sgn (f a))) : prA f t a = (0, a, 0, 0, 0) := by unfold prA; rw [if_pos h]
theorem prA_1 {f : Int → Int} {t a : Int} (h : a < t ∧ sgn (f a)) (h1 : ¬ dg1 f t a) : prA f t a = (0, a + 1, 0, 0, 0) := by unfold prA; rw [if_neg (fun q => q h), if_pos h1]
theorem prA_2 {f : Int → Int} {t a : Int} (h : a < t ∧ sgn (f a)) (h1 : dg1 f t a) (h2 : f a = 110 ∨ f a = 116) : prA f t a = (1, a + 2, f a, f (a + 1) - 48, 0) := by unfold prA; rw [if_neg (fun q => q h), if_neg (fun q => q h1), if_pos h2]
theorem prA_3 {f : Int → Int} {t a : Int} (h : a < t ∧ sgn (f a)) (h1 : dg1 f t a) (h2 : ¬ (f a = 110 ∨ f a = 116)) (h3 : ¬ dg2 f t a) : prA f t a = (0, a + 2, 0, 0, 0) := by unfold prA; rw [if_neg (fun q => q h), if_neg (fun q => q h1), if_neg h2, if_pos h3]
theorem prA_4 {f : Int → Int} {t a : Int} (h : a < t ∧ sgn (f a)) (h1 : dg1 f t a) (h2 : ¬ (f a = 110 ∨ f a = 116)) (h3 : dg2 f t a) : prA f t a = (1, a + 3, f a, f (a + 1) - 48, f (a + 2) - 48) := by unfold prA; rw [if_neg (fun q => q h), if_neg (fun q => q h1), if_neg h2, if_neg (fun q => q h3)]
theorem prA_b {f : Int → Int} {t a : Int} (ha : a ≤ t) : (a ≤ (prA f t a).2.1 ∧ (prA f t a).2.1 ≤ t) ∧ ((prA f t a).1 = 0 ∨ (prA f t a).1 = 1 ∧ a + 2 ≤ (prA f t a).2.1) := by
  by_cases h : a < t ∧ sgn (f a)
  · by_cases h1 : dg1 f t a
    · by_cases h2 : f a = 110 ∨ f a = 116
      · rw [prA_2 h h1 h2]
        refine ⟨⟨?_, ?_⟩, Or.inr ⟨rfl, ?_⟩⟩
        · show a ≤ a + 2; omega
        · show a + 2 ≤ t
          have := h1.1
          omega
        · show a + 2 ≤ a + 2; omega
      · by_cases h3 : dg2 f t a
        · rw [prA_4 h h1 h2 h3]
          refine ⟨⟨?_, ?_⟩, Or.inr ⟨rfl, ?_⟩⟩
          · show a ≤ a + 3; omega
          · show a + 3 ≤ t
            have := h3.1
            omega
          · show a + 2 ≤ a + 3; omega
        · rw [prA_3 h h1 h2 h3]
          refine ⟨⟨?_, ?_⟩, Or.inl rfl⟩
          · show a ≤ a + 2; omega
          · show a + 2 ≤ t
            have := h1.1
            omega
    · rw [prA_1 h h1]
      refine ⟨⟨?_, ?_⟩, Or.inl rfl⟩
      · show a ≤ a + 1; omega
      · show a + 1 ≤ t
        have := h.1
        omega
  · rw [prA_0 h]
    exact ⟨⟨Int.le_refl _, ha⟩, Or.inl rfl⟩
theorem gX11_passAct {M : Mem} {Q : Int → Mem → Prop} (hI : IX M) (hQ : ∀ M' : Mem, IX M' → Ks kA M M' → M' 156 2 = (prA (M 157) (M 156 3) (M 156 2)).2.1 → Q (prA (M 157) (M 156 3) (M 156 2)).1 M') : qX11_passAct M Q := by
  unfold qX11_passAct
  refine gX9_look hI ?_
  intro x1 p1 _
  have NO : ¬ (M 156 2 < M 156 3 ∧ sgn (M 157 (M 156 2))) → Q 0 M := by
    intro h
    have := hQ M hI Ks.rf
    rw [prA_0 h] at this
    exact this rfl
  have J96 : ∀ M6 : Mem, IX M6 → Ks kA M M6 → M6 156 2 = M 156 2 + 2 → (M 156 2 < M 156 3 ∧ sgn (M 157 (M 156 2))) → dg1 (M 157) (M 156 3) (M 156 2) → ¬ (M 157 (M 156 2) = 110 ∨ M 157 (M 156 2) = 116) → (M 156 2 + 2 < M 156 3 → M 157 (M 156 2) = 120 ∨ M 157 (M 156 2 + 2) ≠ 48) → qX11_passAct_J96 Q M6 := by
    intro M6 i6 k6 a6 h h1 h2 h3
    have g157 : M6 157 = M 157 := funext fun j => k6 157 j (by omega)
    have g3 : M6 156 3 = M 156 3 := k6 156 3 (by omega)
    unfold qX11_passAct_J96
    refine gX9_digit i6 ?_
    intro x12 M12 i12 k12 p12 _
    rw [g157, g3, a6] at p12
    have K12 := k6.tr k12
    rcases p12 with ⟨⟨q0, q1, q2⟩, qz, qa⟩ | ⟨q0, qz, qa⟩
    · refine ⟨fun c => by omega, fun _ => ?_⟩
      have := hQ M12 i12 K12
      rw [prA_4 h h1 h2 ⟨q0, by have := h3 q0; omega, q1, q2⟩] at this
      exact this (by rw [qa]; show M 156 2 + 2 + 1 = M 156 2 + 3; omega)
    · refine ⟨fun _ => ?_, fun c => absurd qz c⟩
      have := hQ M12 i12 K12
      rw [prA_3 h h1 h2 (fun w => q0 ⟨w.1, w.2.2⟩)] at this
      exact this qa
  have J50 : ∀ v2 : Int, (M 156 2 < M 156 3 ∧ sgn (M 157 (M 156 2))) → (v2 = 1 ∧ (M 157 (M 156 2) = 112 ∨ M 157 (M 156 2) = 98) ∨ v2 = 0 ∧ (M 157 (M 156 2) = 110 ∨ M 157 (M 156 2) = 116 ∨ M 157 (M 156 2) = 120)) → x1 = M 157 (M 156 2) → qX11_passAct_J50 Q x1 v2 M := by
    intro v2 h hv ex
    unfold qX11_passAct_J50
    refine gX9_pass hI ?_
    intro M5 i5 k5 p5
    have a5 : M5 156 2 = M 156 2 + 1 := by rcases p5 with q | q <;> omega
    have g157 : M5 157 = M 157 := funext fun j => k5 157 j (by omega)
    have g3 : M5 156 3 = M 156 3 := k5 156 3 (by omega)
    refine gX9_digit i5 ?_
    intro x6 M6 i6 k6 p6 _
    rw [g157, g3, a5] at p6
    have K6 := k5.tr k6
    rcases p6 with ⟨q1, qz, qa⟩ | ⟨q0, qz, qa⟩
    · have h1 : dg1 (M 157) (M 156 3) (M 156 2) := ⟨q1.1, q1.2.1, q1.2.2⟩
      have q48 : 48 ≤ M 157 (M 156 2 + 1) := q1.2.1
      have a6 : M6 156 2 = M 156 2 + 2 := by omega
      have J86 : (M 156 2 + 2 < M 156 3 → v2 = 0 ∨ M 157 (M 156 2 + 2) ≠ 48) → qX11_passAct_J86 Q x1 v2 M6 := by
        intro h3
        unfold qX11_passAct_J86
        refine ⟨by rcases hv with q | q <;> rw [q.1] <;> exact ⟨by decide, by decide⟩, ⟨fun c => ?_, fun c => ⟨?_, ⟨fun c2 => ?_, fun c2 => ?_⟩⟩⟩⟩
        · exact J96 M6 i6 K6 a6 h h1 (by omega) (fun w => by have := h3 w; omega)
        · have := bx_c157.mp (hI.bx 157 (M 156 2))
          exact ⟨by omega, by omega⟩
        · have := hQ M6 i6 K6
          rw [prA_2 h h1 (by omega)] at this
          exact this a6
        · exact J96 M6 i6 K6 a6 h h1 (by omega) (fun w => Or.inl (by omega))
      refine ⟨fun c => by omega, fun _ => ⟨by rcases hv with q | q <;> rw [q.1] <;> exact ⟨by decide, by decide⟩, ⟨fun c => J86 (fun _ => Or.inl c), fun c => ?_⟩⟩⟩
      refine gX9_look i6 ?_
      intro x16 p16 _
      have g157' : M6 157 = M 157 := funext fun j => K6 157 j (by omega)
      have g3' : M6 156 3 = M 156 3 := K6 156 3 (by omega)
      rw [g157', g3', a6] at p16
      refine ⟨fun c2 => J86 (fun w => by omega), fun c2 => ?_⟩
      have := hQ M6 i6 K6
      rw [prA_3 h h1 (by omega) (fun w => by have := w.2.1; omega)] at this
      exact this a6
    · refine ⟨fun _ => ?_, fun c => absurd qz c⟩
      have := hQ M6 i6 K6
      rw [prA_1 h (fun w => q0 ⟨w.1, w.2.1, w.2.2⟩)] at this
      exact this (by rw [qa])
  have J25 : ∀ t0 : Int, (t0 = 1 ∧ (x1 = 112 ∨ x1 = 98) ∨ t0 = 0 ∧ x1 ≠ 112 ∧ x1 ≠ 98) → qX11_passAct_J25 Q x1 t0 M := by
    intro t0 ht
    unfold qX11_passAct_J25
    have b1 : -1 ≤ x1 ∧ x1 ≤ 255 := by
      have := bx_c157.mp (hI.bx 157 (M 156 2))
      rcases p1 with q | q <;> omega
    refine ⟨by rcases ht with q | q <;> rw [q.1] <;> exact ⟨by decide, by decide⟩, ⟨fun c => ?_, fun c => ⟨⟨by omega, by omega⟩, ⟨fun c2 => ?_, fun c2 => ⟨fun c3 => ?_, fun c3 => ⟨fun c4 => ?_, fun c4 => ?_⟩⟩⟩⟩⟩⟩
    · rcases p1 with q | q
      · exact J50 t0 ⟨q.1, by omega⟩ (by omega) q.2
      · omega
    · rcases p1 with q | q
      · exact J50 t0 ⟨q.1, by omega⟩ (by omega) q.2
      · omega
    · rcases p1 with q | q
      · exact J50 t0 ⟨q.1, by omega⟩ (by omega) q.2
      · omega
    · rcases p1 with q | q
      · exact J50 t0 ⟨q.1, by omega⟩ (by omega) q.2
      · omega
    · refine NO (fun w => ?_)
      have w1 := w.1
      have w2 := w.2
      rcases p1 with q | q
      · omega
      · omega
  unfold qX11_passAct_J20
  exact ⟨fun c => J25 1 (Or.inl ⟨rfl, Or.inl c⟩), fun c => ⟨fun c2 => J25 0 (Or.inr ⟨rfl, c, c2⟩), fun c2 => J25 1 (Or.inl ⟨rfl, Or.inr c2⟩)⟩⟩
/-- reading acts from a on: whether all can stand, where reading is then -/
def hrd (f : Int → Int) (t : Int) : Nat → Int → Int × Int
  | 0, a => (1, a)
  | n + 1, a => if t ≤ a then (1, a) else if (prA f t a).1 = 0 then (0, (prA f t a).2.1) else hrd f t n (prA f t a).2.1
theorem hrd_b {f : Int → Int} {t : Int} : ∀ (n : Nat) (a : Int), (0 ≤ a ∧ a ≤ t) → (0 ≤ (hrd f t n a).2 ∧ (hrd f t n a).2 ≤ t) ∧ ((hrd f t n a).1 = 0 ∨ (hrd f t n a).1 = 1) := by
  intro n
  induction n with
  | zero => intro a ha; exact ⟨ha, Or.inr rfl⟩
  | succ n ih =>
    intro a ha
    have b := prA_b (f := f) (t := t) ha.2
    unfold hrd
    split
    · exact ⟨ha, Or.inr rfl⟩
    · split
      · refine ⟨⟨?_, b.1.2⟩, Or.inl rfl⟩
        show 0 ≤ (prA f t a).2.1
        omega
      · exact ih _ ⟨by omega, b.1.2⟩
theorem gX11_hourFault_L11 {X48 : Mem → Prop} {Q : Int → Mem → Prop} {M0 : Mem} {T : Int × Int} (ht : M0 156 3 ≤ 60) (hX : T.1 = 1 → ∀ M' : Mem, IX M' → Ks kA M0 M' → M' 156 2 = T.2 → X48 M') (hQ : T.1 = 0 → ∀ M' : Mem, IX M' → Ks kA M0 M' → M' 156 2 = T.2 → Q T.2 M') : ∀ (n : Nat) (v1 : Int) (M : Mem), IX M → Ks kA M0 M → hrd (M0 157) (M0 156 3) n (M 156 2) = T → (0 ≤ M 156 2 ∧ M 156 2 ≤ M0 156 3) → (0 ≤ v1 ∧ 2 * v1 ≤ M 156 2) → M0 156 3 - M 156 2 ≤ 2 * n → qX11_hourFault_L11 X48 Q (n + 1) v1 M := by
  intro n
  induction n with
  | zero =>
    intro v1 M hI hK hT ha hv hn
    rw [qX11_hourFault_L11]
    refine ⟨⟨by omega, by omega⟩, ⟨fun c => by omega, fun _ => ?_⟩⟩
    unfold qX9_isRead
    intro x1 e1 _ x2 e2 _
    have e3 : M 156 3 = M0 156 3 := hK 156 3 (by omega)
    refine ⟨fun c => by omega, fun c => ?_⟩
    intro _ _
    refine ⟨fun _ => ?_, fun c2 => absurd c2 (by decide)⟩
    subst hT
    exact hX rfl M hI hK rfl
  | succ n ih =>
    intro v1 M hI hK hT ha hv hn
    have e157 : M 157 = M0 157 := funext fun j => hK 157 j (by omega)
    have e3 : M 156 3 = M0 156 3 := hK 156 3 (by omega)
    have b := prA_b (f := M0 157) (t := M0 156 3) ha.2
    rw [qX11_hourFault_L11]
    refine ⟨⟨by omega, by omega⟩, ⟨fun c => by omega, fun _ => ?_⟩⟩
    unfold qX9_isRead
    intro x1 e1 _ x2 e2 _
    unfold hrd at hT
    refine ⟨fun c => ?_, fun c => ?_⟩
    · intro _ _
      refine ⟨fun c2 => absurd rfl c2, fun _ => ?_⟩
      rw [if_neg (by omega)] at hT
      refine gX11_passAct hI ?_
      intro M6 i6 k6 a6 _ _
      rw [e157, e3] at a6 ⊢
      have K6 := hK.tr k6
      refine ⟨fun c3 => ?_, fun c3 => ?_⟩
      · rw [if_neg c3] at hT
        exact ih _ M6 i6 K6 (by rw [a6]; exact hT) (by omega) (by omega) (by omega)
      · rw [if_pos c3] at hT
        subst hT
        intro x8 e8 _
        rw [e8, a6]
        exact hQ rfl M6 i6 K6 a6
    · intro _ _
      refine ⟨fun _ => ?_, fun c2 => absurd c2 (by decide)⟩
      rw [if_pos (by omega)] at hT
      subst hT
      exact hX rfl M hI hK rfl
