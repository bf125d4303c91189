section
theorem ruF_cg {E : Mem} {e e' : Int → Int} (hw : WFC (E 11) (E 1 24)) (h0 : 0 ≤ E 1 24) (he : ∀ j, 0 ≤ j → j < 7 → e j = e' j) : ruF E e = ruF E e' := by
  unfold ruF
  rw [he 1 (by decide) (by decide), evS_cg hw he (E 1 24).toNat (by omega)]
theorem CE.w {E M : Mem} {b : Int} (h : CE E M) (hI : IM b M) : WFC (E 11) (E 1 24) ∧ 0 ≤ E 1 24 := by
  have k24 : M 1 24 = E 1 24 := h 1 24 cE124
  have k11 : M 11 = E 11 := funext fun j => h 11 j (cE11 j)
  have b := bm_c1_24.mp (hI.bx 1 24)
  have w := hI.2
  rw [k24, k11] at w
  exact ⟨w, by omega⟩
theorem gX12_paceOf {k1 : Nat} {p2 b : Int} {M E : Mem} {Q : Int → Mem → Prop} (hI : IM b M) (hE : CE E M) (hk1 : isN k1) (hp : 0 ≤ p2 ∧ p2 ≤ 5 ∧ 0 ≤ M k1 p2) (hQ : ∀ M' : Mem, IM b M' → FrJ (fun k j => k = 14 ∨ k = 13) M M' → Q (paF E (M k1) p2) M') : qX12_paceOf k1 p2 M Q := by
  have hk : k1 = 5 ∨ k1 = 6 := hk1
  have b29 : M k1 p2 ≤ 29 := (((bm_n hk1).mp (hI.bx k1 p2)).1 ⟨by omega, by omega⟩).2
  have n37 := ((bm_n hk1).mp (hI.bx k1 37)).2.2.2 rfl
  unfold qX12_paceOf
  refine gX12_isOn (p1 := p2) ⟨by omega, by omega⟩ ?_
  intro x1 p1 _ _
  refine ⟨fun c => ⟨by omega, by omega, ?_⟩, fun c => by omega⟩
  intro x5 e5 _ M6 h6 x7 e7 _
  have i6 : IM b M6 := by rw [h6]; exact hI.up (by omega) (by simp [BM])
  have E6 : CE E M6 := by rw [h6]; exact hE.up (by intro h; rcases h with h | h | h | h | h <;> omega)
  have K6 : M6 k1 = M k1 := by rw [h6, up2_n (by omega)]
  have F6 : FrJ (fun k j => k = 14 ∨ k = 13) M M6 := by rw [h6]; exact FrJ.rf.up (Or.inl rfl)
  have f7 : x7 = M k1 p2 := by rw [e7, K6]
  refine gX12_freeAhead i6 E6 (by omega) ?_
  intro _ M9 h9 x10 e10 _
  have i9 : IM b M9 := by rw [h9]; exact i6.up (by omega) (by simp [BM])
  have E9 : CE E M9 := by rw [h9]; exact E6.up (by intro h; rcases h with h | h | h | h | h <;> omega)
  have K9 : M9 k1 = M k1 := by rw [h9, up2_n (by omega), K6]
  have F9 : FrJ (fun k j => k = 14 ∨ k = 13) M M9 := by rw [h9]; exact F6.up (Or.inl rfl)
  have f10 : x10 = M k1 p2 := by rw [e10, K9]
  refine ⟨by omega, by omega, ?_⟩
  intro x13 e13 _
  have f13 : x13 = E 2 (M k1 p2) := by rw [e13, f10]; exact E9 2 _ (cE2 _)
  refine gX12_flag i9 ?_
  intro _ M15 h15 x16 e16 r16
  have i15 : IM b M15 := by rw [h15]; exact i9.up (by omega) (by simp [BM])
  have E15 : CE E M15 := by rw [h15]; exact E9.up (by intro h; rcases h with h | h | h | h | h <;> omega)
  have K15 : M15 k1 = M k1 := by rw [h15, up2_n (by omega), K9]
  have F15 : FrJ (fun k j => k = 14 ∨ k = 13) M M15 := by rw [h15]; exact F9.up (Or.inl rfl)
  have f16 : x16 = M k1 37 := by rw [e16, K15]
  refine gX12_weatherOn i15 (by have : -2147483648 ≤ x16 ∧ x16 ≤ 2147483647 := r16; omega) ?_
  intro _ M18 h18 x19 e19 _ x20 e20 _ M21 h21 M22 h22
  have i18 : IM b M18 := by rw [h18]; exact i15.up (by omega) (by simp [BM])
  have E18 : CE E M18 := by rw [h18]; exact E15.up (by intro h; rcases h with h | h | h | h | h <;> omega)
  have K18 : M18 k1 = M k1 := by rw [h18, up2_n (by omega), K15]
  have F18 : FrJ (fun k j => k = 14 ∨ k = 13) M M18 := by rw [h18]; exact F15.up (Or.inl rfl)
  have i21 : IM b M21 := by rw [h21]; exact i18.up (by omega) (by simp [BM])
  have E21 : CE E M21 := by rw [h21]; exact E18.up (by intro h; rcases h with h | h | h | h | h <;> omega)
  have K21 : M21 k1 = M k1 := by rw [h21, up2_n (by omega), K18]
  have F21 : FrJ (fun k j => k = 14 ∨ k = 13) M M21 := by rw [h21]; exact F18.up (Or.inl rfl)
  have i22 : IM b M22 := by rw [h22]; exact i21.up (by omega) (by simp [BM])
  have E22 : CE E M22 := by rw [h22]; exact E21.up (by intro h; rcases h with h | h | h | h | h <;> omega)
  have K22 : M22 k1 = M k1 := by rw [h22, up2_n (by omega), K21]
  have F22 : FrJ (fun k j => k = 14 ∨ k = 13) M M22 := by rw [h22]; exact F21.up (Or.inl rfl)
  have f19 : x19 = M k1 37 := by rw [e19, K18]
  refine gX12_bitsBy i22 E22 (by omega) ?_
  intro _
  refine gJ6_bitCount ?_
  intro _ M25 h25
  have i25 : IM b M25 := by rw [h25]; exact i22.up (by omega) (by simp [BM])
  have E25 : CE E M25 := by rw [h25]; exact E22.up (by intro h; rcases h with h | h | h | h | h <;> omega)
  have F25 : FrJ (fun k j => k = 14 ∨ k = 13) M M25 := by rw [h25]; exact F22.up (Or.inl rfl)
  have he : ∀ j, 0 ≤ j → j < 7 → M25 14 j = envF E (M k1) p2 j := by
    intro j a q
    have : j = 0 ∨ j = 1 ∨ j = 2 ∨ j = 3 ∨ j = 4 ∨ j = 5 ∨ j = 6 := by omega
    rcases this with rfl | rfl | rfl | rfl | rfl | rfl | rfl
    · rw [h25, up2_j (by decide), h22, up2_j (by decide), h21, up2_j (by decide), h18, up2_j (by decide), h15, up2_j (by decide), h9, up2_j (by decide), h6, up2_s, e5]
      rfl
    · rw [h25, up2_j (by decide), h22, up2_j (by decide), h21, up2_j (by decide), h18, up2_j (by decide), h15, up2_j (by decide), h9, up2_s, K6, f7]
      rfl
    · rw [h25, up2_j (by decide), h22, up2_j (by decide), h21, up2_j (by decide), h18, up2_j (by decide), h15, up2_s, f13]
      rfl
    · rw [h25, up2_j (by decide), h22, up2_j (by decide), h21, up2_j (by decide), h18, up2_s, f16, E15 1 7 cE17, E15 4 _ (cE4 _)]
      rfl
    · rw [h25, up2_j (by decide), h22, up2_j (by decide), h21, up2_s, e20, f19]
      rfl
    · rw [h25, up2_j (by decide), h22, up2_s]
      rfl
    · rw [h25, up2_s, K22]
      rfl
  refine gX12_ruled i25 E25 ?_
  intro M26 i26 f26 _ x27 e27 _ x28 e28 _
  have hw := hE.w hI
  have e : x28 = paF E (M k1) p2 := by
    rw [e28, e27]
    unfold paF
    rw [ruF_cg hw.1 hw.2 he]
  rw [e]
  exact hQ _ i26 (F25.tr (f26.mono (by intro k j h; exact Or.inr h)))
theorem gX12_goal_L27 {k1 : Nat} {p2 p3 b f : Int} {M E : Mem} {Q : Int → Mem → Prop} (hI : IM b M) (hE : CE E M) (hk1 : isN k1) (hf : 0 ≤ f ∧ f < eG E) (hp : 0 ≤ p3 ∧ p3 ≤ 3) (hQ : ∀ z : Int, f ≤ z → z ≤ min (eG E) (f + p3) → (z = f ∨ okF E (M k1) f z) → (∀ x, z < x → x ≤ min (eG E) (f + p3) → ¬ okF E (M k1) f x) → Q z M) : ∀ (n : Nat) (v5 v6 v7 v8 : Int), (f < v8 ∧ v8 ≤ min (eG E) (f + p3) + 1) → (f ≤ v5 ∧ v5 < v8) → (v5 = f ∨ okF E (M k1) f v5) → (∀ x, v5 < x → x < v8 → ¬ okF E (M k1) f x) → ((v6 = 0 ∧ ∀ x, f < x → x < v8 → x < eG E → onF (M k1) (eH E) x < 0) ∨ (v6 = 1 ∧ ∃ x, f < x ∧ x < v8 ∧ 0 ≤ onF (M k1) (eH E) x)) → (iR v7 ∧ ((v7 = 0 ∧ ∀ x, f ≤ x → x < v8 → E 2 x = 0) ∨ (v7 ≠ 0 ∧ ∃ x, f ≤ x ∧ x < v8 ∧ E 2 x ≠ 0))) → 30 - v8 < (n : Int) → qX12_goal_L27 k1 p2 p3 Q n f v5 v6 v7 v8 M := by
  intro n
  induction n with
  | zero => intro v5 v6 v7 v8 h8 h5 hb hx h6 h7 hm; have bg := hE.g hI; exact absurd hm (by clear h6 h7; omega)
  | succ n ih =>
    intro v5 v6 v7 v8 h8 h5 hb hx h6 h7 hm
    have bg := hE.g hI
    rw [qX12_goal_L27]
    refine gX12_gate hI hE ?_
    intro _
    refine ⟨⟨by omega, by omega⟩, ?_⟩
    intro x9 e9 _
    refine ⟨⟨by clear h6 h7; omega, by clear h6 h7; omega⟩, ⟨fun c => ⟨⟨by clear h6 h7; omega, by clear h6 h7; omega⟩, hQ _ h5.1 (by clear h6 h7; omega) hb (fun x a q => hx x a (by clear h6 h7; omega))⟩, fun c => ⟨h7.1, ?_⟩⟩⟩
    have hle : v8 ≤ min (eG E) (f + p3) := by clear h6 h7; omega
    -- whether it can stand there
    have fin : ∀ (t0 fr : Int), ((t0 = 0 ∧ ∀ x, f ≤ x → x ≤ v8 → E 2 x = 0) ∨ (t0 = 1 ∧ ∃ x, f ≤ x ∧ x ≤ v8 ∧ E 2 x ≠ 0)) → ((fr = 1 ∧ (v8 = eG E ∨ onF (M k1) (eH E) v8 < 0)) ∨ (fr = 0 ∧ v8 ≠ eG E ∧ 0 ≤ onF (M k1) (eH E) v8)) → ∀ t : Int, ((okF E (M k1) f v8 ∧ t = v8) ∨ (¬ okF E (M k1) f v8 ∧ t = v5)) → qX12_goal_J113 k1 p2 p3 (qX12_goal_L27 k1 p2 p3 Q n) Q f v6 t0 v8 fr t M := by
      intro t0 fr h0 hfr t ht
      have tb : f ≤ t ∧ t < v8 + 1 := by rcases ht with w | w <;> omega
      have tok : t = f ∨ okF E (M k1) f t := by
        rcases ht with w | w
        · rw [w.2]; exact Or.inr w.1
        · rw [w.2]; exact hb
      have tx : ∀ x, t < x → x < v8 + 1 → ¬ okF E (M k1) f x := by
        intro x a q
        rcases ht with w | w
        · omega
        · by_cases cx : x = v8
          · rw [cx]; exact w.1
          · exact hx x (by omega) (by omega)
      have t7 : iR t0 ∧ ((t0 = 0 ∧ ∀ x, f ≤ x → x < v8 + 1 → E 2 x = 0) ∨ (t0 ≠ 0 ∧ ∃ x, f ≤ x ∧ x < v8 + 1 ∧ E 2 x ≠ 0)) := by
        rcases h0 with w | w
        · exact ⟨⟨by omega, by omega⟩, Or.inl ⟨w.1, fun x a q => w.2 x a (by omega)⟩⟩
        · obtain ⟨x, a, q, u⟩ := w.2
          exact ⟨⟨by omega, by omega⟩, Or.inr ⟨by omega, x, a, by omega, u⟩⟩
      unfold qX12_goal_J113
      refine ⟨by rcases h6 with w | w <;> exact ⟨by omega, by omega⟩, ⟨fun c6 => ?_, fun c6 => ⟨by rcases hfr with w | w <;> exact ⟨by omega, by omega⟩, ⟨fun c9 => ?_, fun c9 => ?_⟩⟩⟩⟩
      · refine ih _ _ _ _ (by omega) tb tok tx (Or.inr ⟨rfl, ?_⟩) t7 (by omega)
        rcases h6 with w | w
        · exact absurd w.1 c6
        · obtain ⟨x, a, q, u⟩ := w.2
          exact ⟨x, a, by omega, u⟩
      · refine ih _ _ _ _ (by omega) tb tok tx (Or.inl ⟨rfl, fun x a q u => ?_⟩) t7 (by omega)
        by_cases cx : x = v8
        · rcases hfr with w | w
          · rcases w.2 with y | y
            · omega
            · rw [cx]; exact y
          · exact absurd w.1 c9
        · rcases h6 with w | w
          · exact w.2 x a (by omega) u
          · omega
      · refine ih _ _ _ _ (by omega) tb tok tx (Or.inr ⟨rfl, v8, by omega, by omega, ?_⟩) t7 (by omega)
        rcases hfr with w | w
        · omega
        · exact w.2.2
    have pass : v6 = 0 ↔ ∀ x, f < x → x < v8 → onF (M k1) (eH E) x < 0 := by
      refine ⟨fun w => ?_, fun w => ?_⟩
      · rcases h6 with y | y
        · exact fun x a q => y.2 x a q (by omega)
        · omega
      · rcases h6 with y | y
        · exact y.1
        · obtain ⟨x, a, q, u⟩ := y.2
          have := w x a q
          omega
    have J89 : ∀ (t0 fr : Int), ((t0 = 0 ∧ ∀ x, f ≤ x → x ≤ v8 → E 2 x = 0) ∨ (t0 = 1 ∧ ∃ x, f ≤ x ∧ x ≤ v8 ∧ E 2 x ≠ 0)) → ((fr = 1 ∧ (v8 = eG E ∨ onF (M k1) (eH E) v8 < 0)) ∨ (fr = 0 ∧ v8 ≠ eG E ∧ 0 ≤ onF (M k1) (eH E) v8)) → qX12_goal_J89 k1 p2 p3 (qX12_goal_L27 k1 p2 p3 Q n) Q f v5 v6 t0 v8 fr M := by
      intro t0 fr h0 hfr
      unfold qX12_goal_J89
      refine ⟨by rcases hfr with w | w <;> exact ⟨by omega, by omega⟩, ⟨fun c1 => ?_, fun c1 => ⟨by rcases h6 with w | w <;> exact ⟨by omega, by omega⟩, ⟨fun c2 => ?_, fun c2 => ⟨by rcases h0 with w | w <;> exact ⟨by omega, by omega⟩, ⟨fun c3 => ?_, fun c3 => ?_⟩⟩⟩⟩⟩⟩
      · unfold qX12_goal_J111
        refine fin _ _ h0 hfr _ (Or.inr ⟨fun ok => ?_, rfl⟩)
        rcases hfr with w | w
        · omega
        · rcases ok.1 with y | y
          · exact w.2.1 y
          · omega
      · unfold qX12_goal_J106
        refine fin _ _ h0 hfr _ (Or.inl ⟨⟨?_, Or.inl (pass.mp c2)⟩, rfl⟩)
        rcases hfr with w | w
        · exact w.2
        · exact absurd w.1 c1
      · unfold qX12_goal_J111
        refine fin _ _ h0 hfr _ (Or.inr ⟨fun ok => ?_, rfl⟩)
        rcases ok.2 with y | y
        · exact c2 (pass.mpr y)
        · rcases h0 with w | w
          · exact c3 w.1
          · obtain ⟨x, a, q, u⟩ := w.2
            exact u (y x a q)
      · unfold qX12_goal_J106
        refine fin _ _ h0 hfr _ (Or.inl ⟨⟨?_, Or.inr ?_⟩, rfl⟩)
        · rcases hfr with w | w
          · exact w.2
          · exact absurd w.1 c1
        · rcases h0 with w | w
          · exact w.2
          · omega
    have J63 : ∀ t0 : Int, ((t0 = 0 ∧ ∀ x, f ≤ x → x ≤ v8 → E 2 x = 0) ∨ (t0 = 1 ∧ ∃ x, f ≤ x ∧ x ≤ v8 ∧ E 2 x ≠ 0)) → qX12_goal_J63 k1 p2 p3 (qX12_goal_L27 k1 p2 p3 Q n) Q f v5 v6 v8 t0 M := by
      intro t0 h0
      unfold qX12_goal_J63
      refine gX12_gate hI hE ?_
      intro _
      refine ⟨⟨by omega, by omega⟩, ⟨fun c1 => ?_, fun c1 => ?_⟩⟩
      · unfold qX12_goal_J84
        exact J89 _ _ h0 (Or.inl ⟨rfl, Or.inl c1⟩)
      · refine gX12_onCell hI hE ?_
        intro _
        refine ⟨fun c2 => J89 _ _ h0 (Or.inr ⟨rfl, c1, c2⟩), fun c2 => ?_⟩
        unfold qX12_goal_J84
        exact J89 _ _ h0 (Or.inl ⟨rfl, Or.inr (by omega)⟩)
    have J58 : (∃ x, f ≤ x ∧ x ≤ v8 ∧ E 2 x ≠ 0) → qX12_goal_J58 k1 p2 p3 (qX12_goal_L27 k1 p2 p3 Q n) Q f v5 v6 v8 M := by
      intro h
      unfold qX12_goal_J58
      exact J63 _ (Or.inr ⟨rfl, h⟩)
    refine ⟨fun c7 => J58 ?_, fun c7 => ⟨by clear h6 h7; omega, by clear h6 h7; omega, ?_⟩⟩
    · rcases h7.2 with w | w
      · exact absurd w.1 c7
      · obtain ⟨x, a, q, u⟩ := w.2
        exact ⟨x, a, by omega, u⟩
    · intro x32 e32 _
      have f32 : x32 = E 2 v8 := by rw [e32]; exact hE 2 _ (cE2 _)
      refine ⟨fun c8 => J63 _ (Or.inl ⟨rfl, fun x a q => ?_⟩), fun c8 => J58 ⟨v8, by omega, by omega, by rw [← f32]; exact c8⟩⟩
      by_cases cx : x = v8
      · rw [cx, ← f32]; exact c8
      · rcases h7.2 with w | w
        · exact w.2 x a (by omega)
        · exact absurd c7 w.1
theorem gX12_goal {k1 : Nat} {p2 p3 b : Int} {M E : Mem} {Q : Int → Mem → Prop} (hI : IM b M) (hE : CE E M) (hk1 : isN k1) (hp2 : 0 ≤ p2 ∧ p2 ≤ 5) (hf : 0 ≤ M k1 p2 ∧ M k1 p2 < eG E) (hp : 0 ≤ p3 ∧ p3 ≤ 3) (hQ : Q (goF E (M k1) p2 p3) M) : qX12_goal k1 p2 p3 M Q := by
  have bg := hE.g hI
  unfold qX12_goal
  refine ⟨by omega, by omega, ?_⟩
  intro x3 e3 _
  rw [← e3] at hf
  refine ⟨by omega, by omega, ?_⟩
  intro x6 e6 r6
  have f6 : x6 = E 2 x3 := by rw [e6]; exact hE 2 _ (cE2 _)
  refine ⟨31, gX12_goal_L27 hI hE hk1 hf hp ?_ _ _ _ _ _ (by omega) (by omega) (Or.inl rfl) (fun x a q => by omega) (Or.inl ⟨rfl, fun x a q => by omega⟩) ⟨r6, ?_⟩ (by omega)⟩
  · intro z z0 z1 zo zx
    have e : goF E (M k1) p2 p3 = z := by
      unfold goF
      rw [← e3]
      refine gdF_u ⟨⟨z0, by omega⟩, zo, fun x a q => zx x a (by omega)⟩
    rw [← e]
    exact hQ
  · by_cases c : x6 = 0
    · exact Or.inl ⟨c, fun x a q => by rw [show x = x3 from by omega, ← f6]; exact c⟩
    · exact Or.inr ⟨c, x3, by omega, by omega, by rw [← f6]; exact c⟩
end
section
theorem gX12_hearseGoes {k1 : Nat} {p2 b : Int} {M E : Mem} {Q : Mem → Prop} (hI : IM b M) (hE : CE E M) (hk1 : isN k1) (hp : 0 ≤ p2 ∧ p2 ≤ 5) (hf : 0 ≤ M k1 p2 ∧ M k1 p2 < eG E) (hQ : ∀ M' : Mem, IM b M' → FrJ (fun k j => k = k1 ∨ k = 14 ∨ k = 13 ∨ (k = 1 ∧ j = 30) ∨ k = 16) M M' → M' k1 = mhF E (M k1) p2 → Q M') : qX12_hearseGoes k1 p2 M Q := by
  have hk : k1 = 5 ∨ k1 = 6 := hk1
  have bg := hE.g hI
  unfold qX12_hearseGoes
  refine gX12_paceOf hI hE hk1 ⟨hp.1, hp.2, hf.1⟩ ?_
  intro M1 i1 f1 _
  have K1 : M1 k1 = M k1 := funext fun j => f1 k1 j (by omega)
  have E1 : CE E M1 := hE.fr f1 (by intro k j h; rcases h with h | h | h | h | h <;> omega)
  have F1 : FrJ (fun k j => k = k1 ∨ k = 14 ∨ k = 13 ∨ (k = 1 ∧ j = 30) ∨ k = 16) M M1 := f1.mono (by intro k j h; omega)
  have bp : 0 ≤ paF E (M k1) p2 ∧ paF E (M k1) p2 ≤ 3 := by unfold paF; omega
  refine gX12_goal (p2 := p2) i1 E1 hk1 hp (by rw [K1]; exact hf) bp ?_
  rw [K1]
  intro _
  have gb := gdF_c (okF E (M k1) (M k1 p2)) (M k1 p2) (min (eG E) (M k1 p2 + paF E (M k1) p2) - M k1 p2).toNat
  have gl : M k1 p2 ≤ goF E (M k1) p2 (paF E (M k1) p2) ∧ goF E (M k1) p2 (paF E (M k1) p2) ≤ eG E := by
    have h1 := gb.1
    show M k1 p2 ≤ gdF _ _ _ ∧ gdF _ _ _ ≤ eG E
    omega
  refine ⟨by omega, by omega, ?_⟩
  intro x5 e5 _
  have f5 : x5 = M k1 p2 := e5
  refine ⟨fun c => ?_, fun c => ?_⟩
  · rw [f5] at c
    refine gX12_gate i1 E1 ?_
    intro _
    refine ⟨fun c2 => ?_, fun c2 => ?_⟩
    · intro M9 h9
      refine hQ _ (by rw [h9]; exact i1.up (isN.nu hk1 _) ((bm_n hk1).mpr ⟨by omega, by omega, by omega, by omega⟩)) (by rw [h9]; exact F1.up (Or.inl rfl)) ?_
      rw [h9, up2_up, K1]
      unfold mhF
      rw [if_neg c, if_neg c2]
    · intro x10 e10 _ x11 e11 r11 M12 h12 x13 e13 _
      have f10 : x10 = M k1 12 := by rw [e10, K1]
      have f13 : x13 = x11 := by rw [e13, h12, up2_s]
      have i12 : IM b M12 := by rw [h12]; exact i1.up (isN.nu hk1 _) ((bm_n hk1).mpr ⟨by omega, by omega, by omega, by omega⟩)
      refine ⟨by omega, by omega, ?_⟩
      intro M16 h16 M17 h17
      have i16 : IM b M16 := by rw [h16]; exact i12.up (isN.nu hk1 _) ((bm_n hk1).mpr ⟨by omega, by omega, by omega, by omega⟩)
      refine hQ _ (by rw [h17]; exact i16.up (isN.nu hk1 _) ((bm_n hk1).mpr ⟨by omega, by omega, by omega, by omega⟩)) (by rw [h17, h16, h12]; exact ((F1.up (Or.inl rfl)).up (Or.inl rfl)).up (Or.inl rfl)) ?_
      rw [h17, up2_up, h16, up2_up, h12, up2_up, K1, f13, e11, f10]
      unfold mhF
      rw [if_neg c, if_pos c2]
  · rw [f5] at c
    intro x18 _ _ x19 _ _ M20 h20
    have i20 : IM b M20 := by rw [h20]; exact i1.up (by omega) (by simp [BM])
    refine ⟨by omega, by omega, ?_⟩
    intro x23 _ _ x24 _ _ M25 h25
    refine hQ _ (by rw [h25]; exact i20.up (by omega) (by simp [BM])) (by rw [h25, h20]; exact (F1.up (by omega)).up (by omega)) ?_
    rw [h25, up2_n (by omega), h20, up2_n (by omega), K1]
    unfold mhF
    rw [if_pos c]
theorem gX12_nearest_L5 {k1 : Nat} {p2 b : Int} {Q : Int → Mem → Prop} {M E : Mem} (hI : IM b M) (hE : CE E M) (hk1 : isN k1) (hp : -1 ≤ p2 ∧ p2 ≤ 29) (hQ : Q (nearF (M k1) p2 (eH E)) M) : ∀ (n : Nat) (v3 v4 : Int), v3 = nearF (M k1) p2 v4.toNat → (0 ≤ v4 ∧ v4 ≤ M 1 4) → M 1 4 - v4 < (n : Int) → qX12_nearest_L5 k1 p2 Q n v3 v4 M := by
  intro n
  induction n with
  | zero => intro v3 v4 h3 hv hm; exact absurd hm (by omega)
  | succ n ih =>
    intro v3 v4 h3 hv hm
    have hk : k1 = 5 ∨ k1 = 6 := hk1
    have bH := hE.h hI
    have bn := nearF_b (M k1) p2 v4.toNat
    have hs := nearF_s (c := M k1) (v := p2) hv.1
    rw [← h3] at bn hs
    rw [qX12_nearest_L5]
    intro x1 e1 _
    refine ⟨⟨by omega, by omega⟩, ⟨fun c => ⟨⟨by omega, by omega⟩, ?_⟩, fun c => ?_⟩⟩
    · rw [h3, show v4.toNat = eH E from by omega]
      exact hQ
    · refine gX12_isOn (p1 := v4) ⟨by omega, by omega⟩ ?_
      intro x5 p5 _ _
      refine ⟨fun c5 => ?_, fun c5 => ?_⟩
      · refine ih _ _ ?_ (by omega) (by omega)
        rw [hs, if_neg (fun w => by omega)]
      · refine ⟨by omega, by omega, ?_⟩
        intro x9 e9 _
        have b9 : -1 ≤ x9 ∧ x9 ≤ 29 := by rw [e9]; exact ((bm_n hk1).mp (hI.bx _ _)).1 ⟨by omega, by omega⟩
        refine ⟨⟨by omega, by omega⟩, ?_⟩
        intro x11 p11 n11
        have a11 := ab_e p11 n11
        have b11 := ab_b (x9 - p2)
        have YES : (v3 < 0 ∨ ab (M k1 v4 - p2) < ab (M k1 v3 - p2) ∨ (ab (M k1 v4 - p2) = ab (M k1 v3 - p2) ∧ M k1 v3 < M k1 v4)) → qX12_nearest_L5 k1 p2 Q n v4 (v4 + 1) M := fun w => ih _ _ (by rw [hs, if_pos ⟨by omega, w⟩]) (by omega) (by omega)
        have NO : ¬ (v3 < 0 ∨ ab (M k1 v4 - p2) < ab (M k1 v3 - p2) ∨ (ab (M k1 v4 - p2) = ab (M k1 v3 - p2) ∧ M k1 v3 < M k1 v4)) → qX12_nearest_L5 k1 p2 Q n v3 (v4 + 1) M := fun w => ih _ _ (by rw [hs, if_neg (fun u => w u.2)]) (by omega) (by omega)
        rw [← e9, ← a11] at YES NO
        refine ⟨⟨by omega, by omega⟩, ⟨fun c3 => ⟨by omega, by omega, ?_⟩, fun c3 => ?_⟩⟩
        · intro x16 e16 _
          have b16 : -1 ≤ x16 ∧ x16 ≤ 29 := by rw [e16]; exact ((bm_n hk1).mp (hI.bx _ _)).1 ⟨by omega, by omega⟩
          refine ⟨⟨by omega, by omega⟩, ?_⟩
          intro x18 p18 n18
          have a18 := ab_e p18 n18
          have b18 := ab_b (x16 - p2)
          rw [← e16, ← a18] at YES NO
          unfold qX12_nearest_J52
          refine ⟨⟨by omega, by omega⟩, ⟨by omega, by omega⟩, ⟨fun c6 => YES (by omega), fun c6 => ⟨fun c7 => NO (by omega), fun c7 => ⟨by omega, by omega, ?_⟩⟩⟩⟩
          intro x25 e25 _
          refine ⟨by omega, by omega, ?_⟩
          intro x28 e28 _
          exact ⟨fun c8 => NO (by omega), fun c8 => YES (by omega)⟩
        · unfold qX12_nearest_J52
          refine ⟨⟨by omega, by omega⟩, ⟨by decide, by decide⟩, ⟨fun c6 => YES (Or.inl (by omega)), fun c6 => by omega⟩⟩
theorem gX12_nearest {k1 : Nat} {p2 b : Int} {Q : Int → Mem → Prop} {M E : Mem} (hI : IM b M) (hE : CE E M) (hk1 : isN k1) (hp : -1 ≤ p2 ∧ p2 ≤ 29) (hQ : Q (nearF (M k1) p2 (eH E)) M) : qX12_nearest k1 p2 M Q := by
  have bH := hE.h hI
  unfold qX12_nearest
  exact ⟨7, gX12_nearest_L5 hI hE hk1 hp hQ _ _ _ rfl (by omega) (by omega)⟩
theorem gX12_mournerGoes {k1 : Nat} {p2 b : Int} {M E : Mem} {Q : Mem → Prop} (hI : IM b M) (hE : CE E M) (hk1 : isN k1) (hp : 0 ≤ p2 ∧ p2 ≤ 7) (hQ : ∀ M' : Mem, IM b M' → FrJ (fun k j => k = k1 ∨ (k = 1 ∧ j = 31) ∨ k = 17) M M' → M' k1 = mmF E (M k1) p2 → Q M') : qX12_mournerGoes k1 p2 M Q := by
  have hk : k1 = 5 ∨ k1 = 6 := hk1
  have bH := hE.h hI
  have bF : -1 ≤ M k1 (21 + p2) ∧ M k1 (21 + p2) ≤ 5 := ((bm_n hk1).mp (hI.bx _ _)).2.2.1 ⟨by omega, by omega⟩
  have bA : -1 ≤ M k1 (13 + p2) ∧ M k1 (13 + p2) ≤ 29 := ((bm_n hk1).mp (hI.bx _ _)).2.1 ⟨by omega, by omega⟩
  have bn := nearF_b (M k1) (M k1 (13 + p2)) (eH E)
  have J105 : ∀ (v3 : Int) (M' : Mem) (F : Int → Int), IM b M' → FrJ (fun k j => k = k1 ∨ (k = 1 ∧ j = 31) ∨ k = 17) M M' → (-1 ≤ v3 ∧ v3 ≤ 5) → (v3 < 0 → M' k1 = mmF E (M k1) p2) → (0 ≤ v3 → M' k1 v3 = M k1 v3 ∧ mmF E (M k1) p2 = up (M' k1) (13 + p2) (goM (M k1) p2 v3)) → qX12_mournerGoes_J105 k1 p2 Q v3 (M k1 (13 + p2)) M' := by
    intro v3 M' F i' f' h3 hn hp3
    unfold qX12_mournerGoes_J105
    refine ⟨⟨by omega, by omega⟩, ⟨fun c => hQ _ i' f' (hn c), fun c => ⟨by omega, by omega, ?_⟩⟩⟩
    obtain ⟨k3, km⟩ := hp3 (by omega)
    intro x14 e14 _
    have f14 : x14 = M k1 v3 := by rw [e14, k3]
    have b14 : -1 ≤ x14 ∧ x14 ≤ 29 := by rw [f14]; exact ((bm_n hk1).mp (hI.bx _ _)).1 ⟨by omega, by omega⟩
    have fin : ∀ t : Int, (-1 ≤ t ∧ t ≤ 29) → t = goM (M k1) p2 v3 → qX12_mournerGoes_J145 k1 p2 Q t (13 + p2) M' := by
      intro t ht et
      unfold qX12_mournerGoes_J145
      refine ⟨by omega, by omega, ⟨by omega, by omega⟩, ?_⟩
      intro M23 h23
      refine hQ _ (by rw [h23]; exact i'.up (isN.nu hk1 _) ((bm_n hk1).mpr ⟨by omega, by omega, by omega, by omega⟩)) (by rw [h23]; exact f'.up (Or.inl rfl)) ?_
      rw [h23, up2_up, km, et]
    refine ⟨⟨by omega, by omega⟩, ⟨fun c2 => ?_, fun c2 => ?_⟩⟩
    · intro x17 e17 _
      refine ⟨⟨by omega, by omega⟩, ?_⟩
      intro x19 e19 _
      refine fin _ (by omega) ?_
      unfold goM
      rw [if_pos (by omega), e19]
      have : x17 = M k1 v3 := by rw [e17, k3]
      rw [this]
    · intro x24 e24 _
      refine ⟨⟨by omega, by omega⟩, ?_⟩
      intro x26 e26 _
      have : x24 = M k1 v3 := by rw [e24, k3]
      refine fin _ (by omega) ?_
      unfold goM
      rw [if_neg (by omega), e26, this]
  have J75 : chF E (M k1) p2 → (M k1 (21 + p2) < 0 ∨ 0 ≤ M k1 (M k1 (21 + p2))) → qX12_mournerGoes_J75 k1 p2 Q (M k1 (13 + p2)) (nearF (M k1) (M k1 (13 + p2)) (eH E)) M := by
    intro hch hno
    have h0 : 0 ≤ nearF (M k1) (M k1 (13 + p2)) (eH E) := hch.1
    unfold qX12_mournerGoes_J75
    refine ⟨by omega, by omega, ⟨by omega, by omega⟩, ?_⟩
    intro M32 h32 x33 _ _ x34 _ _ M35 h35
    have i32 : IM b M32 := by rw [h32]; exact hI.up (isN.nu hk1 _) ((bm_n hk1).mpr ⟨by omega, by omega, by omega, by omega⟩)
    have i35 : IM b M35 := by rw [h35]; exact i32.up (by omega) (by simp [BM])
    refine ⟨by omega, by omega, ?_⟩
    intro x38 _ _ x39 _ _ M40 h40
    have i40 : IM b M40 := by rw [h40]; exact i35.up (by omega) (by simp [BM])
    have K : M40 k1 = up (M k1) (21 + p2) (nearF (M k1) (M k1 (13 + p2)) (eH E)) := by rw [h40, up2_n (by omega), h35, up2_n (by omega), h32, up2_up]
    refine J105 _ _ (fun _ => 0) i40 (by rw [h40, h35, h32]; exact ((FrJ.rf.up (Or.inl rfl)).up (by omega)).up (by omega)) (by omega) (fun q => by omega) (fun _ => ⟨by rw [K, up_j (by omega)], ?_⟩)
    rw [K]
    unfold mmF
    rw [if_neg (by omega), if_pos hch]
  have J27 : (M k1 (21 + p2) < 0 ∨ 0 ≤ M k1 (M k1 (21 + p2))) → qX12_mournerGoes_J27 k1 p2 Q (M k1 (21 + p2)) M := by
    intro hno
    unfold qX12_mournerGoes_J27
    refine ⟨by omega, by omega, ?_⟩
    intro x7 e7 _
    rw [e7]
    refine gX12_nearest (p2 := M k1 (13 + p2)) hI hE hk1 bA ?_
    intro _
    have NO : ¬ chF E (M k1) p2 → qX12_mournerGoes_J105 k1 p2 Q (M k1 (21 + p2)) (M k1 (13 + p2)) M := by
      intro hch
      refine J105 _ _ (fun _ => 0) hI FrJ.rf bF (fun q => ?_) (fun q => ⟨rfl, ?_⟩)
      · unfold mmF
        rw [if_neg (by omega), if_neg hch, if_pos q]
      · unfold mmF
        rw [if_neg (by omega), if_neg hch, if_neg (by omega)]
    refine ⟨fun c => NO (fun h => by have := h.1; omega), fun c => ⟨⟨by omega, by omega⟩, ⟨fun c2 => J75 ⟨by omega, Or.inl c2⟩ hno, fun c2 => ⟨by omega, by omega, ?_⟩⟩⟩⟩
    intro x43 e43 _
    have b43 : -1 ≤ x43 ∧ x43 ≤ 29 := by rw [e43]; exact ((bm_n hk1).mp (hI.bx _ _)).1 ⟨by omega, by omega⟩
    refine ⟨⟨by omega, by omega⟩, ?_⟩
    intro x45 p45 n45
    have a45 := ab_e p45 n45
    have b45 := ab_b (x43 - M k1 (13 + p2))
    refine ⟨by omega, by omega, ?_⟩
    intro x48 e48 _
    have b48 : -1 ≤ x48 ∧ x48 ≤ 29 := by rw [e48]; exact ((bm_n hk1).mp (hI.bx _ _)).1 ⟨by omega, by omega⟩
    refine ⟨⟨by omega, by omega⟩, ?_⟩
    intro x50 p50 n50
    have a50 := ab_e p50 n50
    have b50 := ab_b (x48 - M k1 (13 + p2))
    rw [e43] at a45
    rw [e48] at a50
    refine ⟨⟨by omega, by omega⟩, ⟨by omega, by omega⟩, ⟨fun c3 => NO (fun h => ?_), fun c3 => J75 ⟨by omega, Or.inr (by omega)⟩ hno⟩⟩
    rcases h.2 with w | w
    · omega
    · omega
  unfold qX12_mournerGoes
  refine ⟨by omega, by omega, ?_⟩
  intro x3 e3 _
  rw [e3]
  refine ⟨fun c => J27 (Or.inl c), fun c => ?_⟩
  refine gX12_isOn (p1 := M k1 (21 + p2)) ⟨by omega, by omega⟩ ?_
  intro x54 p54 _ _
  refine ⟨fun c2 => J27 (Or.inr (by omega)), fun c2 => ⟨by omega, by omega, ?_⟩⟩
  intro M58 h58
  refine hQ _ (by rw [h58]; exact hI.up (isN.nu hk1 _) ((bm_n hk1).mpr ⟨by omega, by omega, by omega, by omega⟩)) (by rw [h58]; exact FrJ.rf.up (Or.inl rfl)) ?_
  rw [h58, up2_up]
  unfold mmF
  rw [if_pos ⟨by omega, by omega⟩]
-- the line
theorem lnL_s {r : Int → Int} {H : Nat} {c : Int} (h : 0 ≤ c) : lnL r H (c + 1).toNat = if 0 ≤ onF r H c then onF r H c :: lnL r H c.toNat else lnL r H c.toNat := by
  rw [show (c + 1).toNat = c.toNat + 1 from by omega]
  show (if 0 ≤ onF r H (c.toNat : Nat) then onF r H (c.toNat : Nat) :: lnL r H c.toNat else lnL r H c.toNat) = _
  rw [show ((c.toNat : Nat) : Int) = c from by omega]
/-- the rest of the line is l -/
def LL (M : Mem) (i : Int) (l : List Int) : Prop := M 1 35 = i + l.length ∧ ∀ j : Nat, j < l.length → M 18 (i + j) = l.getD j 0
theorem getD_l {l m : List Int} {j : Nat} (h : j < l.length) : (l ++ m).getD j 0 = l.getD j 0 := by
  simp [List.getD, List.getElem?_append, h]
theorem getD_e {l : List Int} {x : Int} : (l ++ [x]).getD l.length 0 = x := by
  simp [List.getD, List.getElem?_append]
theorem gX12_laysLine_L12 {k1 : Nat} {b : Int} {M0 E : Mem} {Q : Mem → Prop} {L : List Int} (hk1 : isN k1) (hQ : ∀ M' : Mem, IM b M' → FrJ (fun k j => k = 18 ∨ (k = 1 ∧ j = 35)) M0 M' → LL M' 0 L → L.length ≤ 6 → Q M') : ∀ (n : Nat) (v2 : Int) (M : Mem) (P : List Int), IM b M → CE E M → FrJ (fun k j => k = 18 ∨ (k = 1 ∧ j = 35)) M0 M → (-1 ≤ v2 ∧ v2 ≤ 29) → P ++ lnL (M0 k1) (eH E) (v2 + 1).toNat = L → M 1 35 = P.length → (∀ j : Nat, j < P.length → M 18 j = P.getD j 0) → (P.length : Int) ≤ sOn (M0 k1) v2 → v2 + 1 < (n : Int) → qX12_laysLine_L12 k1 Q n v2 M := by
  intro n
  induction n with
  | zero => intro v2 M P hI hE hF hv hL h35 h18 hb hm; exact absurd hm (by omega)
  | succ n ih =>
    intro v2 M P hI hE hF hv hL h35 h18 hb hm
    have hk : k1 = 5 ∨ k1 = 6 := hk1
    have bH := hE.h hI
    have bb := bm_c1_35.mp (hI.bx 1 35)
    have K : M k1 = M0 k1 := funext fun j => hF k1 j (by omega)
    rw [qX12_laysLine_L12]
    refine ⟨⟨by omega, by omega⟩, ⟨fun c => hQ _ hI hF ?_ ?_, fun c => ?_⟩⟩
    · have e : P = L := by
        rw [show v2 + 1 = 0 from by omega] at hL
        simpa [lnL] using hL
      refine ⟨by rw [← e]; omega, fun j hj => ?_⟩
      rw [show (0 : Int) + j = j from by omega, h18 j (by rw [e]; exact hj), e]
    · have e : P = L := by
        rw [show v2 + 1 = 0 from by omega] at hL
        simpa [lnL] using hL
      rw [← e]
      omega
    · refine gX12_onCell hI hE ?_
      intro _
      rw [K]
      have hs := lnL_s (r := M0 k1) (H := eH E) (c := v2) (by omega)
      refine ⟨fun c2 => ?_, fun c2 => ?_⟩
      · rw [hs, if_neg (by omega)] at hL
        have := sOn_mono (M0 k1) v2
        exact ih _ _ P hI hE hF (by omega) (by rw [show v2 + (-1) + 1 = v2 from by omega]; exact hL) h35 h18 (by rw [show v2 + (-1) = v2 - 1 from by omega]; omega) (by omega)
      · rw [hs, if_pos (by omega)] at hL
        have ob := onF_b (M0 k1) (eH E) v2
        have hh := sOn_hit (f := M0 k1) (v := v2) (h := onF (M0 k1) (eH E) v2) (by omega) (onF_c (by omega))
        intro x7 e7 _
        refine ⟨by omega, by omega, ?_⟩
        intro M10 h10 x11 e11 _
        have i10 : IM b M10 := by rw [h10]; exact hI.up (by omega) (bm_c18.mpr ⟨by omega, by omega⟩)
        have f11 : x11 = x7 := by rw [e11, h10, up2_n (by decide), e7]
        refine ⟨⟨by omega, by omega⟩, ?_⟩
        intro M13 h13
        have i13 : IM b M13 := by rw [h13]; exact i10.up (by omega) (bm_c1_35.mpr ⟨by omega, by omega⟩)
        have E13 : CE E M13 := by rw [h13, h10]; exact (hE.up (by intro h; rcases h with h | h | h | h | h <;> omega)).up (by decide)
        refine ih _ _ (P ++ [onF (M0 k1) (eH E) v2]) i13 E13 (by rw [h13, h10]; exact (hF.up (Or.inl rfl)).up (Or.inr ⟨rfl, rfl⟩)) (by omega) ?_ ?_ ?_ ?_ (by omega)
        · rw [show v2 + (-1) + 1 = v2 from by omega, List.append_assoc]
          exact hL
        · rw [h13, up2_s, List.length_append]
          simp
          omega
        · intro j hj
          rw [List.length_append] at hj
          have hj2 : j < P.length + 1 := hj
          rw [h13, up2_n (by decide), h10]
          by_cases cj : j = P.length
          · rw [cj, show ((P.length : Nat) : Int) = x7 from by omega, up2_s, getD_e]
          · rw [up2_j (by omega), getD_l (by omega)]
            exact h18 j (by omega)
        · rw [List.length_append, show v2 + (-1) = v2 - 1 from by omega]
          simp
          omega
theorem gX12_laysLine {k1 : Nat} {b : Int} {M E : Mem} {Q : Mem → Prop} (hI : IM b M) (hE : CE E M) (hk1 : isN k1) (hQ : ∀ M' : Mem, IM b M' → FrJ (fun k j => k = 18 ∨ (k = 1 ∧ j = 35)) M M' → LL M' 0 (lnL (M k1) (eH E) (eG E).toNat) → (lnL (M k1) (eH E) (eG E).toNat).length ≤ 6 → Q M') : qX12_laysLine k1 M Q := by
  have hk : k1 = 5 ∨ k1 = 6 := hk1
  have bg := hE.g hI
  unfold qX12_laysLine
  intro M1 h1
  have i1 : IM b M1 := by rw [h1]; exact hI.up (by omega) (bm_c1_35.mpr (by decide))
  have E1 : CE E M1 := by rw [h1]; exact hE.up (by decide)
  have F1 : FrJ (fun k j => k = 18 ∨ (k = 1 ∧ j = 35)) M M1 := by rw [h1]; exact FrJ.rf.up (Or.inr ⟨rfl, rfl⟩)
  refine gX12_gate i1 E1 ?_
  intro _
  refine ⟨31, gX12_laysLine_L12 (E := E) hk1 hQ _ _ _ [] i1 E1 F1 (by omega) (by rw [show eG E - 1 + 1 = eG E from by omega]; rfl) (by rw [h1, up2_s]; rfl) (fun j hj => absurd hj (Nat.not_lt_zero _)) ?_ (by omega)⟩
  have a0 := tOn_b (M k1) (eG E - 1) 0
  have a1 := tOn_b (M k1) (eG E - 1) 1
  have a2 := tOn_b (M k1) (eG E - 1) 2
  have a3 := tOn_b (M k1) (eG E - 1) 3
  have a4 := tOn_b (M k1) (eG E - 1) 4
  have a5 := tOn_b (M k1) (eG E - 1) 5
  show ((0 : Nat) : Int) ≤ sOn (M k1) (eG E - 1)
  unfold sOn
  omega
theorem lnL_m {r : Int → Int} {H c : Nat} {h : Int} (hm : h ∈ lnL r H c) : 0 ≤ h ∧ h < H ∧ 0 ≤ r h ∧ r h < c := by
  induction c with
  | zero => exact absurd hm (by simp [lnL])
  | succ c ih =>
    unfold lnL at hm
    by_cases q : 0 ≤ onF r H c
    · rw [if_pos q] at hm
      rcases List.mem_cons.mp hm with w | w
      · have e := onF_c q
        have b := onF_b r H c
        rw [w, e]
        omega
      · have := ih w
        omega
    · rw [if_neg q] at hm
      have := ih hm
      omega
/-- hearses that can go, each once -/
def VL (g : Int) (r : Int → Int) : List Int → Prop
  | [] => True
  | h :: t => (0 ≤ h ∧ h ≤ 5 ∧ 0 ≤ r h ∧ r h < g) ∧ (∀ h' ∈ t, h' ≠ h) ∧ VL g r t
theorem VL.cg {g : Int} {r r' : Int → Int} {l : List Int} (h : VL g r l) (he : ∀ x ∈ l, r' x = r x) : VL g r' l := by
  induction l with
  | nil => trivial
  | cons a t ih =>
    obtain ⟨h1, h2, h3⟩ := h
    have ea := he a (List.mem_cons_self ..)
    exact ⟨by rw [ea]; exact h1, h2, ih h3 (fun x hx => he x (List.mem_cons_of_mem _ hx))⟩
theorem lnL_VL {r : Int → Int} {H : Nat} {g : Int} (hH : H ≤ 6) (c : Nat) (hc : (c : Int) ≤ g) : VL g r (lnL r H c) := by
  induction c with
  | zero => trivial
  | succ c ih =>
    unfold lnL
    by_cases q : 0 ≤ onF r H c
    · rw [if_pos q]
      have e := onF_c q
      have b := onF_b r H c
      refine ⟨⟨q, by omega, by rw [e]; omega, by rw [e]; omega⟩, fun h' hm eq => ?_, ih (by omega)⟩
      have := lnL_m hm
      rw [eq, e] at this
      omega
    · rw [if_neg q]
      exact ih (by omega)
theorem VL.i {g : Int} {r : Int → Int} {l : List Int} (h : VL g r l) : ∀ x ∈ l, 0 ≤ x ∧ x ≤ 5 := by
  induction l with
  | nil => intro x hx; exact absurd hx (by simp)
  | cons a t ih =>
    intro x hx
    rcases List.mem_cons.mp hx with w | w
    · rw [w]; exact ⟨h.1.1, h.1.2.1⟩
    · exact ih h.2.2 x w
theorem mhF_o {E : Mem} {r : Int → Int} {h j : Int} (h1 : j ≠ h) (h2 : j ≠ 6 + h) (h3 : j ≠ 12) : mhF E r h j = r j := by
  unfold mhF
  split
  · rfl
  · split
    · rw [up_j h1, up_j h2, up_j h3]
    · rw [up_j h1]
theorem gX12_stepGoes_L7 {k1 : Nat} {b : Int} {E : Mem} {X32 Q : Mem → Prop} {A : Int → Int} (hk1 : isN k1) (hX : ∀ M' : Mem, IM b M' → CE E M' → M' k1 = A → X32 M') : ∀ (n : Nat) (v2 : Int) (M : Mem) (l : List Int), IM b M → CE E M → LL M v2 l → VL (eG E) (M k1) l → hsF E l (M k1) = A → (0 ≤ v2 ∧ v2 + l.length ≤ 6) → 6 - v2 < (n : Int) → qX12_stepGoes_L7 k1 X32 Q n v2 M := by
  intro n
  induction n with
  | zero => intro v2 M l hI hE hL hV hA hv hm; exact absurd hm (by omega)
  | succ n ih =>
    intro v2 M l hI hE hL hV hA hv hm
    have hk : k1 = 5 ∨ k1 = 6 := hk1
    rw [qX12_stepGoes_L7]
    intro x2 e2 _
    have f2 : x2 = v2 + l.length := by rw [e2]; exact hL.1
    refine ⟨⟨by omega, by omega⟩, ⟨fun c => ?_, fun c => ⟨by omega, by omega, ?_⟩⟩⟩
    · cases l with
      | nil => exact hX _ hI hE hA
      | cons h t => simp at f2; omega
    · intro x7 e7 _
      cases l with
      | nil => simp at f2; omega
      | cons h t =>
        obtain ⟨h1, h2, h3⟩ := hV
        have f7 : x7 = h := by
          have := hL.2 0 (by simp)
          rw [show v2 + ((0 : Nat) : Int) = v2 from by omega] at this
          rw [e7, this]
          rfl
        rw [f7]
        refine gX12_hearseGoes hI hE hk1 ⟨h1.1, h1.2.1⟩ h1.2.2 ?_
        intro M8 i8 F8 K8
        have E8 : CE E M8 := hE.fr F8 (by intro k j h; rcases h with h | h | h | h | h <;> omega)
        refine ih _ _ t i8 E8 ⟨?_, fun j hj => ?_⟩ ?_ (by rw [K8]; exact hA) (by simp at hv; omega) (by omega)
        · rw [F8 1 35 (by omega), hL.1]
          simp
          omega
        · rw [F8 18 _ (by omega)]
          have := hL.2 (j + 1) (by simp; omega)
          rw [show v2 + ((j + 1 : Nat) : Int) = v2 + 1 + j from by omega] at this
          rw [this]
          rfl
        · refine h3.cg (fun x hx => ?_)
          have hi := h3.i x hx
          rw [K8]
          exact mhF_o (h2 x hx) (by omega) (by omega)
theorem msF_s {E : Mem} {r : Int → Int} {i : Int} (h : 0 ≤ i) : msF E (i + 1).toNat r = if 0 ≤ msF E i.toNat r (29 + i) then msF E i.toNat r else mmF E (msF E i.toNat r) i := by
  rw [show (i + 1).toNat = i.toNat + 1 from by omega]
  show (if 0 ≤ msF E i.toNat r (29 + (i.toNat : Nat)) then msF E i.toNat r else mmF E (msF E i.toNat r) (i.toNat : Nat)) = _
  rw [show ((i.toNat : Nat) : Int) = i from by omega]
theorem gX12_stepGoes_L34 {k1 : Nat} {b : Int} {E : Mem} {X62 Q : Mem → Prop} {r : Int → Int} (hk1 : isN k1) (hX : ∀ M' : Mem, IM b M' → CE E M' → M' k1 = msF E (eO E) r → X62 M') : ∀ (n : Nat) (v2 : Int) (M : Mem), IM b M → CE E M → M k1 = msF E v2.toNat r → (0 ≤ v2 ∧ v2 ≤ (eO E : Nat)) → 8 - v2 < (n : Int) → qX12_stepGoes_L34 k1 X62 Q n v2 M := by
  intro n
  induction n with
  | zero => intro v2 M hI hE hK hv hm; have bO := hE.o hI; exact absurd hm (by omega)
  | succ n ih =>
    intro v2 M hI hE hK hv hm
    have bO := hE.o hI
    have hk : k1 = 5 ∨ k1 = 6 := hk1
    rw [qX12_stepGoes_L34]
    intro x10 e10 _
    refine ⟨⟨by omega, by omega⟩, ⟨fun c => hX _ hI hE (by rw [hK, show v2.toNat = eO E from by omega]), fun c => ?_⟩⟩
    have hs := msF_s (E := E) (r := r) hv.1
    rw [← hK] at hs
    refine gX12_isEnded (p1 := v2) ⟨by omega, by omega⟩ ?_
    intro x13 p13 _ _
    refine ⟨fun c2 => ih _ _ hI hE (by rw [hs, if_pos (by omega)]) (by omega) (by omega), fun c2 => ?_⟩
    refine gX12_mournerGoes (p2 := v2) hI hE hk1 ⟨by omega, by omega⟩ ?_
    intro M15 i15 F15 K15
    exact ih _ _ i15 (hE.fr F15 (by intro k j h; rcases h with h | h | h | h | h <;> omega)) (by rw [hs, if_neg (by omega), K15]) (by omega) (by omega)
theorem gX12_stepGoes {k1 : Nat} {b : Int} {M E : Mem} {Q : Mem → Prop} (hI : IM b M) (hE : CE E M) (hb : b + 1 ≤ 2000000000) (hk1 : isN k1) (hQ : ∀ M' : Mem, IM (b + 1) M' → CE E M' → M' k1 = stF E (M k1) → Q M') : qX12_stepGoes k1 M Q := by
  have hk : k1 = 5 ∨ k1 = 6 := hk1
  have bH := hE.h hI
  have bO := hE.o hI
  have bg := hE.g hI
  unfold qX12_stepGoes
  refine gX12_laysLine hI hE hk1 ?_
  intro M1 i1 F1 L1 hl6
  have E1 : CE E M1 := hE.fr F1 (by intro k j h; rcases h with h | h | h | h | h <;> omega)
  have K1 : M1 k1 = M k1 := funext fun j => F1 k1 j (by omega)
  refine ⟨7, gX12_stepGoes_L7 (A := hsF E (lnL (M k1) (eH E) (eG E).toNat) (M k1)) hk1 ?_ _ _ _ (lnL (M k1) (eH E) (eG E).toNat) i1 E1 L1 (by rw [K1]; exact lnL_VL (by omega) _ (by omega)) (by rw [K1]) (by omega) (by omega)⟩
  intro M2 i2 E2 K2
  refine ⟨9, gX12_stepGoes_L34 (r := hsF E (lnL (M k1) (eH E) (eG E).toNat) (M k1)) hk1 ?_ _ _ _ i2 E2 (by rw [K2]; rfl) (by omega) (by omega)⟩
  intro M3 i3 E3 K3 x17 e17 _
  have b17 : 0 ≤ x17 ∧ x17 ≤ b := by rw [e17]; exact ((bm_n hk1).mp (i3.bx _ _)).2.2.2 rfl
  refine ⟨⟨by omega, by omega⟩, ?_⟩
  intro M19 h19
  refine hQ _ ?_ ?_ ?_
  · rw [h19]
    exact (i3.mono (by first | exact Int.le_refl _ | omega)).up (isN.nu hk1 _) ((bm_n hk1).mpr ⟨by omega, by omega, by omega, by omega⟩)
  · rw [h19]
    exact E3.up (by intro h; rcases h with h | h | h | h | h <;> omega)
  · rw [h19, up2_up, e17, K3]
    rfl
end
section
/-! THE STEP of the class: it makes of a scene what the reference makes of its row -/
theorem b_1 (i : Nat) : bt 1 i = decide (i = 0) := by
  rcases Nat.lt_or_ge i 32 with h | h
  · exact (by decide +kernel : ∀ i, i < 32 → bt 1 i = decide (i = 0)) i h
  · rw [b_big h, decide_eq_false (by omega)]
theorem iI_nI (n : Nat) : iI (n : Int) = nI n := rfl
theorem iI_nI' {x : Int} (h : 0 ≤ x) : iI x = nI x.toNat := by
  have e : ((x.toNat : Nat) : Int) = x := by omega
  have h2 := iI_nI x.toNat
  rw [e] at h2
  exact h2
theorem bt_aI (a b : Int) (i : Nat) : bt (iI (aI a b)) i = (bt (iI a) i && bt (iI b) i) := by
  unfold aI
  rw [iI_toI, b_and]
theorem bt_oI (a b : Int) (i : Nat) : bt (iI (oI a b)) i = (bt (iI a) i || bt (iI b) i) := by
  unfold oI
  rw [iI_toI, b_or]
theorem bt_sl1 {y : Int} (h : 0 ≤ y ∧ y ≤ 30) {i : Nat} (hi : i < 32) : bt (iI (slI 1 y)) i = decide ((i : Int) = y) := by
  unfold slI
  rw [iI_toI, iI_nI' h.1, b_shl y.toNat (by omega) _ hi, show iI 1 = (1 : Int32) from rfl, b_1]
  by_cases c : (i : Int) = y
  · have h1 : y.toNat ≤ i := by omega
    have h2 : i - y.toNat = 0 := by omega
    simp [c, h1, h2]
  · by_cases h1 : y.toNat ≤ i
    · have h2 : ¬ i - y.toNat = 0 := by omega
      simp [c, h2]
    · simp [c, h1]
theorem aI_z {a b : Int} : aI a b = 0 ↔ ∀ i : Nat, i < 32 → ¬ (bt (iI a) i = true ∧ bt (iI b) i = true) := by
  refine ⟨fun h i hi q => ?_, fun h => ?_⟩
  · have e := bt_aI a b i
    rw [h, q.1, q.2, show iI 0 = (0 : Int32) from rfl, b_0] at e
    exact absurd e (by decide)
  · have e : iI a &&& iI b = 0 := by
      refine b_ext (fun i hi => ?_)
      rw [b_and, b_0]
      have := h i hi
      cases h1 : bt (iI a) i <;> cases h2 : bt (iI b) i <;> simp_all
    unfold aI
    rw [e]
    rfl
theorem bit1 {t k : Int} (h : 0 ≤ k ∧ k ≤ 30) : aI (srI t k) 1 = if bt (iI t) k.toNat = true then 1 else 0 := by
  have e0 : bt (iI (srI t k)) 0 = bt (iI t) k.toNat := by
    unfold srI
    rw [iI_toI, iI_nI' h.1, b_sshr k.toNat (by omega) _ (by omega), if_pos (by omega)]
    rfl
  have e : iI (srI t k) &&& iI 1 = if bt (iI t) k.toNat = true then 1 else 0 := by
    refine b_ext (fun i hi => ?_)
    rw [b_and, show iI 1 = (1 : Int32) from rfl, b_1]
    by_cases ci : i = 0
    · subst ci
      rw [e0]
      by_cases c : bt (iI t) k.toNat = true
      · rw [if_pos c, c, b_1]
        decide
      · rw [if_neg c, b_0]
        simp [c]
    · by_cases c : bt (iI t) k.toNat = true
      · rw [if_pos c, b_1]
        simp [ci]
      · rw [if_neg c, b_0]
        simp [ci]
  unfold aI
  rw [e]
  split <;> rfl
/-- what stands of the street and of a law as in E: rows of the class in M, of the reference in E -/
def kcF (k v : Int) : Int := if k = 300 then v else if k = 301 then 1000 + v else if k = 302 then 3000 else if k = 60 then 2000 else if k = 62 then 2001 else if k = 61 then 2002 else if k = 43 then 2003 else if k = 45 then 2004 else if k = 42 then 2005 else 2006
def kOK (k v : Int) : Prop := k = 300 ∧ 0 ≤ v ∧ v ≤ 999 ∨ k = 301 ∧ 0 ≤ v ∧ v ≤ 6 ∨ k = 302 ∨ k = 60 ∨ k = 62 ∨ k = 61 ∨ k = 43 ∨ k = 45 ∨ k = 42 ∨ k = 47
def plF (i : Int) : Int := if i = 0 then 1 else if i = 1 then 1001 else if i = 2 then 2 else if i = 3 then 2001 else 2003
/-- the law at kl is the code f of n rows -/
def LWf (M : Mem) (kl : Nat) (f : Int → Int) (n : Int) : Prop := M kl 4 = n ∧ ∀ i, 0 ≤ i → i < n → kcF (M (kl + 1) i) (M (kl + 2) i) = f i ∧ kOK (M (kl + 1) i) (M (kl + 2) i) ∧ (M (kl + 1) i = 301 → bt (iI (M kl 5)) (M (kl + 2) i).toNat = true)
def LAW (E M : Mem) (kl : Nat) : Prop := (1 ≤ E 1 24 ∧ LWf M kl (E 11) (E 1 24)) ∨ (E 1 24 = 0 ∧ LWf M kl plF 5)
def STR (E M : Mem) : Prop := M 158 1 = E 1 3 ∧ (4 ≤ E 1 3 ∧ E 1 3 ≤ 30) ∧ (∀ c : Nat, (c : Int) < E 1 3 → (bt (iI (M 158 2)) c = true ↔ E 2 c ≠ 0)) ∧ M 158 3 = E 1 7 ∧ (1 ≤ E 1 7 ∧ E 1 7 ≤ 20) ∧ (∀ j, 0 ≤ j → j < E 1 7 → M 159 j = E 4 j) ∧ (0 ≤ E 1 4 ∧ E 1 4 ≤ 6) ∧ (0 ≤ E 1 5 ∧ E 1 5 ≤ 8) ∧ (∀ m, 0 ≤ m → m < E 1 5 → 0 ≤ E 3 m ∧ E 3 m < E 1 4)
/-- how many have arrived; how many have ended -/
def arF (r : Int → Int) : Nat → Int
  | 0 => 0
  | n + 1 => arF r n + (if r n < 0 then 1 else 0)
def egF (r : Int → Int) : Nat → Int
  | 0 => 0
  | n + 1 => egF r n + (if r (29 + n) = -1 then 0 else 1)
theorem arF_b (r : Int → Int) (n : Nat) : 0 ≤ arF r n ∧ arF r n ≤ n := by
  induction n with
  | zero => exact ⟨Int.le_refl _, Int.le_refl _⟩
  | succ n ih =>
    unfold arF
    split <;> omega
theorem egF_b (r : Int → Int) (n : Nat) : 0 ≤ egF r n ∧ egF r n ≤ n := by
  induction n with
  | zero => exact ⟨Int.le_refl _, Int.le_refl _⟩
  | succ n ih =>
    unfold egF
    split <;> omega
theorem arF_cg {r r' : Int → Int} {n : Nat} (h : ∀ i : Int, 0 ≤ i → i < n → (r i < 0 ↔ r' i < 0)) : arF r n = arF r' n := by
  induction n with
  | zero => rfl
  | succ n ih =>
    have e := h n (by omega) (by omega)
    unfold arF
    rw [ih (fun i a q => h i a (by omega))]
    by_cases c : r n < 0
    · rw [if_pos c, if_pos (e.mp c)]
    · rw [if_neg c, if_neg (fun q => c (e.mpr q))]
theorem egF_cg {r r' : Int → Int} {n : Nat} (h : ∀ i : Int, 0 ≤ i → i < n → r (29 + i) = r' (29 + i)) : egF r n = egF r' n := by
  induction n with
  | zero => rfl
  | succ n ih =>
    unfold egF
    rw [ih (fun i a q => h i a (by omega)), h n (by omega) (by omega)]
theorem arF_p {r r' : Int → Int} {n : Nat} {h : Int} (h0 : 0 ≤ h) (h1 : h < n) (hr : 0 ≤ r h) (hr' : r' h < 0) (ho : ∀ i : Int, 0 ≤ i → i < n → i ≠ h → r' i = r i) : arF r' n = arF r n + 1 := by
  induction n with
  | zero => omega
  | succ n ih =>
    unfold arF
    by_cases c : h = n
    · rw [← c, if_pos hr', if_neg (by omega), arF_cg (r := r') (r' := r) (fun i a q => by rw [ho i a (by omega) (by omega)])]
      omega
    · rw [ih (by omega) (fun i a q w => ho i a (by omega) w), ho n (by omega) (by omega) (fun w => c w.symm)]
      omega
theorem egF_p {r r' : Int → Int} {n : Nat} {h : Int} (h0 : 0 ≤ h) (h1 : h < n) (hr : r (29 + h) = -1) (hr' : r' (29 + h) ≠ -1) (ho : ∀ i : Int, 0 ≤ i → i < n → i ≠ h → r' (29 + i) = r (29 + i)) : egF r' n = egF r n + 1 := by
  induction n with
  | zero => omega
  | succ n ih =>
    unfold egF
    by_cases c : h = n
    · rw [← c, if_neg hr', if_pos hr, egF_cg (r := r') (r' := r) (fun i a q => by rw [ho i a (by omega) (by omega)])]
      omega
    · rw [ih (by omega) (fun i a q w => ho i a (by omega) w), ho n (by omega) (by omega) (fun w => c w.symm)]
      omega
/-- the scene at k0 is the row r -/
def SC (E M : Mem) (k0 : Nat) (r : Int → Int) : Prop := M k0 6 = E 1 4 ∧ M k0 7 = E 1 5 ∧ (∀ j, 0 ≤ j → j < 6 → M (k0 + 1) j = r j) ∧ (∀ j, 0 ≤ j → j < 6 → M (k0 + 2) j = r (6 + j)) ∧ M k0 8 = r 12 ∧ (∀ m, 0 ≤ m → m < 8 → M (k0 + 3) m = r (13 + m)) ∧ (∀ m, 0 ≤ m → m < 8 → M (k0 + 4) m = E 3 m) ∧ (∀ m, 0 ≤ m → m < 8 → M (k0 + 5) m = r (21 + m)) ∧ (∀ m, 0 ≤ m → m < 8 → M (k0 + 6) m = r (29 + m)) ∧ M k0 10 = r 37 ∧ M k0 9 = egF r (eO E)
/-- a row that can be -/
def WR (E : Mem) (r : Int → Int) : Prop := DST r (E 1 4) ∧ (∀ h, 0 ≤ h → h < E 1 4 → (r h = -1 ∧ 1 ≤ r (6 + h)) ∨ (0 ≤ r h ∧ r h < eG E ∧ r (6 + h) = 0)) ∧ (∀ m, 0 ≤ m → m < E 1 5 → (-1 ≤ r (21 + m) ∧ r (21 + m) < E 1 4) ∧ (0 ≤ r (13 + m) ∧ r (13 + m) < eG E) ∧ (-1 ≤ r (29 + m) ∧ r (29 + m) < E 1 4)) ∧ r 12 = arF r (eH E) ∧ 0 ≤ r 37
theorem STR.h {E M : Mem} (h : STR E M) : ((eH E : Nat) : Int) = E 1 4 := by
  have := h.2.2.2.2.2.2.1
  show (((E 1 4).toNat : Nat) : Int) = E 1 4
  omega
theorem STR.o {E M : Mem} (h : STR E M) : ((eO E : Nat) : Int) = E 1 5 := by
  have := h.2.2.2.2.2.2.2.1
  show (((E 1 5).toNat : Nat) : Int) = E 1 5
  omega
theorem STR.g {E M : Mem} (h : STR E M) : M 158 1 - 1 = eG E ∧ 3 ≤ eG E ∧ eG E ≤ 29 := by
  have h1 := h.1
  have h2 := h.2.1
  show M 158 1 - 1 = E 1 3 - 1 ∧ 3 ≤ E 1 3 - 1 ∧ E 1 3 - 1 ≤ 29
  omega
theorem STR.fr {E M M' : Mem} (h : STR E M) (h1 : M' 158 1 = M 158 1) (h2 : M' 158 2 = M 158 2) (h3 : M' 158 3 = M 158 3) (h4 : ∀ j, M' 159 j = M 159 j) : STR E M' := by
  unfold STR
  rw [h1, h2, h3]
  exact ⟨h.1, h.2.1, h.2.2.1, h.2.2.2.1, h.2.2.2.2.1, fun j a q => by rw [h4]; exact h.2.2.2.2.2.1 j a q, h.2.2.2.2.2.2⟩
theorem LWf.fr {M M' : Mem} {kl : Nat} {f : Int → Int} {n : Int} (h : LWf M kl f n) (h4 : M' kl 4 = M kl 4) (h5 : M' kl 5 = M kl 5) (h1 : ∀ j, M' (kl + 1) j = M (kl + 1) j) (h2 : ∀ j, M' (kl + 2) j = M (kl + 2) j) : LWf M' kl f n := by
  refine ⟨by rw [h4]; exact h.1, fun i a q => ?_⟩
  rw [h1, h2, h5]
  exact h.2 i a q
theorem LAW.fr {E M M' : Mem} {kl : Nat} (h : LAW E M kl) (h4 : M' kl 4 = M kl 4) (h5 : M' kl 5 = M kl 5) (h1 : ∀ j, M' (kl + 1) j = M (kl + 1) j) (h2 : ∀ j, M' (kl + 2) j = M (kl + 2) j) : LAW E M' kl := by
  rcases h with h | h
  · exact Or.inl ⟨h.1, h.2.fr h4 h5 h1 h2⟩
  · exact Or.inr ⟨h.1, h.2.fr h4 h5 h1 h2⟩
theorem SC.fr {E M M' : Mem} {k0 : Nat} {r : Int → Int} (h : SC E M k0 r) (hf : ∀ (i : Nat) (j : Int), i ≤ 6 → M' (k0 + i) j = M (k0 + i) j) : SC E M' k0 r := by
  have e0 : ∀ j, M' k0 j = M k0 j := fun j => hf 0 j (by omega)
  obtain ⟨a1, a2, a3, a4, a5, a6, a7, a8, a9, a10, a11⟩ := h
  refine ⟨by rw [e0]; exact a1, by rw [e0]; exact a2, fun j a q => ?_, fun j a q => ?_, by rw [e0]; exact a5, fun j a q => ?_, fun j a q => ?_, fun j a q => ?_, fun j a q => ?_, by rw [e0]; exact a10, by rw [e0]; exact a11⟩
  · rw [hf 1 j (by omega)]; exact a3 j a q
  · rw [hf 2 j (by omega)]; exact a4 j a q
  · rw [hf 3 j (by omega)]; exact a6 j a q
  · rw [hf 4 j (by omega)]; exact a7 j a q
  · rw [hf 5 j (by omega)]; exact a8 j a q
  · rw [hf 6 j (by omega)]; exact a9 j a q
theorem gX8_gate {M E : Mem} {Q : Int → Mem → Prop} (hI : IX M) (hS : STR E M) (hQ : Q (eG E) M) : qX8_gate M Q := by
  refine sX8_gate hI ?_
  intro z hz
  rw [show z = eG E from by have := hS.g; omega]
  exact hQ
theorem gX6_hasArrived {k0 : Nat} {p1 : Int} {M : Mem} {Q : Int → Mem → Prop} (hp : 0 ≤ p1 ∧ p1 ≤ 5) (hQ : ∀ z : Int, (z = 1 ∧ 0 < M (k0 + 2) p1 ∨ z = 0 ∧ M (k0 + 2) p1 ≤ 0) → Q z M) : qX6_hasArrived k0 p1 M Q := by
  unfold qX6_hasArrived
  refine ⟨by omega, by omega, ?_⟩
  intro x3 e3 _
  exact ⟨fun c => hQ _ (Or.inr ⟨rfl, by omega⟩), fun c => hQ _ (Or.inl ⟨rfl, by omega⟩)⟩
theorem gX6_hasEnded {k0 : Nat} {p1 : Int} {M : Mem} {Q : Int → Mem → Prop} (hp : 0 ≤ p1 ∧ p1 ≤ 7) (hQ : ∀ z : Int, (z = 1 ∧ M (k0 + 6) p1 ≠ -1 ∨ z = 0 ∧ M (k0 + 6) p1 = -1) → Q z M) : qX6_hasEnded k0 p1 M Q := by
  unfold qX6_hasEnded
  refine ⟨by omega, by omega, ?_⟩
  intro x3 e3 _
  exact ⟨fun c => hQ _ (Or.inr ⟨rfl, by omega⟩), fun c => hQ _ (Or.inl ⟨rfl, by omega⟩)⟩
-- the nearest
theorem gX6_nearestTo_L8 {k0 : Nat} {p1 : Int} {Q : Int → Mem → Prop} {M E : Mem} {r : Int → Int} (hI : IX M) (hk0 : isS k0) (hS : STR E M) (hC : SC E M k0 r) (hW : WR E r) (hp : 0 ≤ p1 ∧ p1 ≤ 29) (hQ : Q (nearF r p1 (eH E)) M) : ∀ (n : Nat) (v2 v3 v4 : Int), v2 = nearF r p1 v4.toNat → (v2 = -1 ∧ v3 = 30 ∨ 0 ≤ v2 ∧ v3 = ab (r v2 - p1)) → (0 ≤ v4 ∧ v4 ≤ E 1 4) → E 1 4 - v4 < (n : Int) → qX6_nearestTo_L8 k0 p1 Q n v2 v3 v4 M := by
  intro n
  induction n with
  | zero => intro v2 v3 v4 h2 h3 hv hm; exact absurd hm (by omega)
  | succ n ih =>
    intro v2 v3 v4 h2 h3 hv hm
    have bH := hS.h
    have b4 := hS.2.2.2.2.2.2.1
    have bn := nearF_b r p1 v4.toNat
    have hs := nearF_s (c := r) (v := p1) hv.1
    rw [← h2] at bn hs
    have bg := hS.g
    rw [qX6_nearestTo_L8]
    intro x1 e1 _
    have f1 : x1 = E 1 4 := by rw [e1]; exact hC.1
    refine ⟨⟨by omega, by omega⟩, ⟨fun c => ⟨⟨by omega, by omega⟩, ?_⟩, fun c => ⟨by omega, by omega, ?_⟩⟩⟩
    · rw [h2, show v4.toNat = eH E from by omega]
      exact hQ
    · intro x7 e7 _
      have f7 : x7 = r v4 := by rw [e7]; exact hC.2.2.1 v4 (by omega) (by omega)
      have w7 := hW.2.1 v4 hv.1 (by omega)
      refine ⟨⟨by omega, by omega⟩, ?_⟩
      intro x9 p9 n9
      have a9 := ab_e p9 n9
      have b9 := ab_b (x7 - p1)
      have hb3 : 0 ≤ v3 ∧ v3 ≤ 60 := by
        rcases h3 with h | h
        · omega
        · have w2 := hW.2.1 v2 h.1 (by omega)
          have := ab_b (r v2 - p1)
          omega
      have YES : 0 ≤ r v4 → (v2 < 0 ∨ ab (r v4 - p1) < ab (r v2 - p1) ∨ (ab (r v4 - p1) = ab (r v2 - p1) ∧ r v2 < r v4)) → qX6_nearestTo_L8 k0 p1 Q n v4 x9 (v4 + 1) M := fun w0 w => ih _ _ _ (by rw [hs, if_pos ⟨w0, w⟩]) (Or.inr ⟨hv.1, by rw [a9, f7]⟩) (by omega) (by omega)
      have NO : ¬ (0 ≤ r v4 ∧ (v2 < 0 ∨ ab (r v4 - p1) < ab (r v2 - p1) ∨ (ab (r v4 - p1) = ab (r v2 - p1) ∧ r v2 < r v4))) → qX6_nearestTo_L8 k0 p1 Q n v2 v3 (v4 + 1) M := fun w => ih _ _ _ (by rw [hs, if_neg w]) h3 (by omega) (by omega)
      have hd : 0 ≤ v2 → 0 ≤ r v4 → r v4 ≠ r v2 := fun u w q => by
        have := hW.1 v4 v2 hv.1 (by omega) u (by omega) q w
        omega
      rw [f7] at a9 b9
      rw [← a9] at YES NO
      have J59 : ∀ t0 : Int, ((t0 = 1 ∧ (v2 < 0 ∨ x9 < ab (r v2 - p1) ∨ (x9 = ab (r v2 - p1) ∧ r v2 < r v4) ∨ r v4 < 0)) ∨ (t0 = 0 ∧ (0 ≤ r v4 → ¬ (v2 < 0 ∨ x9 < ab (r v2 - p1) ∨ (x9 = ab (r v2 - p1) ∧ r v2 < r v4))))) → qX6_nearestTo_J59 k0 p1 (qX6_nearestTo_L8 k0 p1 Q n) Q v2 v3 v4 x9 t0 M := by
        intro t0 ht
        unfold qX6_nearestTo_J59
        refine ⟨by rcases ht with h | h <;> exact ⟨by omega, by omega⟩, ⟨fun c2 => ?_, fun c2 => ⟨by omega, by omega, ?_⟩⟩⟩
        · rcases ht with h | h
          · omega
          · exact NO (fun w => h.2 w.1 w.2)
        · intro x17 e17 _
          have f17 : x17 = r v4 := by rw [e17]; exact hC.2.2.1 v4 (by omega) (by omega)
          rcases ht with h | h
          · exact ⟨fun c3 => NO (fun w => by omega), fun c3 => YES (by omega) (by omega)⟩
          · exact absurd h.1 c2
      refine ⟨⟨by omega, by omega⟩, ⟨by omega, by omega⟩, ⟨fun c2 => ?_, fun c2 => ⟨fun c3 => ?_, fun c3 => ?_⟩⟩⟩
      · unfold qX6_nearestTo_J54
        refine J59 _ (Or.inl ⟨rfl, ?_⟩)
        rcases h3 with h | h
        · exact Or.inl (by omega)
        · exact Or.inr (Or.inl (by omega))
      · unfold qX6_nearestTo_J58
        refine J59 _ (Or.inr ⟨rfl, fun w0 => ?_⟩)
        rcases h3 with h | h
        · omega
        · omega
      · intro x20 e20 _
        have f20 : x20 = r v4 := by rw [e20]; exact hC.2.2.1 v4 (by omega) (by omega)
        refine ⟨fun c4 => ?_, fun c4 => ?_⟩
        · unfold qX6_nearestTo_J58
          refine J59 _ (Or.inr ⟨rfl, fun w0 => ?_⟩)
          rcases h3 with h | h
          · omega
          · have := hd h.1 w0
            have b2 := ab_b (r v2 - p1)
            omega
        · unfold qX6_nearestTo_J54
          refine J59 _ (Or.inl ⟨rfl, ?_⟩)
          rcases h3 with h | h
          · exact Or.inl (by omega)
          · have b2 := ab_b (r v2 - p1)
            have := hd h.1 (by omega)
            omega
theorem gX6_nearestTo {k0 : Nat} {p1 : Int} {Q : Int → Mem → Prop} {M E : Mem} {r : Int → Int} (hI : IX M) (hk0 : isS k0) (hS : STR E M) (hC : SC E M k0 r) (hW : WR E r) (hp : 0 ≤ p1 ∧ p1 ≤ 29) (hQ : Q (nearF r p1 (eH E)) M) : qX6_nearestTo k0 p1 M Q := by
  have b4 := hS.2.2.2.2.2.2.1
  unfold qX6_nearestTo
  exact ⟨7, gX6_nearestTo_L8 hI hk0 hS hC hW hp hQ _ _ _ _ rfl (Or.inl ⟨rfl, rfl⟩) (by omega) (by omega)⟩
end
section
-- how many cells are free
theorem frF_c {c : Int → Int} {H : Nat} {g v : Int} : ∀ (n : Nat) (m : Int), 0 ≤ m → v + m ≤ g → (∀ x, v < x → x ≤ v + m → x = g ∨ onF c H x < 0) → g - v - m < (n : Int) → 0 ≤ frF c H g v n m ∧ v + frF c H g v n m ≤ g ∧ (∀ x, v < x → x ≤ v + frF c H g v n m → x = g ∨ onF c H x < 0) ∧ (v + frF c H g v n m = g ∨ 0 ≤ onF c H (v + frF c H g v n m + 1) ∧ v + frF c H g v n m + 1 ≠ g) := by
  intro n
  induction n with
  | zero => intro m h0 h1 h2 hm; exact absurd hm (by omega)
  | succ n ih =>
    intro m h0 h1 h2 hm
    unfold frF
    by_cases c1 : g ≤ v + m
    · rw [if_pos c1]; exact ⟨h0, h1, h2, Or.inl (by omega)⟩
    · rw [if_neg c1]
      by_cases c2 : v + m + 1 = g
      · rw [if_pos c2]
        refine ih (m + 1) (by omega) (by omega) (fun x a q => ?_) (by omega)
        by_cases cx : x = v + m + 1
        · exact Or.inl (by omega)
        · exact h2 x a (by omega)
      · rw [if_neg c2]
        by_cases c3 : 0 ≤ onF c H (v + m + 1)
        · rw [if_pos c3]; exact ⟨h0, h1, h2, Or.inr ⟨c3, c2⟩⟩
        · rw [if_neg c3]
          refine ih (m + 1) (by omega) (by omega) (fun x a q => ?_) (by omega)
          by_cases cx : x = v + m + 1
          · exact Or.inr (by rw [cx]; omega)
          · exact h2 x a (by omega)
theorem gX6_freeAhead_L15 {k0 : Nat} {p1 p2 f : Int} {Q : Int → Mem → Prop} {M E : Mem} {r : Int → Int} (hS : STR E M) (hC : SC E M k0 r) (hW : WR E r) (hf : 0 ≤ f ∧ f < eG E) (hQ : Q (frF r (eH E) (eG E) f 31 0) M) : ∀ (n : Nat) (v4 v5 : Int), (0 ≤ v4 ∧ v4 ≤ eG E - f) → (v4 = eG E - f ∨ ∃ o, 0 ≤ o ∧ o < v5 ∧ r o = f + v4 + 1) → (∀ o, 0 ≤ o → o < v5 → f < r o → v4 ≤ r o - f - 1) → (0 ≤ v5 ∧ v5 ≤ E 1 4) → E 1 4 - v5 < (n : Int) → qX6_freeAhead_L15 k0 p1 p2 Q n f v4 v5 M := by
  intro n
  induction n with
  | zero => intro v4 v5 h4 he ha hv hm; exact absurd hm (by omega)
  | succ n ih =>
    intro v4 v5 h4 he ha hv hm
    have bH := hS.h
    have b4 := hS.2.2.2.2.2.2.1
    have bg := hS.g
    rw [qX6_freeAhead_L15]
    intro x4 e4 _
    have f4 : x4 = E 1 4 := by rw [e4]; exact hC.1
    refine ⟨⟨by omega, by omega⟩, ⟨fun c => ⟨⟨by omega, by omega⟩, ?_⟩, fun c => ⟨by omega, by omega, ?_⟩⟩⟩
    · have F := frF_c (c := r) (H := eH E) (g := eG E) (v := f) 31 0 (by omega) (by omega) (fun x a q => by omega) (by omega)
      have e : v4 = frF r (eH E) (eG E) f 31 0 := by
        rcases Int.lt_trichotomy v4 (frF r (eH E) (eG E) f 31 0) with w | w | w
        · exfalso
          rcases he with h | ⟨o, o0, o1, o2⟩
          · omega
          · have wo := hW.2.1 o o0 (by omega)
            rcases F.2.2.1 (f + v4 + 1) (by omega) (by omega) with q | q
            · omega
            · exact onF_n q o o0 (by omega) o2
        · exact w
        · exfalso
          rcases F.2.2.2 with q | q
          · omega
          · have oc := onF_c q.1
            have ob := onF_b r (eH E) (f + frF r (eH E) (eG E) f 31 0 + 1)
            have := ha _ q.1 (by omega) (by rw [oc]; omega)
            rw [oc] at this
            omega
      rw [e]
      exact hQ
    · intro x10 e10 _
      have f10 : x10 = r v5 := by rw [e10]; exact hC.2.2.1 v5 (by omega) (by omega)
      have w5 := hW.2.1 v5 hv.1 (by omega)
      rw [← f10] at w5
      have he' : v4 = eG E - f ∨ ∃ o, 0 ≤ o ∧ o < v5 + 1 ∧ r o = f + v4 + 1 := by
        rcases he with h | ⟨o, o0, o1, o2⟩
        · exact Or.inl h
        · exact Or.inr ⟨o, o0, by omega, o2⟩
      have ha' : (f < x10 → v4 ≤ x10 - f - 1) → ∀ o, 0 ≤ o → o < v5 + 1 → f < r o → v4 ≤ r o - f - 1 := by
        intro hx o o0 o1 o2
        by_cases co : o = v5
        · rw [co, ← f10] at o2 ⊢; exact hx o2
        · exact ha o o0 (by omega) o2
      refine ⟨⟨by omega, by omega⟩, ⟨fun c2 => ih _ _ h4 he' (ha' (fun q => by omega)) (by omega) (by omega), fun c2 => ⟨⟨by omega, by omega⟩, ⟨fun c3 => ih _ _ h4 he' (ha' (fun q => by omega)) (by omega) (by omega), fun c3 => ?_⟩⟩⟩⟩
      refine ih _ _ (by omega) (Or.inr ⟨v5, hv.1, by omega, by omega⟩) (fun o o0 o1 o2 => ?_) (by omega) (by omega)
      by_cases co : o = v5
      · rw [co]; omega
      · have := ha o o0 (by omega) o2
        omega
theorem gX6_freeAhead {k0 : Nat} {p1 p2 : Int} {Q : Int → Mem → Prop} {M E : Mem} {r : Int → Int} (hS : STR E M) (hC : SC E M k0 r) (hW : WR E r) (hp : 0 ≤ p1 ∧ p1 < E 1 4) (hr : 0 ≤ r p1) (hp2 : p2 = eG E) (hQ : Q (frF r (eH E) (eG E) (r p1) 31 0) M) : qX6_freeAhead k0 p1 p2 M Q := by
  have b4 := hS.2.2.2.2.2.2.1
  have w := hW.2.1 p1 hp.1 hp.2
  unfold qX6_freeAhead
  refine ⟨by omega, by omega, ?_⟩
  intro x3 e3 _
  have f3 : x3 = r p1 := by rw [e3]; exact hC.2.2.1 p1 (by omega) (by omega)
  rw [f3, hp2]
  exact ⟨7, gX6_freeAhead_L15 hS hC hW (by omega) hQ _ _ _ (by omega) (Or.inl rfl) (fun o o0 o1 => by omega) (by omega) (by omega)⟩
theorem gX6_bitsOf_L5 {k0 k1 : Nat} {p2 : Int} {Q : Int → Mem → Prop} {M E : Mem} (hS : STR E M) (h7 : M k0 7 = E 1 5) (hQ : Q (bitF (M k1) p2 (eO E)) M) : ∀ (n : Nat) (v3 v4 : Int), v3 = bitF (M k1) p2 v4.toNat → (0 ≤ v4 ∧ v4 ≤ E 1 5) → E 1 5 - v4 < (n : Int) → qX6_bitsOf_L5 k0 k1 p2 Q n v3 v4 M := by
  intro n
  induction n with
  | zero => intro v3 v4 h3 hv hm; exact absurd hm (by omega)
  | succ n ih =>
    intro v3 v4 h3 hv hm
    have bO := hS.o
    have b5 := hS.2.2.2.2.2.2.2.1
    have r3 := bitF_R (M k1) p2 v4.toNat
    rw [← h3] at r3
    rw [qX6_bitsOf_L5]
    intro x1 e1 _
    refine ⟨⟨by omega, by omega⟩, ⟨fun c => ⟨r3, ?_⟩, fun c => ⟨by omega, by omega, ?_⟩⟩⟩
    · rw [h3, show v4.toNat = eO E from by omega]
      exact hQ
    · intro x7 e7 _
      have hs := bitF_s (f := M k1) (x := p2) hv.1
      refine ⟨fun c2 => ?_, fun c2 => ?_⟩
      · intro x9 e9 _
        refine ih _ _ ?_ (by omega) (by omega)
        rw [hs, if_neg (by rw [← e7]; exact c2), e9, h3]
      · intro x10 e10 _ x11 e11 _
        refine ih _ _ ?_ (by omega) (by omega)
        rw [hs, if_pos (by rw [← e7]; exact c2), e11, e10, h3]
theorem gX6_bitsOf {k0 k1 : Nat} {p2 : Int} {Q : Int → Mem → Prop} {M E : Mem} (hS : STR E M) (h7 : M k0 7 = E 1 5) (hQ : Q (bitF (M k1) p2 (eO E)) M) : qX6_bitsOf k0 k1 p2 M Q := by
  have b5 := hS.2.2.2.2.2.2.2.1
  unfold qX6_bitsOf
  exact ⟨9, gX6_bitsOf_L5 hS h7 hQ _ _ _ rfl (by omega) (by omega)⟩
theorem gX8_isCorner {p1 : Int} {Q : Int → Mem → Prop} {M E : Mem} (hS : STR E M) (hp : 0 ≤ p1 ∧ p1 < E 1 3) (hQ : Q (if E 2 p1 = 0 then 0 else 1) M) : qX8_isCorner p1 M Q := by
  have b3 := hS.2.1
  unfold qX8_isCorner
  intro x1 e1 _ x2 e2 _ x3 e3 _
  have k := hS.2.2.1 p1.toNat (by omega)
  rw [show ((p1.toNat : Nat) : Int) = p1 from by omega] at k
  rw [e2, bit1 (by omega), e1] at e3
  refine ⟨fun c => ?_, fun c => ?_⟩
  · have h : ¬ bt (iI (M 158 2)) p1.toNat = true := fun q => c (by rw [e3, if_pos q])
    rw [if_pos (by
      by_cases z : E 2 p1 = 0
      · exact z
      · exact absurd (k.mpr z) h)] at hQ
    exact hQ
  · have h : bt (iI (M 158 2)) p1.toNat = true := by
      by_cases q : bt (iI (M 158 2)) p1.toNat = true
      · exact q
      · rw [if_neg q] at e3; omega
    rw [if_neg (k.mp h)] at hQ
    exact hQ
theorem gX8_weatherAt {p1 : Int} {Q : Int → Mem → Prop} {M E : Mem} (hS : STR E M) (hp : 0 ≤ p1 ∧ p1 ≤ 2147483647) (hQ : Q (E 4 (rmI p1 (E 1 7))) M) : qX8_weatherAt p1 M Q := by
  have h7 := hS.2.2.2.1
  have b7 := hS.2.2.2.2.1
  have b3 := rmI_b (a := p1) (b := E 1 7) hp ⟨by omega, by omega⟩
  unfold qX8_weatherAt
  intro x1 e1 _
  refine ⟨fun c => by omega, fun _ => ⟨fun _ => ?_, fun c => by omega⟩⟩
  intro x4 e4 _
  refine ⟨by omega, ?_⟩
  intro x6 e6 _
  rw [e4, h7] at e6
  refine ⟨by omega, by omega, ?_⟩
  intro x9 e9 _
  rw [e9, e6, hS.2.2.2.2.2.1 _ (by omega) (by omega)]
  exact hQ
theorem gX2_uses {k0 : Nat} {p1 : Int} {Q : Int → Mem → Prop} {M : Mem} (hp : 0 ≤ p1 ∧ p1 ≤ 6) (hQ : ∀ z : Int, (z = 1 ∧ bt (iI (M k0 5)) p1.toNat = true ∨ z = 0 ∧ ¬ bt (iI (M k0 5)) p1.toNat = true) → Q z M) : qX2_uses k0 p1 M Q := by
  unfold qX2_uses
  intro x1 e1 _ x2 e2 _ x3 e3 _
  rw [e2, bit1 (by omega), e1] at e3
  refine ⟨fun c => hQ _ (Or.inr ⟨rfl, fun q => c (by rw [e3, if_pos q])⟩), fun c => hQ _ (Or.inl ⟨rfl, ?_⟩)⟩
  by_cases q : bt (iI (M k0 5)) p1.toNat = true
  · exact q
  · rw [if_neg q] at e3; omega
/-- what the letters stand for is told, where they are used -/
def OBS (E M : Mem) (kl : Nat) (e : Int → Int) : Prop := ∀ j, 0 ≤ j → j < 7 → bt (iI (M kl 5)) j.toNat = true → M (kl + 4) j = e j
theorem gX2_observe {k0 k1 : Nat} {p3 : Int} {Q : Mem → Prop} {M E : Mem} {r : Int → Int} (hI : IX M) (hk0 : isL k0) (hk1 : isS k1) (hS : STR E M) (hC : SC E M k1 r) (hW : WR E r) (hp : 0 ≤ p3 ∧ p3 < E 1 4) (hr : 0 ≤ r p3) (h37 : r 37 ≤ 2147483647) (hQ : ∀ M' : Mem, IX M' → Ks (fun k j => k = k0 + 4) M M' → OBS E M' k0 (envF E r p3) → Q M') : qX2_observe k0 k1 p3 M Q := by
  have el : k0 = 187 ∨ k0 = 192 := hk0
  have es : 0 < k1 ∧ k1 < 155 ∧ (k1 - 1) % 7 = 0 := hk1
  have b4 := hS.2.2.2.2.2.2.1
  have wp := hW.2.1 p3 hp.1 hp.2
  have bg := hS.g
  have b3 := hS.2.1
  have w37 := hW.2.2.2.2
  have c3 : ∀ M' : Mem, Ks (fun k j => k = k0 + 4) M M' → M' (k1 + 1) p3 = r p3 := fun M' f => by rw [f (k1 + 1) p3 (by omega)]; exact hC.2.2.1 p3 (by omega) (by omega)
  have fS : ∀ M' : Mem, Ks (fun k j => k = k0 + 4) M M' → STR E M' := fun M' f => hS.fr (f 158 1 (by omega)) (f 158 2 (by omega)) (f 158 3 (by omega)) (fun j => f 159 j (by omega))
  have fC : ∀ M' : Mem, Ks (fun k j => k = k0 + 4) M M' → SC E M' k1 r := fun M' f => hC.fr (fun i j hi => f (k1 + i) j (by omega))
  have J128 : ∀ (t0 : Int) (M' : Mem), iR t0 → IX M' → Ks (fun k j => k = k0 + 4) M M' → (bt (iI (M k0 5)) 6 = true → t0 = envF E r p3 6) → (∀ j, 0 ≤ j → j < 6 → bt (iI (M k0 5)) j.toNat = true → M' (k0 + 4) j = envF E r p3 j) → qX2_observe_J128 k0 k1 p3 Q t0 6 M' := by
    intro t0 M' rt i' f' h6 ho
    unfold qX2_observe_J128
    refine ⟨by decide, by decide, rt, ?_⟩
    intro M32 h32
    refine hQ _ (by rw [h32]; exact i'.up (isL.nsp4 hk0) (bx_lf4 hk0)) (by rw [h32]; exact f'.wr rfl) (fun j a q u => ?_)
    rw [h32, up2_n (by omega), f' k0 5 (by omega)] at u
    by_cases cj : j = 6
    · rw [cj, h32, up2_s]; exact h6 (by rw [cj] at u; exact u)
    · rw [h32, up2_j cj]; exact ho j a (by omega) u
  have J62 : ∀ (t0 : Int) (M' : Mem), iR t0 → IX M' → Ks (fun k j => k = k0 + 4) M M' → t0 = envF E r p3 2 → (∀ j, 0 ≤ j → j < 2 → bt (iI (M k0 5)) j.toNat = true → M' (k0 + 4) j = envF E r p3 j) → qX2_observe_J62 k0 k1 p3 Q t0 2 M' := by
    intro t0 M' rt i' f' h2 ho
    unfold qX2_observe_J62
    refine ⟨by decide, by decide, rt, ?_⟩
    intro M19 h19 x20 e20 r20
    have i19 : IX M19 := by rw [h19]; exact i'.up (isL.nsp4 hk0) (bx_lf4 hk0)
    have f19 : Ks (fun k j => k = k0 + 4) M M19 := by rw [h19]; exact f'.wr rfl
    have g20 : x20 = r 37 := by rw [e20]; exact (fC _ f19).2.2.2.2.2.2.2.2.2.1
    refine gX8_weatherAt (fS _ f19) (by omega) ?_
    intro _ M22 h22 x23 e23 _ x24 e24 _ M25 h25 M26 h26
    have i22 : IX M22 := by rw [h22]; exact i19.up (isL.nsp4 hk0) (bx_lf4 hk0)
    have f22 : Ks (fun k j => k = k0 + 4) M M22 := by rw [h22]; exact f19.wr rfl
    have g23 : x23 = r 37 := by rw [e23]; exact (fC _ f22).2.2.2.2.2.2.2.2.2.1
    have i25 : IX M25 := by rw [h25]; exact i22.up (isL.nsp4 hk0) (bx_lf4 hk0)
    have f25 : Ks (fun k j => k = k0 + 4) M M25 := by rw [h25]; exact f22.wr rfl
    have i26 : IX M26 := by rw [h26]; exact i25.up (isL.nsp4 hk0) (bx_lf4 hk0)
    have f26 : Ks (fun k j => k = k0 + 4) M M26 := by rw [h26]; exact f25.wr rfl
    have ho26 : ∀ j, 0 ≤ j → j < 6 → bt (iI (M k0 5)) j.toNat = true → M26 (k0 + 4) j = envF E r p3 j := by
      intro j a q u
      have : j = 5 ∨ j = 4 ∨ j = 3 ∨ j = 2 ∨ j < 2 := by omega
      rcases this with rfl | rfl | rfl | rfl | w
      · rw [h26, up2_s]; rfl
      · rw [h26, up2_j (by decide), h25, up2_s, e24, g23]; rfl
      · rw [h26, up2_j (by decide), h25, up2_j (by decide), h22, up2_s, g20]; rfl
      · rw [h26, up2_j (by decide), h25, up2_j (by decide), h22, up2_j (by decide), h19, up2_s, h2]
      · rw [h26, up2_j (by omega), h25, up2_j (by omega), h22, up2_j (by omega), h19, up2_j (by omega)]
        exact ho j a w u
    refine gX2_uses (p1 := 6) (by decide) ?_
    intro x27 p27 _ _
    rw [f26 k0 5 (by omega)] at p27
    refine ⟨fun c => ?_, fun c => ?_⟩
    · exact J128 _ _ (by decide) i26 f26 (fun q => by
        rcases p27 with w | w
        · omega
        · exact absurd q w.2) ho26
    · refine gX6_bitsOf (fS _ f26) (fC _ f26).2.1 ?_
      intro _
      refine gJ6_bitCount ?_
      intro r34
      refine J128 _ _ r34 i26 f26 (fun _ => ?_) ho26
      have b5 := hS.2.2.2.2.2.2.2.1
      have bO := hS.o
      show bcF (bitF (M26 (k1 + 5)) p3 (eO E)) = bcF (bitF (fun m => r (21 + m)) p3 (eO E))
      rw [bitF_cg (g := fun m => r (21 + m)) (fun i a q => (fC _ f26).2.2.2.2.2.2.2.1 i a (by omega))]
  have J38 : ∀ (t0 : Int) (M' : Mem), iR t0 → IX M' → Ks (fun k j => k = k0 + 4) M M' → (bt (iI (M k0 5)) 1 = true → t0 = envF E r p3 1) → M' (k0 + 4) 0 = r p3 → qX2_observe_J38 k0 k1 p3 Q t0 1 M' := by
    intro t0 M' rt i' f' h1 h0
    unfold qX2_observe_J38
    refine ⟨by decide, by decide, rt, ?_⟩
    intro M10 h10
    have i10 : IX M10 := by rw [h10]; exact i'.up (isL.nsp4 hk0) (bx_lf4 hk0)
    have f10 : Ks (fun k j => k = k0 + 4) M M10 := by rw [h10]; exact f'.wr rfl
    have ho : ∀ j, 0 ≤ j → j < 2 → bt (iI (M k0 5)) j.toNat = true → M10 (k0 + 4) j = envF E r p3 j := by
      intro j a q u
      have : j = 0 ∨ j = 1 := by omega
      rcases this with rfl | rfl
      · rw [h10, up2_j (by decide), h0]; rfl
      · rw [h10, up2_s]; exact h1 u
    refine ⟨by omega, by omega, ?_⟩
    intro x13 e13 _
    have g13 : x13 = r p3 := by rw [e13]; exact c3 _ f10
    refine gX8_isCorner (fS _ f10) (by show 0 ≤ x13 ∧ x13 < E 1 3; have : eG E = E 1 3 - 1 := rfl; omega) ?_
    intro _ _
    rw [g13]
    refine ⟨fun c => J62 _ _ (by decide) i10 f10 ?_ ho, fun c => J62 _ _ (by decide) i10 f10 ?_ ho⟩
    · show (0 : Int) = if E 2 (r p3) = 0 then 0 else 1
      exact c.symm
    · show (1 : Int) = if E 2 (r p3) = 0 then 0 else 1
      split
      · rename_i z
        rw [if_pos z] at c
        exact absurd rfl c
      · rfl
  unfold qX2_observe
  refine ⟨by omega, by omega, ?_⟩
  intro x3 e3 _ M4 h4
  have g3 : x3 = r p3 := by rw [e3]; exact c3 _ Ks.rf
  have i4 : IX M4 := by rw [h4]; exact hI.up (isL.nsp4 hk0) (bx_lf4 hk0)
  have f4 : Ks (fun k j => k = k0 + 4) M M4 := by rw [h4]; exact Ks.rf.wr rfl
  have h0 : M4 (k0 + 4) 0 = r p3 := by rw [h4, up2_s, g3]
  refine gX2_uses (p1 := 1) (by decide) ?_
  intro x5 p5 _ _
  rw [f4 k0 5 (by omega)] at p5
  refine ⟨fun c => ?_, fun c => ?_⟩
  · exact J38 _ _ (by decide) i4 f4 (fun q => by
      rcases p5 with w | w
      · omega
      · exact absurd q w.2) h0
  · refine gX8_gate i4 (fS _ f4) ?_
    intro _
    refine gX6_freeAhead (fS _ f4) (fC _ f4) hW hp hr rfl ?_
    intro r36
    exact J38 _ _ r36 i4 f4 (fun _ => rfl) h0
end
section
-- the rule is worked by the class
theorem gX2_join {k : Int} {p1 p2 : Int} {M : Mem} {Q : Int → Mem → Prop} (hk : k = 60 ∨ k = 62 ∨ k = 61 ∨ k = 43 ∨ k = 45 ∨ k = 42 ∨ k = 47) (hQ : Q (wkF (kcF k 0 - 2000) p1 p2) M) : qX2_join k p1 p2 M Q := by
  unfold qX2_join
  rcases hk with rfl | rfl | rfl | rfl | rfl | rfl | rfl
  · have e : wkF (kcF 60 0 - 2000) p1 p2 = if p1 < p2 then 1 else 0 := rfl
    rw [e] at hQ
    refine ⟨fun c => absurd c (by decide), fun c => absurd c (by decide), fun c => absurd c (by decide), fun c => absurd c (by decide), fun _ => ⟨fun c => ?_, fun c => ?_⟩, fun c => absurd c (by decide), fun c => absurd c (by decide)⟩
    · rw [if_neg (by omega)] at hQ; exact hQ
    · rw [if_pos (by omega)] at hQ; exact hQ
  · have e : wkF (kcF 62 0 - 2000) p1 p2 = if p2 < p1 then 1 else 0 := rfl
    rw [e] at hQ
    refine ⟨fun c => absurd c (by decide), fun c => absurd c (by decide), fun c => absurd c (by decide), fun c => absurd c (by decide), fun c => absurd c (by decide), fun _ => ⟨fun c => ?_, fun c => ?_⟩, fun c => absurd c (by decide)⟩
    · rw [if_neg (by omega)] at hQ; exact hQ
    · rw [if_pos (by omega)] at hQ; exact hQ
  · have e : wkF (kcF 61 0 - 2000) p1 p2 = if p1 = p2 then 1 else 0 := rfl
    rw [e] at hQ
    refine ⟨fun c => absurd c (by decide), fun c => absurd c (by decide), fun c => absurd c (by decide), fun c => absurd c (by decide), fun c => absurd c (by decide), fun c => absurd c (by decide), fun _ => ⟨fun c => ?_, fun c => ?_⟩⟩
    · rw [if_neg c] at hQ; exact hQ
    · rw [if_pos c] at hQ; exact hQ
  · have e : wkF (kcF 43 0 - 2000) p1 p2 = w32 (p1 + p2) := rfl
    rw [e] at hQ
    refine ⟨fun c => absurd c (by decide), fun _ x ex _ => by rw [ex]; exact hQ, fun c => absurd c (by decide), fun c => absurd c (by decide), fun c => absurd c (by decide), fun c => absurd c (by decide), fun c => absurd c (by decide)⟩
  · have e : wkF (kcF 45 0 - 2000) p1 p2 = w32 (p1 - p2) := rfl
    rw [e] at hQ
    refine ⟨fun c => absurd c (by decide), fun c => absurd c (by decide), fun _ x ex _ => by rw [ex]; exact hQ, fun c => absurd c (by decide), fun c => absurd c (by decide), fun c => absurd c (by decide), fun c => absurd c (by decide)⟩
  · have e : wkF (kcF 42 0 - 2000) p1 p2 = w32 (p1 * p2) := rfl
    rw [e] at hQ
    refine ⟨fun _ x ex _ => by rw [ex]; exact hQ, fun c => absurd c (by decide), fun c => absurd c (by decide), fun c => absurd c (by decide), fun c => absurd c (by decide), fun c => absurd c (by decide), fun c => absurd c (by decide)⟩
  · have e : wkF (kcF 47 0 - 2000) p1 p2 = if p2 = 0 then 0 else dvI p1 p2 := rfl
    rw [e] at hQ
    refine ⟨fun c => absurd c (by decide), fun c => absurd c (by decide), fun c => absurd c (by decide), fun _ => ⟨fun c => ⟨c, fun x ex _ => ?_⟩, fun c => ?_⟩, fun c => absurd c (by decide), fun c => absurd c (by decide), fun c => absurd c (by decide)⟩
    · rw [if_neg c] at hQ; rw [ex]; exact hQ
    · rw [if_pos c] at hQ; exact hQ
theorem gX2_pace_L4 {kl : Nat} {X145 : Mem → Prop} {Q : Int → Mem → Prop} {M0 : Mem} {f e : Int → Int} {m : Int} (hkl : isL kl) (hL : LWf M0 kl f m) (hO : OBS M0 M0 kl e) (hw : WFC f m) (hm40 : m ≤ 40) (hX : ∀ M' : Mem, IX M' → Ks (fun k j => k = kl + 3) M0 M' → (∀ i, 0 ≤ i → i < dpc f m.toNat → M' (kl + 3) i = evS f e m.toNat i) → X145 M') : ∀ (n : Nat) (v1 v2 : Int) (M : Mem), IX M → Ks (fun k j => k = kl + 3) M0 M → (v1 = dpc f v2.toNat ∧ 0 ≤ v2 ∧ v2 ≤ m) → (∀ i, 0 ≤ i → i < v1 → M (kl + 3) i = evS f e v2.toNat i) → m - v2 < (n : Int) → qX2_pace_L4 kl X145 Q n v1 v2 M := by
  intro n
  induction n with
  | zero => intro v1 v2 M hI hF hv hs hm; exact absurd hm (by omega)
  | succ n ih =>
    intro v1 v2 M hI hF hv hs hm
    have el : kl = 187 ∨ kl = 192 := hkl
    rw [qX2_pace_L4]
    intro x1 e1 _
    have f1 : x1 = m := by rw [e1, hF kl 4 (by omega)]; exact hL.1
    have b1 : 0 ≤ x1 ∧ x1 ≤ 40 := by rw [e1]; exact (bx_l4 hkl).mp (hI.bx _ _)
    refine ⟨⟨by omega, by omega⟩, ⟨fun c => hX _ hI hF ?_, fun c => ?_⟩⟩
    · rw [show m.toNat = v2.toNat from by omega, ← hv.1]
      exact hs
    refine ⟨by omega, by omega, ?_⟩
    intro x6 e6 r6
    have g6 : x6 = M0 (kl + 1) v2 := by rw [e6]; exact hF _ _ (by omega)
    have hl := hL.2 v2 hv.2.1 (by omega)
    rw [← g6] at hl
    have hwv := hw v2.toNat (by omega)
    have hc : ((v2.toNat : Nat) : Int) = v2 := by omega
    have hn := dpc_nn hw v2.toNat (by omega)
    have hle := dpc_le f v2.toNat
    rw [hc] at hwv
    have hd := dpc_s (f := f) (n := v2) hv.2.1
    have hev := evS_s (f := f) (e := e) (n := v2) hv.2.1
    rw [← hv.1] at hd hev hwv
    have key : ∀ (M' : Mem) (j v w : Int), M' = up2 M (kl + 3) j v → w = v1 + (if f v2 = 3000 then 0 else if f v2 < 2000 then 1 else -1) → evS f e (v2 + 1).toNat = up (evS f e v2.toNat) j v → (0 ≤ j ∧ w - 1 = j ∧ j ≤ v1) → qX2_pace_L4 kl X145 Q n w (v2 + 1) M' := by
      intro M' j v w hM' hw' hE hj
      refine ih _ _ _ (by rw [hM']; exact hI.up (isL.nsp3 hkl) (bx_lf3 hkl)) (by rw [hM']; exact hF.wr rfl) ⟨by rw [hd]; exact hw', by omega, by omega⟩ ?_ (by omega)
      intro i a q
      rw [hM', hE]
      by_cases ci : i = j
      · rw [ci, up2_s, upS]
      · rw [up2_j ci, up_j ci]
        exact hs i a (by omega)
    refine ⟨fun c1 => ⟨fun c2 => ⟨fun c3 => ?_, fun c3 => ?_⟩, fun c2 => ?_⟩, fun c1 => ?_⟩
    · have hk : x6 = 60 ∨ x6 = 62 ∨ x6 = 61 ∨ x6 = 43 ∨ x6 = 45 ∨ x6 = 42 ∨ x6 = 47 := by
        rcases hl.2.1 with h | h | h | h | h | h | h | h | h | h <;> omega
      have hf : f v2 = kcF x6 0 ∧ 2000 ≤ f v2 ∧ f v2 ≤ 2006 := by
        rw [← hl.1]
        rcases hk with rfl | rfl | rfl | rfl | rfl | rfl | rfl <;> exact ⟨rfl, by simp [kcF], by simp [kcF]⟩
      have h2 := hwv.2.1 hf.2.1 (by omega)
      unfold qX2_pace_J105
      refine ⟨⟨by omega, by omega⟩, ⟨fun c4 => by omega, fun c4 => ?_⟩⟩
      intro x12 e12 _ x13 e13 _
      have f12 : x12 = v1 + (-1) - 1 := by rw [e12]; exact w32_id ⟨by omega, by omega⟩
      have f13 : x13 = v1 + (-1) - 1 := by rw [e13]; exact w32_id ⟨by omega, by omega⟩
      refine ⟨by omega, by omega, ?_⟩
      intro x16 e16 _
      refine ⟨by omega, by omega, ?_⟩
      intro x19 e19 _
      refine ⟨r6, ?_⟩
      refine gX2_join hk ?_
      intro r21
      refine ⟨by omega, by omega, ?_⟩
      intro M24 h24
      have a16 : x16 = evS f e v2.toNat (v1 - 2) := by rw [e16, show x13 = v1 - 2 from by omega]; exact hs _ (by omega) (by omega)
      have a19 : x19 = evS f e v2.toNat (v1 - 1) := by rw [e19, show v1 + (-1) = v1 - 1 from by omega]; exact hs _ (by omega) (by omega)
      exact key _ _ _ _ h24 (by rw [if_neg (by omega), if_neg (by omega)]) (by rw [hev, if_neg (by omega), if_pos hf.2.1, ← a16, ← a19, hf.1, show v1 - 2 = x12 from by omega]) ⟨by omega, by omega, by omega⟩
    · have hf : f v2 = 3000 := by rw [← hl.1, c3]; rfl
      have h1 := hwv.1 hf
      refine ⟨⟨by omega, by omega⟩, ⟨fun c4 => by omega, fun c4 => ?_⟩⟩
      intro x27 e27 _ x28 e28 _
      have f27 : x27 = v1 - 1 := by rw [e27]; exact w32_id ⟨by omega, by omega⟩
      have f28 : x28 = v1 - 1 := by rw [e28]; exact w32_id ⟨by omega, by omega⟩
      refine ⟨by omega, by omega, ?_⟩
      intro x31 e31 _ x32 e32 _
      refine ⟨by omega, by omega, ?_⟩
      intro M35 h35
      have a31 : x31 = evS f e v2.toNat (v1 - 1) := by rw [e31, f28]; exact hs _ (by omega) (by omega)
      exact key _ _ _ _ h35 (by rw [if_pos hf]; omega) (by rw [hev, if_pos hf, e32, a31, f27]) ⟨by omega, by omega, by omega⟩
    · intro x36 e36 _
      have g36 : x36 = M0 (kl + 2) v2 := by rw [e36]; exact hF _ _ (by omega)
      have b36 : 0 ≤ x36 ∧ x36 ≤ 6 := by
        rw [g36]
        rcases hl.2.1 with h | h | h | h | h | h | h | h | h | h <;> omega
      have hf : f v2 = 1000 + x36 := by rw [← hl.1, c2, g36]; rfl
      refine ⟨by omega, by omega, ?_⟩
      intro x39 e39 _
      have g39 : x39 = e x36 := by
        rw [e39, hF _ _ (by omega)]
        refine hO x36 b36.1 (by omega) ?_
        rw [g36]
        exact hl.2.2 c2
      refine ⟨by omega, by omega, ?_⟩
      intro M42 h42
      exact key _ _ _ _ h42 (by rw [if_neg (by omega), if_pos (by omega)]) (by rw [hev, if_neg (by omega), if_neg (by omega), if_pos (by omega), g39, hf, show 1000 + x36 - 1000 = x36 from by omega]) ⟨by omega, by omega, by omega⟩
    · intro x43 e43 _
      have g43 : x43 = M0 (kl + 2) v2 := by rw [e43]; exact hF _ _ (by omega)
      have b43 : 0 ≤ x43 ∧ x43 ≤ 999 := by
        rw [g43]
        rcases hl.2.1 with h | h | h | h | h | h | h | h | h | h <;> omega
      have hf : f v2 = x43 := by rw [← hl.1, c1, g43]; rfl
      refine ⟨by omega, by omega, ?_⟩
      intro M46 h46
      exact key _ _ _ _ h46 (by rw [if_neg (by omega), if_pos (by omega)]) (by rw [hev, if_neg (by omega), if_neg (by omega), if_neg (by omega), hf]) ⟨by omega, by omega, by omega⟩
theorem gX2_paceF {kl : Nat} {Q : Int → Mem → Prop} {M : Mem} {f e : Int → Int} {m : Int} (hI : IX M) (hkl : isL kl) (hL : LWf M kl f m) (hO : OBS M M kl e) (hw : WFC f m) (hm : 1 ≤ m ∧ m ≤ 40) (hQ : ∀ M' : Mem, IX M' → Ks (fun k j => k = kl + 3) M M' → Q (max 0 (min 3 (evS f e m.toNat 0))) M') : qX2_pace kl M Q := by
  unfold qX2_pace
  refine ⟨41, gX2_pace_L4 (M0 := M) hkl hL hO hw hm.2 ?_ _ _ _ _ hI Ks.rf ⟨rfl, by omega, by omega⟩ (fun i a q => ?_) (by omega)⟩
  · intro M' i' f' hs x48 e48 _ x49 e49 _ x50 e50 _
    have p := dpc_p hw m.toNat (by omega) (by omega)
    have g48 : x48 = evS f e m.toNat 0 := by rw [e48]; exact hs 0 (by decide) (by omega)
    have g50 : x50 = max 0 (min 3 (evS f e m.toNat 0)) := by rw [← g48]; omega
    rw [g50]
    exact hQ _ i' f'
  · have : dpc f (0 : Int).toNat = 0 := rfl
    omega
theorem pl_w : WFC plF 5 := by
  intro j hj
  have : j = 0 ∨ j = 1 ∨ j = 2 ∨ j = 3 ∨ j = 4 := by omega
  rcases this with rfl | rfl | rfl | rfl | rfl <;> decide
theorem pl_ev (e : Int → Int) : evS plF e 5 0 = w32 (1 + (if e 1 ≤ 2 then 0 else 1)) := by
  have s1 : evS plF e 1 = up (evS plF e 0) 0 1 := rfl
  have s2 : evS plF e 2 = up (evS plF e 1) 1 (e 1) := rfl
  have s3 : evS plF e 3 = up (evS plF e 2) 2 2 := rfl
  have s4 : evS plF e 4 = up (evS plF e 3) 1 (wkF 1 (evS plF e 3 1) (evS plF e 3 2)) := rfl
  have s5 : evS plF e 5 = up (evS plF e 4) 0 (wkF 3 (evS plF e 4 0) (evS plF e 4 1)) := rfl
  have a1 : evS plF e 3 1 = e 1 := by rw [s3, up_j (by decide), s2, upS]
  have a2 : evS plF e 3 2 = 2 := by rw [s3, upS]
  have a3 : evS plF e 4 0 = 1 := by rw [s4, up_j (by decide), s3, up_j (by decide), s2, up_j (by decide), s1, upS]
  have a4 : evS plF e 4 1 = if e 1 ≤ 2 then 0 else 1 := by
    rw [s4, upS, a1, a2]
    show (if 2 < e 1 then (1 : Int) else 0) = _
    by_cases c : e 1 ≤ 2
    · rw [if_neg (by omega), if_pos c]
    · rw [if_pos (by omega), if_neg c]
  rw [s5, upS, a3, a4]
  rfl
theorem gX2_pace {kl : Nat} {Q : Int → Mem → Prop} {M E : Mem} {e : Int → Int} (hI : IX M) (hkl : isL kl) (hL : LAW E M kl) (hw : WFC (E 11) (E 1 24)) (hO : OBS M M kl e) (hQ : ∀ M' : Mem, IX M' → Ks (fun k j => k = kl + 3) M M' → Q (max 0 (min 3 (ruF E e))) M') : qX2_pace kl M Q := by
  have b4 := (bx_l4 hkl).mp (hI.bx kl 4)
  unfold ruF at hQ
  rcases hL with h | h
  · rw [if_neg (by omega)] at hQ
    have := h.2.1
    exact gX2_paceF hI hkl h.2 hO hw ⟨h.1, by omega⟩ hQ
  · rw [if_pos h.1, ← pl_ev e] at hQ
    exact gX2_paceF hI hkl h.2 hO pl_w (by decide) hQ
-- taken cells, as bits
def TK (t : Int) (r : Int → Int) (H : Nat) : Prop := ∀ x : Nat, x < 31 → (bt (iI t) x = true ↔ 0 ≤ onF r H x)
theorem gX6_takenCells_L4 {k0 : Nat} {Q : Int → Mem → Prop} {M E : Mem} {r : Int → Int} (hS : STR E M) (hC : SC E M k0 r) (hW : WR E r) (hQ : ∀ z : Int, TK z r (eH E) → Q z M) : ∀ (n : Nat) (v1 v2 : Int), iR v1 → TK v1 r v2.toNat → (0 ≤ v2 ∧ v2 ≤ E 1 4) → E 1 4 - v2 < (n : Int) → qX6_takenCells_L4 k0 Q n v1 v2 M := by
  intro n
  induction n with
  | zero => intro v1 v2 hr ht hv hm; exact absurd hm (by omega)
  | succ n ih =>
    intro v1 v2 hr ht hv hm
    have bH := hS.h
    have b4 := hS.2.2.2.2.2.2.1
    have bg := hS.g
    rw [qX6_takenCells_L4]
    intro x1 e1 _
    have f1 : x1 = E 1 4 := by rw [e1]; exact hC.1
    refine ⟨⟨by omega, by omega⟩, ⟨fun c => ⟨hr, hQ _ ?_⟩, fun c => ⟨by omega, by omega, ?_⟩⟩⟩
    · rw [show v2.toNat = eH E from by omega] at ht
      exact ht
    · intro x7 e7 _
      have f7 : x7 = r v2 := by rw [e7]; exact hC.2.2.1 v2 (by omega) (by omega)
      have w7 := hW.2.1 v2 hv.1 (by omega)
      refine ⟨fun c2 => ?_, fun c2 => ?_⟩
      · intro x9 e9 _ x10 e10 _ x11 e11 r11
        have f9 : x9 = r v2 := by rw [e9, ← e7, f7]
        refine ih _ _ r11 (fun x hx => ?_) (by omega) (by omega)
        rw [e11, bt_oI, e10, bt_sl1 (by omega) (by omega), onF_s hv.1, f9]
        by_cases cx : (x : Int) = r v2
        · rw [if_pos cx.symm]
          simp [cx, hv.1]
        · rw [if_neg (fun w => cx w.symm)]
          simp only [cx, decide_false, Bool.or_false]
          exact ht x hx
      · intro x12 e12 r12
        refine ih _ _ r12 (fun x hx => ?_) (by omega) (by omega)
        rw [e12, bt_oI, show iI 0 = (0 : Int32) from rfl, b_0, onF_s hv.1, if_neg (by omega), Bool.or_false]
        exact ht x hx
theorem gX6_takenCells {k0 : Nat} {Q : Int → Mem → Prop} {M E : Mem} {r : Int → Int} (hS : STR E M) (hC : SC E M k0 r) (hW : WR E r) (hQ : ∀ z : Int, TK z r (eH E) → Q z M) : qX6_takenCells k0 M Q := by
  have b4 := hS.2.2.2.2.2.2.1
  unfold qX6_takenCells
  refine ⟨7, gX6_takenCells_L4 hS hC hW hQ _ _ _ (by decide) (fun x hx => ?_) (by omega) (by omega)⟩
  rw [show iI 0 = (0 : Int32) from rfl, b_0]
  exact ⟨fun q => absurd q (by decide), fun q => absurd q (by show ¬ (0 : Int) ≤ -1; decide)⟩
theorem mk_up : ∀ t : Nat, t < 30 → ∀ f : Nat, f < t → ∀ x : Nat, x < 32 → bt (iI (slI 2 t - slI 1 f)) x = decide (f ≤ x ∧ x ≤ t) := by decide +kernel
theorem mk_bt : ∀ t : Nat, t < 30 → ∀ f : Nat, f < t → ∀ x : Nat, x < 32 → bt (iI (slI 1 t - slI 2 f)) x = decide (f < x ∧ x < t) := by decide +kernel
theorem gX10_goal_L15 {p1 p2 p3 : Int} {Q : Int → Mem → Prop} {M E : Mem} {r : Int → Int} (hI : IX M) (hS : STR E M) (hW : WR E r) (hT : TK p1 r (eH E)) (hf : 0 ≤ p2 ∧ p2 < eG E) (hp : 0 ≤ p3 ∧ p3 ≤ 3) (hQ : ∀ z : Int, (z = -1 ∧ (∀ x, p2 < x → x ≤ min (eG E) (p2 + p3) → ¬ okF E r p2 x) ∨ (p2 < z ∧ z ≤ min (eG E) (p2 + p3)) ∧ okF E r p2 z ∧ ∀ x, z < x → x ≤ min (eG E) (p2 + p3) → ¬ okF E r p2 x) → Q z M) : ∀ (n : Nat) (v4 : Int), (p2 ≤ v4 ∧ v4 ≤ min (eG E) (p2 + p3)) → (∀ x, v4 < x → x ≤ min (eG E) (p2 + p3) → ¬ okF E r p2 x) → v4 < (n : Int) → qX10_goal_L15 p1 p2 p3 Q n v4 M := by
  intro n
  induction n with
  | zero => intro v4 hv hx hm; exact absurd hm (by omega)
  | succ n ih =>
    intro v4 hv hx hm
    have bg := hS.g
    have bH := hS.h
    rw [qX10_goal_L15]
    refine ⟨⟨by omega, by omega⟩, ⟨fun c => hQ _ (Or.inl ⟨rfl, fun x a q => hx x (by omega) q⟩), fun c => ?_⟩⟩
    intro x6 e6 _ x7 e7 _ x8 e8 _ x9 e9 _ x10 e10 _ x11 e11 _
    have hm1 : ∀ x : Nat, x < 32 → bt (iI (x6 - x7)) x = decide (p2 ≤ x ∧ (x : Int) ≤ v4) := by
      intro x hx'
      have := mk_up v4.toNat (by omega) p2.toNat (by omega) x hx'
      rw [show ((v4.toNat : Nat) : Int) = v4 from by omega, show ((p2.toNat : Nat) : Int) = p2 from by omega] at this
      rw [e6, e7, this]
      exact decide_eq_decide.mpr (by omega)
    have hm2 : ∀ x : Nat, x < 32 → bt (iI (x8 - x9)) x = decide (p2 < x ∧ (x : Int) < v4) := by
      intro x hx'
      have := mk_bt v4.toNat (by omega) p2.toNat (by omega) x hx'
      rw [show ((v4.toNat : Nat) : Int) = v4 from by omega, show ((p2.toNat : Nat) : Int) = p2 from by omega] at this
      rw [e8, e9, this]
      exact decide_eq_decide.mpr (by omega)
    rw [e10, bit1 (by omega)] at e11
    have t4 := hT v4.toNat (by omega)
    rw [show ((v4.toNat : Nat) : Int) = v4 from by omega] at t4
    -- no hearse stands at the gate
    have ng : v4 = eG E → onF r (eH E) v4 < 0 := by
      intro q
      rcases Int.lt_or_le (onF r (eH E) v4) 0 with w | w
      · exact w
      · exfalso
        have ob := onF_b r (eH E) v4
        have oc := onF_c w
        have := hW.2.1 _ w (by omega)
        omega
    have NO : ¬ okF E r p2 v4 → qX10_goal_L15 p1 p2 p3 Q n (v4 + (-1)) M := by
      intro h
      refine ih _ (by omega) (fun x a q => ?_) (by omega)
      by_cases cx : x = v4
      · rw [cx]; exact h
      · exact hx x (by omega) q
    have YES : okF E r p2 v4 → Q v4 M := fun h => hQ _ (Or.inr ⟨by omega, h, hx⟩)
    refine ⟨fun c2 => ?_, fun c2 => ?_⟩
    · have h1 : bt (iI p1) v4.toNat = true := by
        by_cases q : bt (iI p1) v4.toNat = true
        · exact q
        · rw [if_neg q] at e11; exact absurd e11 c2
      unfold qX10_goal_J55
      refine ⟨by decide, ⟨fun _ => NO (fun h => ?_), fun h => absurd rfl h⟩⟩
      have o := t4.mp h1
      rcases h.1 with w | w
      · have := ng w
        omega
      · omega
    · have h1 : ¬ bt (iI p1) v4.toNat = true := fun q => by rw [if_pos q] at e11; omega
      have o4 : onF r (eH E) v4 < 0 := by
        rcases Int.lt_or_le (onF r (eH E) v4) 0 with w | w
        · exact w
        · exact absurd (t4.mpr w) h1
      unfold qX10_goal_J55
      refine ⟨by decide, ⟨fun h => absurd h (by decide), fun _ => ?_⟩⟩
      intro x15 e15 _
      refine ⟨fun c3 => ⟨⟨by omega, by omega⟩, YES ⟨Or.inr o4, Or.inl (fun x a q => ?_)⟩⟩, fun c3 => ?_⟩
      · rw [c3] at e15
        have z := aI_z.mp e15.symm x.toNat (by omega)
        rw [hm2 x.toNat (by omega), show ((x.toNat : Nat) : Int) = x from by omega] at z
        have t := hT x.toNat (by omega)
        rw [show ((x.toNat : Nat) : Int) = x from by omega] at t
        rcases Int.lt_or_le (onF r (eH E) x) 0 with w | w
        · exact w
        · exact absurd ⟨t.mpr w, by simp [a, q]⟩ z
      · have np : ¬ ∀ x, p2 < x → x < v4 → onF r (eH E) x < 0 := by
          intro h
          apply c3
          rw [e15]
          refine aI_z.mpr (fun i hi q => ?_)
          rw [hm2 i hi] at q
          have q2 : p2 < (i : Int) ∧ (i : Int) < v4 := of_decide_eq_true q.2
          have t := (hT i (by omega)).mp q.1
          have := h i q2.1 q2.2
          omega
        intro x18 e18 _ x19 e19 _
        refine ⟨fun c4 => NO (fun h => ?_), fun c4 => ⟨⟨by omega, by omega⟩, YES ⟨Or.inr o4, Or.inr (fun x a q => ?_)⟩⟩⟩
        · rcases h.2 with w | w
          · exact np w
          · apply c4
            rw [e19]
            refine aI_z.mpr (fun i hi q => ?_)
            rw [hm1 i hi] at q
            have q2 : p2 ≤ (i : Int) ∧ (i : Int) ≤ v4 := of_decide_eq_true q.2
            rw [e18] at q
            have k := (hS.2.2.1 i (by have : eG E = E 1 3 - 1 := rfl; omega)).mp q.1
            exact k (w i q2.1 q2.2)
        · rw [c4] at e19
          have z := aI_z.mp e19.symm x.toNat (by omega)
          rw [hm1 x.toNat (by omega), show ((x.toNat : Nat) : Int) = x from by omega, e18] at z
          have k := hS.2.2.1 x.toNat (by have : eG E = E 1 3 - 1 := rfl; omega)
          rw [show ((x.toNat : Nat) : Int) = x from by omega] at k
          by_cases w : E 2 x = 0
          · exact w
          · exact absurd ⟨k.mpr w, by simp [a, q]⟩ z
theorem gX10_goal {p1 p3 h : Int} {Q : Int → Mem → Prop} {M E : Mem} {r : Int → Int} (hI : IX M) (hS : STR E M) (hW : WR E r) (hT : TK p1 r (eH E)) (hf : 0 ≤ r h ∧ r h < eG E) (hp : 0 ≤ p3 ∧ p3 ≤ 3) (hQ : Q (if goF E r h p3 = r h then -1 else goF E r h p3) M) : qX10_goal p1 (r h) p3 M Q := by
  have bg := hS.g
  unfold qX10_goal
  refine gX8_gate hI hS ?_
  intro _
  refine ⟨⟨by omega, by omega⟩, ?_⟩
  intro x3 e3 _
  refine ⟨31, gX10_goal_L15 hI hS hW hT hf hp ?_ _ _ (by omega) (fun x a q => by omega) (by omega)⟩
  intro z hz
  have e : (if goF E r h p3 = r h then -1 else goF E r h p3) = z := by
    rcases hz with w | w
    · have : goF E r h p3 = r h := by
        unfold goF
        exact gdF_u ⟨⟨by omega, by omega⟩, Or.inl rfl, fun x a q => w.2 x a (by omega)⟩
      rw [if_pos this]
      exact w.1.symm
    · have : goF E r h p3 = z := by
        unfold goF
        exact gdF_u ⟨⟨by omega, by omega⟩, Or.inr w.2.1, fun x a q => w.2.2 x a (by omega)⟩
      rw [this, if_neg (by omega)]
  rw [← e]
  exact hQ
end
section
-- a row stays one that can be
theorem goF_b {E : Mem} {r : Int → Int} {h : Int} (hf : 0 ≤ r h ∧ r h < eG E) : (r h ≤ goF E r h (paF E r h) ∧ goF E r h (paF E r h) ≤ eG E) ∧ (goF E r h (paF E r h) = r h ∨ okF E r (r h) (goF E r h (paF E r h))) := by
  have bp : 0 ≤ paF E r h := by unfold paF; omega
  have g := gdF_c (okF E r (r h)) (r h) (min (eG E) (r h + paF E r h) - r h).toNat
  have g1 := g.1
  have e : goF E r h (paF E r h) = gdF (okF E r (r h)) (r h) (min (eG E) (r h + paF E r h) - r h).toNat := rfl
  rw [e]
  exact ⟨⟨g1.1, by omega⟩, g.2.1⟩
theorem up_id (r : Int → Int) (j : Int) : up r j (r j) = r := by
  funext i
  by_cases c : i = j
  · rw [c, upS]
  · rw [up_j c]
/-- the parts of E that bound it -/
def EBx (E : Mem) : Prop := (4 ≤ E 1 3 ∧ E 1 3 ≤ 30) ∧ (0 ≤ E 1 4 ∧ E 1 4 ≤ 6) ∧ (0 ≤ E 1 5 ∧ E 1 5 ≤ 8)
theorem STR.eb {E M : Mem} (h : STR E M) : EBx E := ⟨h.2.1, h.2.2.2.2.2.2.1, h.2.2.2.2.2.2.2.1⟩
theorem EBx.f {E : Mem} (h : EBx E) : ((eH E : Nat) : Int) = E 1 4 ∧ ((eO E : Nat) : Int) = E 1 5 ∧ eG E = E 1 3 - 1 := by
  obtain ⟨a, b, c⟩ := h
  exact ⟨by show (((E 1 4).toNat : Nat) : Int) = E 1 4; omega, by show (((E 1 5).toNat : Nat) : Int) = E 1 5; omega, rfl⟩
theorem WR.mh {E : Mem} {r : Int → Int} {h : Int} (hE : EBx E) (hW : WR E r) (hh : 0 ≤ h ∧ h < E 1 4) (hr : 0 ≤ r h) : WR E (mhF E r h) := by
  have eb := hE
  obtain ⟨e3, e4, e5⟩ := hE
  obtain ⟨f4, f5, fg⟩ := eb.f
  have wh := hW.2.1 h hh.1 hh.2
  have hf : 0 ≤ r h ∧ r h < eG E := by omega
  have ab12 := arF_b r (eH E)
  have g := goF_b hf
  have a12 : w32 (r 12 + 1) = r 12 + 1 := w32_id ⟨by have := hW.2.2.2.1; omega, by have := hW.2.2.2.1; omega⟩
  have oth : ∀ i, 0 ≤ i → i < E 1 4 → i ≠ h → mhF E r h i = r i ∧ mhF E r h (6 + i) = r (6 + i) := fun i a q w => ⟨mhF_o w (by omega) (by omega), mhF_o (by omega) (by omega) (by omega)⟩
  have mour : ∀ j, 13 ≤ j → mhF E r h j = r j := fun j a => mhF_o (by omega) (by omega) (by omega)
  have M3 : ∀ m, 0 ≤ m → m < E 1 5 → (-1 ≤ mhF E r h (21 + m) ∧ mhF E r h (21 + m) < E 1 4) ∧ (0 ≤ mhF E r h (13 + m) ∧ mhF E r h (13 + m) < eG E) ∧ (-1 ≤ mhF E r h (29 + m) ∧ mhF E r h (29 + m) < E 1 4) := fun m a q => by
    rw [mour (21 + m) (by omega), mour (13 + m) (by omega), mour (29 + m) (by omega)]
    exact hW.2.2.1 m a q
  by_cases c1 : goF E r h (paF E r h) = r h
  · have e : mhF E r h = r := by unfold mhF; rw [if_pos c1]
    rw [e]; exact hW
  · by_cases c2 : goF E r h (paF E r h) = eG E
    · have e : mhF E r h = up (up (up r 12 (w32 (r 12 + 1))) (6 + h) (w32 (r 12 + 1))) h (-1) := by unfold mhF; rw [if_neg c1, if_pos c2]
      have v0 : mhF E r h h = -1 := by rw [e, upS]
      have v6 : mhF E r h (6 + h) = r 12 + 1 := by rw [e, up_j (by omega), upS, a12]
      have v12 : mhF E r h 12 = r 12 + 1 := by rw [e, up_j (by omega), up_j (by omega), upS, a12]
      refine ⟨fun i j i0 i1 j0 j1 q p => ?_, fun i i0 i1 => ?_, M3, ?_, by rw [mour 37 (by decide)]; exact hW.2.2.2.2⟩
      · by_cases ci : i = h
        · rw [ci, v0] at p; omega
        · by_cases cj : j = h
          · rw [cj, v0] at q; omega
          · rw [(oth i i0 i1 ci).1, (oth j j0 j1 cj).1] at q
            rw [(oth i i0 i1 ci).1] at p
            exact hW.1 i j i0 i1 j0 j1 q p
      · by_cases ci : i = h
        · rw [ci, v0, v6]
          have := hW.2.2.2.1
          exact Or.inl ⟨rfl, by omega⟩
        · rw [(oth i i0 i1 ci).1, (oth i i0 i1 ci).2]
          exact hW.2.1 i i0 i1
      · rw [v12, hW.2.2.2.1]
        exact (arF_p hh.1 (by omega) hr (by rw [v0]; decide) (fun i i0 i1 ci => (oth i i0 (by omega) ci).1)).symm
    · have e : mhF E r h = up r h (goF E r h (paF E r h)) := by unfold mhF; rw [if_neg c1, if_neg c2]
      have ok : okF E r (r h) (goF E r h (paF E r h)) := by
        rcases g.2 with w | w
        · exact absurd w c1
        · exact w
      have on : onF r (eH E) (goF E r h (paF E r h)) < 0 := by
        rcases ok.1 with w | w
        · exact absurd w c2
        · exact w
      have v0 : mhF E r h h = goF E r h (paF E r h) := by rw [e, upS]
      have v6 : mhF E r h (6 + h) = r (6 + h) := by rw [e, up_j (by omega)]
      have v12 : mhF E r h 12 = r 12 := by rw [e, up_j (by omega)]
      refine ⟨fun i j i0 i1 j0 j1 q p => ?_, fun i i0 i1 => ?_, M3, ?_, by rw [mour 37 (by decide)]; exact hW.2.2.2.2⟩
      · by_cases ci : i = h
        · by_cases cj : j = h
          · rw [ci, cj]
          · rw [ci, v0, (oth j j0 j1 cj).1] at q
            exact absurd q.symm (onF_n on j j0 (by omega))
        · by_cases cj : j = h
          · rw [cj, v0, (oth i i0 i1 ci).1] at q
            exact absurd q (onF_n on i i0 (by omega))
          · rw [(oth i i0 i1 ci).1, (oth j j0 j1 cj).1] at q
            rw [(oth i i0 i1 ci).1] at p
            exact hW.1 i j i0 i1 j0 j1 q p
      · by_cases ci : i = h
        · rw [ci, v0, v6]
          exact Or.inr (by omega)
        · rw [(oth i i0 i1 ci).1, (oth i i0 i1 ci).2]
          exact hW.2.1 i i0 i1
      · rw [v12, hW.2.2.2.1]
        refine (arF_cg (fun i i0 i1 => ?_)).symm
        by_cases ci : i = h
        · rw [ci, v0]; omega
        · rw [(oth i i0 (by omega) ci).1]
theorem mmF_o {E : Mem} {r : Int → Int} {m j : Int} (h : j ≠ 13 + m ∧ j ≠ 21 + m ∧ j ≠ 29 + m) : mmF E r m j = r j := by
  unfold mmF
  split
  · rw [up_j h.2.2]
  · split
    · rw [up_j h.1, up_j h.2.1]
    · split
      · rfl
      · rw [up_j h.1]
theorem goM_b {r : Int → Int} {m f g : Int} (h1 : 0 ≤ r f ∧ r f < g) (h2 : 0 ≤ r (13 + m) ∧ r (13 + m) < g) : 0 ≤ goM r m f ∧ goM r m f < g := by
  unfold goM
  split <;> omega
theorem WR.mm {E : Mem} {r : Int → Int} {m : Int} (hE : EBx E) (hW : WR E r) (hm : 0 ≤ m ∧ m < E 1 5) : WR E (mmF E r m) := by
  have eb := hE
  obtain ⟨e3, e4, e5⟩ := hE
  obtain ⟨f4, f5, fg⟩ := eb.f
  have wm := hW.2.2.1 m hm.1 hm.2
  have nb := nearF_b r (r (13 + m)) (eH E)
  have low : ∀ j, j ≤ 12 → mmF E r m j = r j := fun j a => mmF_o ⟨by omega, by omega, by omega⟩
  have v37 : mmF E r m 37 = r 37 := mmF_o ⟨by omega, by omega, by omega⟩
  have hl : ∀ f, 0 ≤ f → f < E 1 4 → 0 ≤ r f → r f < eG E := fun f a q w => by
    have := hW.2.1 f a q
    omega
  refine ⟨fun i j i0 i1 j0 j1 q p => ?_, fun i i0 i1 => ?_, fun i i0 i1 => ?_, ?_, by rw [v37]; exact hW.2.2.2.2⟩
  · rw [low i (by omega), low j (by omega)] at q
    rw [low i (by omega)] at p
    exact hW.1 i j i0 i1 j0 j1 q p
  · rw [low i (by omega), low (6 + i) (by omega)]
    exact hW.2.1 i i0 i1
  · by_cases ci : i = m
    · rw [ci]
      unfold mmF
      by_cases c1 : 0 ≤ r (21 + m) ∧ r (r (21 + m)) < 0
      · rw [if_pos c1, up_j (by omega), up_j (by omega), upS]
        omega
      · rw [if_neg c1]
        by_cases c2 : chF E r m
        · rw [if_pos c2]
          have h0 : 0 ≤ nearF r (r (13 + m)) (eH E) := c2.1
          have rn := nb.2.2 h0
          have gb := goM_b (r := r) (m := m) (f := nearF r (r (13 + m)) (eH E)) (g := eG E) ⟨rn, hl _ h0 (by omega) rn⟩ wm.2.1
          rw [up_j (by omega), upS, upS, up_j (by omega), up_j (by omega)]
          omega
        · rw [if_neg c2]
          by_cases c3 : r (21 + m) < 0
          · rw [if_pos c3]; exact wm
          · rw [if_neg c3]
            have gb := goM_b (r := r) (m := m) (f := r (21 + m)) (g := eG E) ⟨by omega, hl _ (by omega) (by omega) (by omega)⟩ wm.2.1
            rw [up_j (by omega), upS, up_j (by omega)]
            omega
    · rw [mmF_o ⟨by omega, by omega, by omega⟩, mmF_o ⟨by omega, by omega, by omega⟩, mmF_o ⟨by omega, by omega, by omega⟩]
      exact hW.2.2.1 i i0 i1
  · rw [low 12 (by decide), hW.2.2.2.1]
    exact (arF_cg (fun i i0 i1 => by rw [low i (by omega)])).symm
-- what a write makes of a scene
theorem SC.cell {E M : Mem} {k : Nat} {r : Int → Int} {h z : Int} (hC : SC E M k r) (hh : 0 ≤ h ∧ h < 6) : SC E (up2 M (k + 1) h z) k (up r h z) := by
  obtain ⟨a1, a2, a3, a4, a5, a6, a7, a8, a9, a10, a11⟩ := hC
  refine ⟨by rw [up2_n (by omega)]; exact a1, by rw [up2_n (by omega)]; exact a2, fun j a q => ?_, fun j a q => by rw [up2_n (by omega), up_j (by omega)]; exact a4 j a q, by rw [up2_n (by omega), up_j (by omega)]; exact a5, fun j a q => by rw [up2_n (by omega), up_j (by omega)]; exact a6 j a q, fun j a q => by rw [up2_n (by omega)]; exact a7 j a q, fun j a q => by rw [up2_n (by omega), up_j (by omega)]; exact a8 j a q, fun j a q => by rw [up2_n (by omega), up_j (by omega)]; exact a9 j a q, by rw [up2_n (by omega), up_j (by omega)]; exact a10, ?_⟩
  · by_cases cj : j = h
    · rw [cj, up2_s, upS]
    · rw [up2_j cj, up_j cj]; exact a3 j a q
  · rw [up2_n (by omega), a11]
    exact egF_cg (fun i a q => by rw [up_j (by omega)])
theorem SC.place {E M : Mem} {k : Nat} {r : Int → Int} {m z : Int} (hC : SC E M k r) (hm : 0 ≤ m ∧ m < 8) : SC E (up2 M (k + 3) m z) k (up r (13 + m) z) := by
  obtain ⟨a1, a2, a3, a4, a5, a6, a7, a8, a9, a10, a11⟩ := hC
  refine ⟨by rw [up2_n (by omega)]; exact a1, by rw [up2_n (by omega)]; exact a2, fun j a q => by rw [up2_n (by omega), up_j (by omega)]; exact a3 j a q, fun j a q => by rw [up2_n (by omega), up_j (by omega)]; exact a4 j a q, by rw [up2_n (by omega), up_j (by omega)]; exact a5, fun j a q => ?_, fun j a q => by rw [up2_n (by omega)]; exact a7 j a q, fun j a q => by rw [up2_n (by omega), up_j (by omega)]; exact a8 j a q, fun j a q => by rw [up2_n (by omega), up_j (by omega)]; exact a9 j a q, by rw [up2_n (by omega), up_j (by omega)]; exact a10, ?_⟩
  · by_cases cj : j = m
    · rw [cj, up2_s, upS]
    · rw [up2_j cj, up_j (by omega)]; exact a6 j a q
  · rw [up2_n (by omega), a11]
    exact egF_cg (fun i a q => by rw [up_j (by omega)])
theorem SC.foll {E M : Mem} {k : Nat} {r : Int → Int} {m z : Int} (hC : SC E M k r) (hm : 0 ≤ m ∧ m < 8) : SC E (up2 M (k + 5) m z) k (up r (21 + m) z) := by
  obtain ⟨a1, a2, a3, a4, a5, a6, a7, a8, a9, a10, a11⟩ := hC
  refine ⟨by rw [up2_n (by omega)]; exact a1, by rw [up2_n (by omega)]; exact a2, fun j a q => by rw [up2_n (by omega), up_j (by omega)]; exact a3 j a q, fun j a q => by rw [up2_n (by omega), up_j (by omega)]; exact a4 j a q, by rw [up2_n (by omega), up_j (by omega)]; exact a5, fun j a q => by rw [up2_n (by omega), up_j (by omega)]; exact a6 j a q, fun j a q => by rw [up2_n (by omega)]; exact a7 j a q, fun j a q => ?_, fun j a q => by rw [up2_n (by omega), up_j (by omega)]; exact a9 j a q, by rw [up2_n (by omega), up_j (by omega)]; exact a10, ?_⟩
  · by_cases cj : j = m
    · rw [cj, up2_s, upS]
    · rw [up2_j cj, up_j (by omega)]; exact a8 j a q
  · rw [up2_n (by omega), a11]
    exact egF_cg (fun i a q => by rw [up_j (by omega)])
theorem SC.fin {E M : Mem} {k : Nat} {r : Int → Int} {m z w : Int} (hE : EBx E) (hC : SC E M k r) (hm : 0 ≤ m ∧ m < E 1 5) (hr : r (29 + m) = -1) (hz : z ≠ -1) (hw : w = egF r (eO E) + 1) : SC E (up2 (up2 M (k + 6) m z) k 9 w) k (up r (29 + m) z) := by
  obtain ⟨a1, a2, a3, a4, a5, a6, a7, a8, a9, a10, a11⟩ := hC
  have ef := hE.f
  have e5 := hE.2.2
  refine ⟨by rw [up2_j (by decide), up2_n (by omega)]; exact a1, by rw [up2_j (by decide), up2_n (by omega)]; exact a2, fun j a q => by rw [up2_n (by omega), up2_n (by omega), up_j (by omega)]; exact a3 j a q, fun j a q => by rw [up2_n (by omega), up2_n (by omega), up_j (by omega)]; exact a4 j a q, by rw [up2_j (by decide), up2_n (by omega), up_j (by omega)]; exact a5, fun j a q => by rw [up2_n (by omega), up2_n (by omega), up_j (by omega)]; exact a6 j a q, fun j a q => by rw [up2_n (by omega), up2_n (by omega)]; exact a7 j a q, fun j a q => by rw [up2_n (by omega), up2_n (by omega), up_j (by omega)]; exact a8 j a q, fun j a q => ?_, by rw [up2_j (by decide), up2_n (by omega), up_j (by omega)]; exact a10, ?_⟩
  · rw [up2_n (by omega)]
    by_cases cj : j = m
    · rw [cj, up2_s, upS]
    · rw [up2_j cj, up_j (by omega)]; exact a9 j a q
  · rw [up2_s, hw]
    exact (egF_p hm.1 (by omega) hr (by rw [upS]; exact hz) (fun i i0 i1 ci => up_j (by omega))).symm
theorem SC.arr {E M : Mem} {k : Nat} {r : Int → Int} {h w : Int} (hC : SC E M k r) (hh : 0 ≤ h ∧ h < 6) : SC E (up2 (up2 (up2 M k 8 w) (k + 2) h w) (k + 1) h (-1)) k (up (up (up r 12 w) (6 + h) w) h (-1)) := by
  obtain ⟨a1, a2, a3, a4, a5, a6, a7, a8, a9, a10, a11⟩ := hC
  refine ⟨by rw [up2_n (by omega), up2_n (by omega), up2_j (by decide)]; exact a1, by rw [up2_n (by omega), up2_n (by omega), up2_j (by decide)]; exact a2, fun j a q => ?_, fun j a q => ?_, ?_, fun j a q => by rw [up2_n (by omega), up2_n (by omega), up2_n (by omega), up_j (by omega), up_j (by omega), up_j (by omega)]; exact a6 j a q, fun j a q => by rw [up2_n (by omega), up2_n (by omega), up2_n (by omega)]; exact a7 j a q, fun j a q => by rw [up2_n (by omega), up2_n (by omega), up2_n (by omega), up_j (by omega), up_j (by omega), up_j (by omega)]; exact a8 j a q, fun j a q => by rw [up2_n (by omega), up2_n (by omega), up2_n (by omega), up_j (by omega), up_j (by omega), up_j (by omega)]; exact a9 j a q, by rw [up2_n (by omega), up2_n (by omega), up2_j (by decide), up_j (by omega), up_j (by omega), up_j (by omega)]; exact a10, ?_⟩
  · by_cases cj : j = h
    · rw [cj, up2_s, upS]
    · rw [up2_j cj, up2_n (by omega), up2_n (by omega), up_j cj, up_j (by omega), up_j (by omega)]; exact a3 j a q
  · rw [up2_n (by omega)]
    by_cases cj : j = h
    · rw [cj, up2_s, up_j (by omega), upS]
    · rw [up2_j cj, up2_n (by omega), up_j (by omega), up_j (by omega), up_j (by omega)]; exact a4 j a q
  · rw [up2_n (by omega), up2_n (by omega), up2_s, up_j (by omega), up_j (by omega), upS]
  · rw [up2_n (by omega), up2_n (by omega), up2_j (by decide), a11]
    exact egF_cg (fun i a q => by rw [up_j (by omega), up_j (by omega), up_j (by omega)])
theorem SC.stp {E M : Mem} {k : Nat} {r : Int → Int} {w : Int} (hE : EBx E) (hC : SC E M k r) : SC E (up2 M k 10 w) k (up r 37 w) := by
  have ef := hE.f
  have e5 := hE.2.2
  obtain ⟨a1, a2, a3, a4, a5, a6, a7, a8, a9, a10, a11⟩ := hC
  refine ⟨by rw [up2_j (by decide)]; exact a1, by rw [up2_j (by decide)]; exact a2, fun j a q => by rw [up2_n (by omega), up_j (by omega)]; exact a3 j a q, fun j a q => by rw [up2_n (by omega), up_j (by omega)]; exact a4 j a q, by rw [up2_j (by decide), up_j (by omega)]; exact a5, fun j a q => by rw [up2_n (by omega), up_j (by omega)]; exact a6 j a q, fun j a q => by rw [up2_n (by omega)]; exact a7 j a q, fun j a q => by rw [up2_n (by omega), up_j (by omega)]; exact a8 j a q, fun j a q => by rw [up2_n (by omega), up_j (by omega)]; exact a9 j a q, by rw [up2_s, upS], ?_⟩
  rw [up2_j (by decide), a11]
  exact egF_cg (fun i a q => by rw [up_j (by omega)])
end
section
theorem nearF_n {c : Int → Int} {v : Int} {n : Nat} (h : nearF c v n < 0) : ∀ i : Int, 0 ≤ i → i < n → c i < 0 := by
  induction n with
  | zero => intro i a q; omega
  | succ n ih =>
    intro i a q
    unfold nearF at h
    split at h
    · omega
    · rename_i w
      by_cases ci : i = n
      · rw [ci]
        rcases Int.lt_or_le (c n) 0 with u | u
        · exact u
        · exact absurd ⟨u, Or.inl h⟩ w
      · exact ih h i a (by omega)
-- the class moves a hearse, a mourner
theorem gX10_moveHearse {k1 k2 : Nat} {p3 : Int} {Q : Mem → Prop} {M E : Mem} {r : Int → Int} (hI : IX M) (hk1 : isS k1) (hk2 : isL k2) (hS : STR E M) (hL : LAW E M k2) (hw : WFC (E 11) (E 1 24)) (hC : SC E M k1 r) (hW : WR E r) (hp : 0 ≤ p3 ∧ p3 < E 1 4) (hr : 0 ≤ r p3) (h37 : r 37 ≤ 2147483647) (hQ : ∀ M' : Mem, IX M' → Ks (fun k j => k = k2 + 3 ∨ k = k2 + 4 ∨ k = 160 ∨ k = 161 ∨ k = k1 + 1 ∨ k = k1 + 2 ∨ (k = k1 ∧ j = 8)) M M' → SC E M' k1 (mhF E r p3) → (M' 160 5 = 0 → M 160 5 = 0 ∧ mhF E r p3 = r) → Q M') : qX10_moveHearse k1 k2 p3 M Q := by
  have el : k2 = 187 ∨ k2 = 192 := hk2
  have es : 0 < k1 ∧ k1 < 155 ∧ (k1 - 1) % 7 = 0 := hk1
  have b4 := hS.2.2.2.2.2.2.1
  have eb := hS.eb
  have wp := hW.2.1 p3 hp.1 hp.2
  have bg := hS.g
  have hf : 0 ≤ r p3 ∧ r p3 < eG E := by omega
  have gb := goF_b hf
  have ab12 := arF_b r (eH E)
  have ef := eb.f
  unfold qX10_moveHearse
  refine ⟨by omega, by omega, ?_⟩
  intro x3 e3 _
  have f3 : x3 = r p3 := by rw [e3]; exact hC.2.2.1 p3 (by omega) (by omega)
  refine gX2_observe hI hk2 hk1 hS hC hW hp hr h37 ?_
  intro M4 i4 f4 o4
  have S4 : STR E M4 := hS.fr (f4 158 1 (by omega)) (f4 158 2 (by omega)) (f4 158 3 (by omega)) (fun j => f4 159 j (by omega))
  have C4 : SC E M4 k1 r := hC.fr (fun i j hi => f4 (k1 + i) j (by omega))
  have L4 : LAW E M4 k2 := hL.fr (f4 k2 4 (by omega)) (f4 k2 5 (by omega)) (fun j => f4 _ j (by omega)) (fun j => f4 _ j (by omega))
  refine gX6_takenCells S4 C4 hW ?_
  intro x5 t5 _
  refine gX2_pace i4 hk2 L4 hw o4 ?_
  intro M6 i6 f6 _
  have S6 : STR E M6 := S4.fr (f6 158 1 (by omega)) (f6 158 2 (by omega)) (f6 158 3 (by omega)) (fun j => f6 159 j (by omega))
  have C6 : SC E M6 k1 r := C4.fr (fun i j hi => f6 (k1 + i) j (by omega))
  have F6 : Ks (fun k j => k = k2 + 3 ∨ k = k2 + 4 ∨ k = 160 ∨ k = 161 ∨ k = k1 + 1 ∨ k = k1 + 2 ∨ (k = k1 ∧ j = 8)) M M6 := (f4.mono (by intro k j h; omega)).tr (f6.mono (by intro k j h; omega))
  have g160 : M6 160 5 = M 160 5 := by rw [f6 160 5 (by omega), f4 160 5 (by omega)]
  have ep : max 0 (min 3 (ruF E (envF E r p3))) = paF E r p3 := rfl
  rw [ep, f3]
  have bp : 0 ≤ paF E r p3 ∧ paF E r p3 ≤ 3 := by unfold paF; omega
  refine gX10_goal i6 S6 hW t5 hf bp ?_
  intro _
  refine ⟨fun c => ?_, fun c => ?_⟩
  · have c1 : ¬ goF E r p3 (paF E r p3) = r p3 := fun q => c (by rw [if_pos q])
    rw [if_neg c1]
    intro M9 h9
    have i9 : IX M9 := by rw [h9]; exact i6.up (by decide) (by simp [BX])
    have F9 : Ks (fun k j => k = k2 + 3 ∨ k = k2 + 4 ∨ k = 160 ∨ k = 161 ∨ k = k1 + 1 ∨ k = k1 + 2 ∨ (k = k1 ∧ j = 8)) M M9 := by rw [h9]; exact F6.wr (by omega)
    have S9 : STR E M9 := hS.fr (F9 158 1 (by omega)) (F9 158 2 (by omega)) (F9 158 3 (by omega)) (fun j => F9 159 j (by omega))
    have C9 : SC E M9 k1 r := by rw [h9]; exact C6.fr (fun i j hi => by rw [up2_n (by omega)])
    have s9 : M9 160 5 = 1 := by rw [h9, up2_s]
    refine gX8_gate i9 S9 ?_
    intro _
    refine ⟨fun c2 => ?_, fun c2 => ?_⟩
    · intro M12 h12
      refine hQ _ (by rw [h12]; exact i9.up (isS.nsp hk1 1 (by decide)) ((bx_s1 hk1).mpr ⟨by omega, by omega⟩)) (by rw [h12]; exact F9.wr (by omega)) ?_ (fun q => ?_)
      · rw [h12]
        have e : mhF E r p3 = up r p3 (goF E r p3 (paF E r p3)) := by unfold mhF; rw [if_neg c1, if_neg c2]
        rw [e]
        exact C9.cell ⟨by omega, by omega⟩
      · rw [h12, up2_n (by omega), s9] at q
        omega
    · unfold qX6_arrive
      intro x1 e1 _ x2 e2 _ M3 h3 x4 e4 _
      have g1 : x1 = r 12 := by rw [e1]; exact C9.2.2.2.2.1
      have g2 : x2 = w32 (r 12 + 1) := by rw [e2, g1]
      have g4 : x4 = x2 := by rw [e4, h3, up2_s]
      have i3 : IX M3 := by rw [h3]; exact i9.up (isS.nsp hk1 0 (by decide)) (bx_sf0 hk1 (by decide) (by decide))
      refine ⟨by omega, by omega, ?_⟩
      intro M7 h7 M8 h8
      have i7 : IX M7 := by rw [h7]; exact i3.up (isS.nsp hk1 2 (by decide)) (bx_sf2 hk1)
      refine hQ _ (by rw [h8]; exact i7.up (isS.nsp hk1 1 (by decide)) ((bx_s1 hk1).mpr (by decide))) (by rw [h8, h7, h3]; exact ((F9.wr (by omega)).wr (by omega)).wr (by omega)) ?_ (fun q => ?_)
      · have e : mhF E r p3 = up (up (up r 12 (w32 (r 12 + 1))) (6 + p3) (w32 (r 12 + 1))) p3 (-1) := by unfold mhF; rw [if_neg c1, if_pos c2]
        rw [e, h8, h7, h3, g4, g2]
        exact C9.arr ⟨by omega, by omega⟩
      · rw [h8, up2_n (by omega), h7, up2_n (by omega), h3, up2_n (by omega), s9] at q
        omega
  · have c1 : goF E r p3 (paF E r p3) = r p3 := by
      by_cases q : goF E r p3 (paF E r p3) = r p3
      · exact q
      · rw [if_neg q] at c; omega
    have e : mhF E r p3 = r := by unfold mhF; rw [if_pos c1]
    intro x14 _ _ x15 _ _ M16 h16
    have i16 : IX M16 := by rw [h16]; exact i6.up (by decide) (by simp [BX])
    refine ⟨by omega, by omega, ?_⟩
    intro x19 _ _ x20 _ _ M21 h21
    refine hQ _ (by rw [h21]; exact i16.up (by decide) (by simp [BX])) (by rw [h21, h16]; exact (F6.wr (by omega)).wr (by omega)) ?_ (fun q => ?_)
    · rw [e, h21, h16]
      exact C6.fr (fun i j hi => by rw [up2_n (by omega), up2_n (by omega)])
    · rw [h21, up2_n (by decide), h16, up2_j (by decide), g160] at q
      exact ⟨q, e⟩
theorem gX10_moveMourner {k1 : Nat} {p2 : Int} {Q : Mem → Prop} {M E : Mem} {r : Int → Int} (hI : IX M) (hk1 : isS k1) (hS : STR E M) (hC : SC E M k1 r) (hW : WR E r) (hp : 0 ≤ p2 ∧ p2 < E 1 5) (hr : r (29 + p2) = -1) (hQ : ∀ M' : Mem, IX M' → Ks (fun k j => k = 160 ∨ k = 162 ∨ k = k1 + 3 ∨ k = k1 + 5 ∨ k = k1 + 6 ∨ (k = k1 ∧ j = 9)) M M' → SC E M' k1 (mmF E r p2) → (M' 160 5 = 0 → M 160 5 = 0 ∧ mmF E r p2 = r) → Q M') : qX10_moveMourner k1 p2 M Q := by
  have es : 0 < k1 ∧ k1 < 155 ∧ (k1 - 1) % 7 = 0 := hk1
  have eb := hS.eb
  have ef := eb.f
  have b4 := hS.2.2.2.2.2.2.1
  have b5 := hS.2.2.2.2.2.2.2.1
  have wm := hW.2.2.1 p2 hp.1 hp.2
  have nb := nearF_b r (r (13 + p2)) (eH E)
  have cc : ∀ f, 0 ≤ f → f < E 1 4 → M (k1 + 1) f = r f := fun f a q => hC.2.2.1 f a (by omega)
  have hl : ∀ f, 0 ≤ f → f < E 1 4 → -1 ≤ r f ∧ r f < eG E := fun f a q => by
    have := hW.2.1 f a q
    have bg := hS.g
    omega
  have bg := hS.g
  -- the way is gone
  have J139 : ∀ (f w : Int) (M' : Mem) (rr : Int → Int), IX M' → Ks (fun k j => k = 160 ∨ k = 162 ∨ k = k1 + 3 ∨ k = k1 + 5 ∨ k = k1 + 6 ∨ (k = k1 ∧ j = 9)) M M' → SC E M' k1 rr → (0 ≤ f ∧ f < E 1 4) → (0 ≤ r f) → w = r f - r (13 + p2) → mmF E r p2 = up rr (13 + p2) (goM r p2 f) → ((M' 160 5 = 0 ∨ M' 160 5 = 1) ∨ M' 160 5 = M 160 5) → (M' 160 5 = 0 → M 160 5 = 0 ∧ rr = r) → qX10_moveMourner_J139 k1 p2 Q (r (13 + p2)) w M' := by
    intro f w M' rr i' f' C' hf hrf hw em h5 hst
    have bf := hl f hf.1 hf.2
    have gb := goM_b (r := r) (m := p2) (f := f) (g := eG E) ⟨hrf, bf.2⟩ wm.2.1
    unfold qX10_moveMourner_J139
    refine ⟨⟨by omega, by omega⟩, ?_⟩
    intro x27 e27 _ x28 e28 _
    have g28 : r (13 + p2) + x28 = goM r p2 f := by
      unfold goM
      split <;> omega
    refine ⟨by omega, by omega, ⟨by omega, by omega⟩, ?_⟩
    intro M32 h32 x33 e33 _
    have i32 : IX M32 := by rw [h32]; exact i'.up (isS.nsp hk1 3 (by decide)) ((bx_s3 hk1).mpr ⟨by omega, by omega⟩)
    have F32 : Ks (fun k j => k = 160 ∨ k = 162 ∨ k = k1 + 3 ∨ k = k1 + 5 ∨ k = k1 + 6 ∨ (k = k1 ∧ j = 9)) M M32 := by rw [h32]; exact f'.wr (by omega)
    have C32 : SC E M32 k1 (mmF E r p2) := by rw [h32, g28, em]; exact C'.place ⟨by omega, by omega⟩
    have g33 : x33 = M' 160 5 := by rw [e33, h32, up2_n (by omega)]
    have fin : ∀ t : Int, (t = 0 ∨ t = 1) → (t = 0 → M' 160 5 = 0 ∧ w = 0) → qX10_moveMourner_J177 k1 p2 Q t M32 := by
      intro t ht h0
      unfold qX10_moveMourner_J177
      refine ⟨by rcases ht with q | q <;> exact ⟨by omega, by omega⟩, ht, ?_⟩
      intro M37 h37
      refine hQ _ (by rw [h37]; exact i32.up (by decide) (by simp [BX])) (by rw [h37]; exact F32.wr (by omega)) (by rw [h37]; exact C32.fr (fun i j hi => by rw [up2_n (by omega)])) (fun q => ?_)
      rw [h37, up2_s] at q
      obtain ⟨q1, q2⟩ := h0 q
      obtain ⟨q3, q4⟩ := hst q1
      refine ⟨q3, ?_⟩
      rw [em, q4, ← g28]
      have : x28 = 0 := by omega
      rw [this, show r (13 + p2) + 0 = r (13 + p2) from by omega]
      exact up_id r _
    refine ⟨fun c => ?_, fun c => ⟨fun c2 => fin _ (Or.inl rfl) (fun _ => ⟨by omega, c2⟩), fun c2 => ?_⟩⟩
    · unfold qX10_moveMourner_J172
      exact fin _ (Or.inr rfl) (fun q => absurd q (by decide))
    · unfold qX10_moveMourner_J172
      exact fin _ (Or.inr rfl) (fun q => absurd q (by decide))
  have J92 : chF E r p2 → ¬ (0 ≤ r (21 + p2) ∧ r (r (21 + p2)) < 0) → ∀ w : Int, w = r (nearF r (r (13 + p2)) (eH E)) - r (13 + p2) → qX10_moveMourner_J92 k1 p2 Q (r (13 + p2)) (nearF r (r (13 + p2)) (eH E)) w M := by
    intro hch hno w hw
    have h0 : 0 ≤ nearF r (r (13 + p2)) (eH E) := hch.1
    unfold qX10_moveMourner_J92
    refine ⟨by omega, by omega, ⟨by omega, by omega⟩, ?_⟩
    intro M18 h18 x19 _ _ x20 _ _ M21 h21 x22 _ _ x23 _ _ M24 h24 M25 h25
    have i18 : IX M18 := by rw [h18]; exact hI.up (isS.nsp hk1 5 (by decide)) ((bx_s5 hk1).mpr ⟨by omega, by omega⟩)
    have i21 : IX M21 := by rw [h21]; exact i18.up (by decide) (by simp [BX])
    have i24 : IX M24 := by rw [h24]; exact i21.up (by decide) (by simp [BX])
    have i25 : IX M25 := by rw [h25]; exact i24.up (by decide) (by simp [BX])
    have s25 : M25 160 5 = 1 := by rw [h25, up2_s]
    refine J139 (nearF r (r (13 + p2)) (eH E)) w M25 (up r (21 + p2) (nearF r (r (13 + p2)) (eH E))) i25 ?_ ?_ ⟨h0, by omega⟩ (nb.2.2 h0) hw ?_ (Or.inl (Or.inr s25)) (fun q => by omega)
    · rw [h25, h24, h21, h18]
      exact (((Ks.rf.wr (by omega)).wr (by omega)).wr (by omega)).wr (by omega)
    · have C18 : SC E M18 k1 (up r (21 + p2) (nearF r (r (13 + p2)) (eH E))) := by rw [h18]; exact hC.foll ⟨by omega, by omega⟩
      rw [h25, h24, h21]
      exact C18.fr (fun i j hi => by rw [up2_n (by omega), up2_n (by omega), up2_n (by omega)])
    · unfold mmF
      rw [if_neg hno, if_pos hch]
  have J32 : ¬ (0 ≤ r (21 + p2) ∧ r (r (21 + p2)) < 0) → qX10_moveMourner_J32 k1 p2 Q (r (21 + p2)) M := by
    intro hno
    unfold qX10_moveMourner_J32
    refine ⟨by omega, by omega, ?_⟩
    intro x7 e7 _
    have f7 : x7 = r (13 + p2) := by rw [e7]; exact hC.2.2.2.2.2.1 p2 (by omega) (by omega)
    rw [f7]
    refine gX6_nearestTo (p1 := r (13 + p2)) hI hk1 hS hC hW (by omega) ?_
    intro _
    refine ⟨fun c => ⟨by omega, by omega, ?_⟩, fun c => ?_⟩
    · have h0 : 0 ≤ nearF r (r (13 + p2)) (eH E) := by omega
      have bn := hl _ h0 (by omega)
      have rn := nb.2.2 h0
      intro x12 e12 _
      have f12 : x12 = r (nearF r (r (13 + p2)) (eH E)) := by rw [e12]; exact cc _ h0 (by omega)
      refine ⟨⟨by omega, by omega⟩, ⟨fun c2 => J92 ⟨h0, Or.inl (by omega)⟩ hno _ (by rw [f12]), fun c2 => ⟨⟨by omega, by omega⟩, ?_⟩⟩⟩
      intro x40 p40 n40
      have a40 := ab_e p40 n40
      have b40 := ab_b (x12 - r (13 + p2))
      have f0 : 0 ≤ r (21 + p2) := by omega
      have rf : 0 ≤ r (r (21 + p2)) := by omega
      have bf := hl _ f0 wm.1.2
      refine ⟨by omega, by omega, ?_⟩
      intro x43 e43 _
      have f43 : x43 = r (r (21 + p2)) := by rw [e43]; exact cc _ f0 wm.1.2
      refine ⟨⟨by omega, by omega⟩, ?_⟩
      intro x45 p45 n45
      have a45 := ab_e p45 n45
      have b45 := ab_b (x43 - r (13 + p2))
      rw [f12] at a40
      rw [f43] at a45
      refine ⟨⟨by omega, by omega⟩, ⟨by omega, by omega⟩, ⟨fun c3 => ?_, fun c3 => J92 ⟨h0, Or.inr (by omega)⟩ hno _ (by rw [f12])⟩⟩
      intro x49 e49 _
      have f49 : x49 = r (r (21 + p2)) := by rw [e49]; exact cc _ f0 wm.1.2
      have nch : ¬ chF E r p2 := fun h => by
        rcases h.2 with q | q
        · omega
        · omega
      refine J139 (r (21 + p2)) _ M r hI Ks.rf hC ⟨f0, wm.1.2⟩ rf (by rw [f49]) ?_ (Or.inr rfl) (fun q => ⟨q, rfl⟩)
      unfold mmF
      rw [if_neg hno, if_neg nch, if_neg (by omega)]
    · -- none is on the street: it follows none
      have hall : r (21 + p2) < 0 := by
        rcases Int.lt_or_le (r (21 + p2)) 0 with q | q
        · exact q
        · exfalso
          have : r (r (21 + p2)) < 0 := nearF_n (n := eH E) (v := r (13 + p2)) (by omega) (r (21 + p2)) q (by omega)
          exact hno ⟨q, this⟩
      have nch : ¬ chF E r p2 := fun h => by have := h.1; omega
      have e : mmF E r p2 = r := by unfold mmF; rw [if_neg hno, if_neg nch, if_pos hall]
      exact hQ _ hI Ks.rf (by rw [e]; exact hC) (fun q => ⟨q, e⟩)
  unfold qX10_moveMourner
  refine ⟨by omega, by omega, ?_⟩
  intro x3 e3 _
  have f3 : x3 = r (21 + p2) := by rw [e3]; exact hC.2.2.2.2.2.2.2.1 p2 (by omega) (by omega)
  rw [f3]
  refine ⟨fun c => J32 (by omega), fun c => ?_⟩
  refine gX6_hasArrived (p1 := r (21 + p2)) ⟨by omega, by omega⟩ ?_
  intro x50 p50 _ _
  have rk : M (k1 + 2) (r (21 + p2)) = r (6 + r (21 + p2)) := hC.2.2.2.1 _ (by omega) (by omega)
  have wf := hW.2.1 (r (21 + p2)) (by omega) wm.1.2
  rw [rk] at p50
  refine ⟨fun c2 => J32 (by omega), fun c2 => ?_⟩
  have ar : 0 ≤ r (21 + p2) ∧ r (r (21 + p2)) < 0 := by omega
  have e : mmF E r p2 = up r (29 + p2) (r (21 + p2)) := by unfold mmF; rw [if_pos ar]
  have ge := egF_b r (eO E)
  unfold qX6_endAt
  refine ⟨by omega, by omega, ?_⟩
  intro M3 h3 x4 e4 _ x5 e5 _ M6 h6 M53 h53
  have g4 : x4 = egF r (eO E) := by rw [e4, h3, up2_n (by omega)]; exact hC.2.2.2.2.2.2.2.2.2.2
  have g5 : x5 = egF r (eO E) + 1 := by rw [e5, g4]; exact w32_id ⟨by omega, by omega⟩
  have i3 : IX M3 := by rw [h3]; exact hI.up (isS.nsp hk1 6 (by decide)) (bx_sf6 hk1)
  have i6 : IX M6 := by rw [h6]; exact i3.up (isS.nsp hk1 0 (by decide)) (bx_sf0 hk1 (by decide) (by decide))
  refine hQ _ (by rw [h53]; exact i6.up (by decide) (by simp [BX])) (by rw [h53, h6, h3]; exact ((Ks.rf.wr (by omega)).wr (by omega)).wr (by omega)) ?_ (fun q => ?_)
  · rw [e, h53, h6, h3]
    exact (SC.fin eb hC hp hr (by omega) g5).fr (fun i j hi => by rw [up2_n (by omega)])
  · rw [h53, up2_s] at q
    omega
end
section
-- the class's step
theorem gX6_foremostBelow_L7 {k0 : Nat} {p1 : Int} {Q : Int → Mem → Prop} {M E : Mem} {r : Int → Int} (hS : STR E M) (hC : SC E M k0 r) (hW : WR E r) (hQ : ∀ z : Int, (z = -1 ∧ (∀ h, 0 ≤ h → h < E 1 4 → 0 ≤ r h → ¬ r h < p1)) ∨ ((0 ≤ z ∧ z < E 1 4) ∧ 0 ≤ r z ∧ r z < p1 ∧ ∀ h, 0 ≤ h → h < E 1 4 → r h < p1 → r h ≤ r z) → Q z M) : ∀ (n : Nat) (v2 v3 v4 : Int), (v2 = -1 ∧ v3 = -1 ∧ (∀ h, 0 ≤ h → h < v4 → 0 ≤ r h → ¬ r h < p1)) ∨ ((0 ≤ v2 ∧ v2 < v4) ∧ v3 = r v2 ∧ 0 ≤ v3 ∧ v3 < p1 ∧ ∀ h, 0 ≤ h → h < v4 → r h < p1 → r h ≤ v3) → (0 ≤ v4 ∧ v4 ≤ E 1 4) → E 1 4 - v4 < (n : Int) → qX6_foremostBelow_L7 k0 p1 Q n v2 v3 v4 M := by
  intro n
  induction n with
  | zero => intro v2 v3 v4 hs hv hm; exact absurd hm (by omega)
  | succ n ih =>
    intro v2 v3 v4 hs hv hm
    have b4 := hS.2.2.2.2.2.2.1
    have bg := hS.g
    have b3 : -1 ≤ v3 ∧ v3 ≤ 29 ∧ -1 ≤ v2 ∧ v2 ≤ 5 := by
      rcases hs with h | h
      · omega
      · have := hW.2.1 v2 h.1.1 (by omega)
        omega
    rw [qX6_foremostBelow_L7]
    intro x1 e1 _
    have f1 : x1 = E 1 4 := by rw [e1]; exact hC.1
    refine ⟨⟨by omega, by omega⟩, ⟨fun c => ⟨⟨by omega, by omega⟩, hQ _ ?_⟩, fun c => ⟨by omega, by omega, ?_⟩⟩⟩
    · rcases hs with h | h
      · exact Or.inl ⟨h.1, fun i a q w => h.2.2 i a (by omega) w⟩
      · refine Or.inr ⟨by omega, by omega, by omega, fun i a q w => ?_⟩
        have := h.2.2.2.2 i a (by omega) w
        omega
    · intro x7 e7 _
      have f7 : x7 = r v4 := by rw [e7]; exact hC.2.2.1 v4 (by omega) (by omega)
      have w4 := hW.2.1 v4 hv.1 (by omega)
      have SK : (r v4 < p1 → r v4 ≤ v3) → qX6_foremostBelow_L7 k0 p1 Q n v2 v3 (v4 + 1) M := by
        intro hk
        refine ih _ _ _ ?_ (by omega) (by omega)
        rcases hs with h | h
        · refine Or.inl ⟨h.1, h.2.1, fun i a q w u => ?_⟩
          by_cases ci : i = v4
          · rw [ci] at w u
            have := hk u
            omega
          · exact h.2.2 i a (by omega) w u
        · refine Or.inr ⟨by omega, h.2.1, h.2.2.1, h.2.2.2.1, fun i a q w => ?_⟩
          by_cases ci : i = v4
          · rw [ci] at w ⊢; exact hk w
          · exact h.2.2.2.2 i a (by omega) w
      refine ⟨fun c2 => SK (fun q => by omega), fun c2 => ?_⟩
      intro x9 e9 _
      have f9 : x9 = r v4 := by rw [e9, ← e7, f7]
      refine ⟨⟨by omega, by omega⟩, ⟨fun c3 => SK (fun _ => by omega), fun c3 => ?_⟩⟩
      intro x12 e12 _
      have f12 : x12 = r v4 := by rw [e12, ← e7, f7]
      refine ih _ _ _ (Or.inr ⟨by omega, f12, by omega, by omega, fun i a q w => ?_⟩) (by omega) (by omega)
      by_cases ci : i = v4
      · rw [ci]; omega
      · rcases hs with h | h
        · rcases Int.lt_or_le (r i) 0 with u | u
          · omega
          · exact absurd w (h.2.2 i a (by omega) u)
        · have := h.2.2.2.2 i a (by omega) w
          omega
theorem gX6_foremostBelow {k0 : Nat} {p1 : Int} {Q : Int → Mem → Prop} {M E : Mem} {r : Int → Int} (hS : STR E M) (hC : SC E M k0 r) (hW : WR E r) (hQ : ∀ z : Int, (z = -1 ∧ (∀ h, 0 ≤ h → h < E 1 4 → 0 ≤ r h → ¬ r h < p1)) ∨ ((0 ≤ z ∧ z < E 1 4) ∧ 0 ≤ r z ∧ r z < p1 ∧ ∀ h, 0 ≤ h → h < E 1 4 → r h < p1 → r h ≤ r z) → Q z M) : qX6_foremostBelow k0 p1 M Q := by
  have b4 := hS.2.2.2.2.2.2.1
  unfold qX6_foremostBelow
  exact ⟨7, gX6_foremostBelow_L7 hS hC hW hQ _ _ _ _ (Or.inl ⟨rfl, rfl, fun h a q => by omega⟩) (by omega) (by omega)⟩
-- the line, from the foremost on
theorem lnL_0 {r : Int → Int} {H : Nat} (c : Nat) (h : ∀ i : Int, 0 ≤ i → i < H → 0 ≤ r i → ¬ r i < c) : lnL r H c = [] := by
  induction c with
  | zero => rfl
  | succ c ih =>
    unfold lnL
    have : onF r H c = -1 := onF_z (fun i a q w => h i a q (by omega) (by omega))
    rw [this, if_neg (by decide)]
    exact ih (fun i a q w u => h i a q w (by omega))
theorem lnL_f {r : Int → Int} {H : Nat} {h : Int} (hd : DST r H) (h0 : 0 ≤ h ∧ h < H) (hr : 0 ≤ r h) (c : Nat) (hc : r h < c) (hmax : ∀ i : Int, 0 ≤ i → i < H → r i < c → r i ≤ r h) : lnL r H c = h :: lnL r H (r h).toNat := by
  induction c with
  | zero => omega
  | succ c ih =>
    show (if 0 ≤ onF r H c then onF r H c :: lnL r H c else lnL r H c) = _
    by_cases e : r h = c
    · have o : onF r H c = h := onF_u hd h0.1 h0.2 e (by omega)
      rw [o, if_pos h0.1, show (r h).toNat = c from by omega]
    · have o : onF r H c = -1 := onF_z (fun i a q w => by have := hmax i a q (by omega); omega)
      rw [o, if_neg (by decide)]
      exact ih (by omega) (fun i a q w => hmax i a q (by omega))
theorem lnL_cg {r r' : Int → Int} {H : Nat} (c : Nat) (h : ∀ v : Int, 0 ≤ v → v < c → onF r H v = onF r' H v) : lnL r H c = lnL r' H c := by
  induction c with
  | zero => rfl
  | succ c ih =>
    unfold lnL
    rw [h c (by omega) (by omega), ih (fun v a q => h v a (by omega))]
theorem mhF_h {E : Mem} {r : Int → Int} {h : Int} (hh : 0 ≤ h ∧ h < 6) (hf : 0 ≤ r h ∧ r h < eG E) : r h ≤ mhF E r h h ∨ mhF E r h h = -1 := by
  have g := goF_b hf
  unfold mhF
  split
  · exact Or.inl (Int.le_refl _)
  · split
    · rw [upS]; exact Or.inr rfl
    · rw [upS]; exact Or.inl g.1.1
/-- how many stand below v -/
def tB (r : Int → Int) (H v h : Int) : Int := if h < H ∧ 0 ≤ r h ∧ r h < v then 1 else 0
def sB (r : Int → Int) (H v : Int) : Int := tB r H v 0 + tB r H v 1 + tB r H v 2 + tB r H v 3 + tB r H v 4 + tB r H v 5
theorem tB_b (r : Int → Int) (H v h : Int) : 0 ≤ tB r H v h ∧ tB r H v h ≤ 1 := by
  unfold tB
  split <;> omega
theorem tB_m {r r' : Int → Int} {H v v' h : Int} (hr : 0 ≤ r' h → r' h < v' → 0 ≤ r h ∧ r h < v) : tB r' H v' h ≤ tB r H v h := by
  unfold tB
  by_cases c : h < H ∧ 0 ≤ r' h ∧ r' h < v'
  · rw [if_pos c, if_pos ⟨c.1, hr c.2.1 c.2.2⟩]; exact Int.le_refl _
  · rw [if_neg c]; split <;> decide
theorem sB_s {E : Mem} {r : Int → Int} {h v : Int} (hE : EBx E) (hh : 0 ≤ h ∧ h < E 1 4) (hf : 0 ≤ r h ∧ r h < eG E) (hv : r h < v) : sB (mhF E r h) (E 1 4) (r h) + 1 ≤ sB r (E 1 4) v := by
  have e4 := hE.2.1
  have oth : ∀ i, 0 ≤ i → i < 6 → i ≠ h → tB (mhF E r h) (E 1 4) (r h) i ≤ tB r (E 1 4) v i := fun i a q w => tB_m (fun u1 u2 => by
    rw [mhF_o w (by omega) (by omega)] at u1 u2
    omega)
  have hh0 : tB (mhF E r h) (E 1 4) (r h) h = 0 := by
    unfold tB
    rw [if_neg]
    intro w
    rcases mhF_h ⟨hh.1, by omega⟩ hf with u | u <;> omega
  have hh1 : tB r (E 1 4) v h = 1 := by
    unfold tB
    rw [if_pos ⟨hh.2, hf.1, hv⟩]
  unfold sB
  have : h = 0 ∨ h = 1 ∨ h = 2 ∨ h = 3 ∨ h = 4 ∨ h = 5 := by omega
  rcases this with rfl | rfl | rfl | rfl | rfl | rfl
  · have a1 := oth 1 (by omega) (by omega) (by omega)
    have a2 := oth 2 (by omega) (by omega) (by omega)
    have a3 := oth 3 (by omega) (by omega) (by omega)
    have a4 := oth 4 (by omega) (by omega) (by omega)
    have a5 := oth 5 (by omega) (by omega) (by omega)
    omega
  · have a1 := oth 0 (by omega) (by omega) (by omega)
    have a2 := oth 2 (by omega) (by omega) (by omega)
    have a3 := oth 3 (by omega) (by omega) (by omega)
    have a4 := oth 4 (by omega) (by omega) (by omega)
    have a5 := oth 5 (by omega) (by omega) (by omega)
    omega
  · have a1 := oth 0 (by omega) (by omega) (by omega)
    have a2 := oth 1 (by omega) (by omega) (by omega)
    have a3 := oth 3 (by omega) (by omega) (by omega)
    have a4 := oth 4 (by omega) (by omega) (by omega)
    have a5 := oth 5 (by omega) (by omega) (by omega)
    omega
  · have a1 := oth 0 (by omega) (by omega) (by omega)
    have a2 := oth 1 (by omega) (by omega) (by omega)
    have a3 := oth 2 (by omega) (by omega) (by omega)
    have a4 := oth 4 (by omega) (by omega) (by omega)
    have a5 := oth 5 (by omega) (by omega) (by omega)
    omega
  · have a1 := oth 0 (by omega) (by omega) (by omega)
    have a2 := oth 1 (by omega) (by omega) (by omega)
    have a3 := oth 2 (by omega) (by omega) (by omega)
    have a4 := oth 3 (by omega) (by omega) (by omega)
    have a5 := oth 5 (by omega) (by omega) (by omega)
    omega
  · have a1 := oth 0 (by omega) (by omega) (by omega)
    have a2 := oth 1 (by omega) (by omega) (by omega)
    have a3 := oth 2 (by omega) (by omega) (by omega)
    have a4 := oth 3 (by omega) (by omega) (by omega)
    have a5 := oth 4 (by omega) (by omega) (by omega)
    omega
theorem sB_0 {r : Int → Int} {H v : Int} (h : sB r H v ≤ 0) (hH : H ≤ 6) : ∀ i : Int, 0 ≤ i → i < H → 0 ≤ r i → ¬ r i < v := by
  intro i a q w u
  have b0 := tB_b r H v 0
  have b1 := tB_b r H v 1
  have b2 := tB_b r H v 2
  have b3 := tB_b r H v 3
  have b4 := tB_b r H v 4
  have b5 := tB_b r H v 5
  have h1 : tB r H v i = 1 := by unfold tB; rw [if_pos ⟨q, w, u⟩]
  unfold sB at h
  have : i = 0 ∨ i = 1 ∨ i = 2 ∨ i = 3 ∨ i = 4 ∨ i = 5 := by omega
  rcases this with rfl | rfl | rfl | rfl | rfl | rfl <;> omega
abbrev kAd (k1 k2 k : Nat) (j : Int) : Prop := k = k2 + 3 ∨ k = k2 + 4 ∨ k = 160 ∨ k = 161 ∨ k = 162 ∨ k = k1 + 1 ∨ k = k1 + 2 ∨ k = k1 + 3 ∨ k = k1 + 5 ∨ k = k1 + 6 ∨ (k = k1 ∧ (j = 8 ∨ j = 9 ∨ j = 10))
theorem gX10_advance_L16 {k1 k2 : Nat} {X36 X61 Q : Mem → Prop} {M0 E : Mem} {r0 T : Int → Int} (hk1 : isS k1) (hk2 : isL k2) (hS0 : STR E M0) (hL0 : LAW E M0 k2) (hw : WFC (E 11) (E 1 24)) (h37 : r0 37 ≤ 2147483647) (hX : ∀ M' : Mem, IX M' → Ks (kAd k1 k2) M0 M' → SC E M' k1 T → WR E T → T 37 = r0 37 → (M' 160 5 = 0 → M0 160 5 = 0 ∧ T = r0) → X36 M' ∧ X61 M') : ∀ (n : Nat) (v3 v4 : Int) (M : Mem) (r : Int → Int), IX M → Ks (kAd k1 k2) M0 M → SC E M k1 r → WR E r → r 37 = r0 37 → (M 160 5 = 0 → M0 160 5 = 0 ∧ r = r0) → hsF E (lnL r (eH E) v3.toNat) r = T → (0 ≤ v3 ∧ v3 ≤ 30) → (0 ≤ v4 ∧ v4 ≤ 6) → sB r (E 1 4) v3 ≤ 6 - v4 → 6 - v4 < (n : Int) → qX10_advance_L16 k1 k2 X36 X61 Q n v3 v4 M := by
  intro n
  induction n with
  | zero => intro v3 v4 M r hI hF hC hW hr7 hst hT h3 h4 hb hm; exact absurd hm (by omega)
  | succ n ih =>
    intro v3 v4 M r hI hF hC hW hr7 hst hT h3 h4 hb hm
    have el : k2 = 187 ∨ k2 = 192 := hk2
    have es : 0 < k1 ∧ k1 < 155 ∧ (k1 - 1) % 7 = 0 := hk1
    have hS : STR E M := hS0.fr (hF 158 1 (by unfold kAd; omega)) (hF 158 2 (by unfold kAd; omega)) (hF 158 3 (by unfold kAd; omega)) (fun j => hF 159 j (by unfold kAd; omega))
    have hL : LAW E M k2 := hL0.fr (hF k2 4 (by unfold kAd; omega)) (hF k2 5 (by unfold kAd; omega)) (fun j => hF _ j (by unfold kAd; omega)) (fun j => hF _ j (by unfold kAd; omega))
    have eb := hS.eb
    have ef := eb.f
    have b4 := hS.2.2.2.2.2.2.1
    have bg := hS.g
    have none : (∀ h, 0 ≤ h → h < E 1 4 → 0 ≤ r h → ¬ r h < v3) → T = r := by
      intro h
      rw [← hT, lnL_0 v3.toNat (fun i a q w => by have := h i a (by omega) w; omega)]
      rfl
    have done : T = r → X36 M ∧ X61 M := fun e => hX M hI hF (by rw [e]; exact hC) (by rw [e]; exact hW) (by rw [e]; exact hr7) (fun q => by rw [e]; exact hst q)
    rw [qX10_advance_L16]
    refine ⟨⟨by omega, by omega⟩, ⟨fun c => (done (none (sB_0 (by omega) (by omega)))).2, fun c => ⟨⟨by omega, by omega⟩, ?_⟩⟩⟩
    refine gX6_foremostBelow hS hC hW ?_
    intro x6 p6 _
    refine ⟨fun c2 => ⟨by omega, by omega, ?_⟩, fun c2 => ?_⟩
    · intro x10 e10 _
      obtain ⟨z0, z1, z2, z3⟩ : (0 ≤ x6 ∧ x6 < E 1 4) ∧ 0 ≤ r x6 ∧ r x6 < v3 ∧ ∀ h, 0 ≤ h → h < E 1 4 → r h < v3 → r h ≤ r x6 := by
        rcases p6 with q | q
        · exact absurd q.1 c2
        · exact q
      have f10 : x10 = r x6 := by rw [e10]; exact hC.2.2.1 x6 z0.1 (by omega)
      have w6 := hW.2.1 x6 z0.1 z0.2
      have hf : 0 ≤ r x6 ∧ r x6 < eG E := by omega
      refine gX10_moveHearse hI hk1 hk2 hS hL hw hC hW z0 z1 (by omega) ?_
      intro M11 i11 F11 C11 st11
      refine ih _ _ M11 (mhF E r x6) i11 (hF.tr (F11.mono (by intro k j h; unfold kAd; omega))) C11 (hW.mh eb z0 z1) (by rw [mhF_o (by omega) (by omega) (by omega)]; exact hr7) (fun q => ?_) ?_ (by omega) (by omega) ?_ (by omega)
      · obtain ⟨q1, q2⟩ := st11 q
        rw [q2]
        exact hst q1
      · have hd : DST r (eH E : Nat) := by rw [ef.1]; exact hW.1
        rw [lnL_f hd ⟨z0.1, by omega⟩ z1 v3.toNat (by omega) (fun i a q w => z3 i a (by omega) (by omega))] at hT
        rw [f10, ← hT]
        show _ = hsF E (lnL r (eH E) (r x6).toNat) (mhF E r x6)
        rw [lnL_cg (r := mhF E r x6) (r' := r) (r x6).toNat (fun v a q => onF_cg (fun i a2 q2 => ?_))]
        by_cases ci : i = x6
        · rw [ci]
          rcases mhF_h ⟨z0.1, by omega⟩ hf with u | u <;> omega
        · rw [mhF_o ci (by omega) (by omega)]
      · have := sB_s eb z0 hf z2
        rw [f10]
        omega
    · rcases p6 with q | q
      · exact (done (none q.2)).1
      · omega
theorem gX10_advance_L64 {k1 k2 : Nat} {Q : Mem → Prop} {M0 E : Mem} {r0 A : Int → Int} (hk1 : isS k1) (hk2 : isL k2) (hS0 : STR E M0) (h37 : r0 37 ≤ 2000000000) (hQ : ∀ M' : Mem, IX M' → Ks (kAd k1 k2) M0 M' → SC E M' k1 (up (msF E (eO E) A) 37 (msF E (eO E) A 37 + 1)) → WR E (up (msF E (eO E) A) 37 (msF E (eO E) A 37 + 1)) → (M' 160 5 = 0 → M0 160 5 = 0 ∧ msF E (eO E) A = r0) → Q M') : ∀ (n : Nat) (v4 : Int) (M : Mem), IX M → Ks (kAd k1 k2) M0 M → SC E M k1 (msF E v4.toNat A) → WR E (msF E v4.toNat A) → msF E v4.toNat A 37 = r0 37 → (M 160 5 = 0 → M0 160 5 = 0 ∧ msF E v4.toNat A = r0) → (0 ≤ v4 ∧ v4 ≤ E 1 5) → E 1 5 - v4 < (n : Int) → qX10_advance_L64 k1 k2 Q n v4 M := by
  intro n
  induction n with
  | zero => intro v4 M hI hF hC hW hr7 hst hv hm; exact absurd hm (by omega)
  | succ n ih =>
    intro v4 M hI hF hC hW hr7 hst hv hm
    have el : k2 = 187 ∨ k2 = 192 := hk2
    have es : 0 < k1 ∧ k1 < 155 ∧ (k1 - 1) % 7 = 0 := hk1
    have hS : STR E M := hS0.fr (hF 158 1 (by unfold kAd; omega)) (hF 158 2 (by unfold kAd; omega)) (hF 158 3 (by unfold kAd; omega)) (fun j => hF 159 j (by unfold kAd; omega))
    have eb := hS.eb
    have ef := eb.f
    have b5 := hS.2.2.2.2.2.2.2.1
    have hs := msF_s (E := E) (r := A) hv.1
    rw [qX10_advance_L64]
    intro x13 e13 _
    have f13 : x13 = E 1 5 := by rw [e13]; exact hC.2.1
    refine ⟨⟨by omega, by omega⟩, ⟨fun c => ?_, fun c => ?_⟩⟩
    · have ev : v4.toNat = eO E := by omega
      rw [ev] at hC hW hr7 hst
      intro x16 e16 _ x17 e17 _ M18 h18
      have f16 : x16 = msF E (eO E) A 37 := by rw [e16]; exact hC.2.2.2.2.2.2.2.2.2.1
      have w37 := hW.2.2.2.2
      have f17 : x17 = msF E (eO E) A 37 + 1 := by rw [e17, f16]; exact w32_id ⟨by omega, by omega⟩
      refine hQ _ (by rw [h18]; exact hI.up (isS.nsp hk1 0 (by decide)) (bx_sf0 hk1 (by decide) (by decide))) (by rw [h18]; exact hF.wr (by unfold kAd; omega)) (by rw [h18, f17]; exact hC.stp eb) ?_ (fun q => ?_)
      · have ebh := eb.2.1
        have ebo := eb.2.2
        refine ⟨fun i j a q b q2 u w => ?_, fun i a q => ?_, fun i a q => ?_, ?_, by rw [upS]; omega⟩
        · rw [up_j (by omega), up_j (by omega)] at u
          rw [up_j (by omega)] at w
          exact hW.1 i j a q b q2 u w
        · rw [up_j (by omega), up_j (by omega)]; exact hW.2.1 i a q
        · rw [up_j (by omega), up_j (by omega), up_j (by omega)]; exact hW.2.2.1 i a q
        · rw [up_j (by decide), hW.2.2.2.1]
          exact arF_cg (fun i a q => by rw [up_j (by omega)])
      · rw [h18, up2_n (by omega)] at q
        exact hst q
    · refine gX6_hasEnded (p1 := v4) ⟨by omega, by omega⟩ ?_
      intro x19 p19 _ _
      have g29 : M (k1 + 6) v4 = msF E v4.toNat A (29 + v4) := hC.2.2.2.2.2.2.2.2.1 v4 hv.1 (by omega)
      rw [g29] at p19
      have wm := hW.2.2.1 v4 hv.1 (by omega)
      refine ⟨fun c2 => ?_, fun c2 => ?_⟩
      · have e : msF E (v4 + 1).toNat A = msF E v4.toNat A := by rw [hs, if_pos (by omega)]
        exact ih _ M hI hF (by rw [e]; exact hC) (by rw [e]; exact hW) (by rw [e]; exact hr7) (by rw [e]; exact hst) (by omega) (by omega)
      · have e : msF E (v4 + 1).toNat A = mmF E (msF E v4.toNat A) v4 := by rw [hs, if_neg (by omega)]
        refine gX10_moveMourner hI hk1 hS hC hW ⟨hv.1, by omega⟩ (by omega) ?_
        intro M21 i21 F21 C21 st21
        refine ih _ M21 i21 (hF.tr (F21.mono (by intro k j h; unfold kAd; omega))) (by rw [e]; exact C21) (by rw [e]; exact hW.mm eb ⟨hv.1, by omega⟩) (by rw [e, mmF_o ⟨by omega, by omega, by omega⟩]; exact hr7) (fun q => ?_) (by omega) (by omega)
        obtain ⟨q1, q2⟩ := st21 q
        rw [e, q2]
        exact hst q1
theorem gX10_advance {k1 k2 : Nat} {Q : Mem → Prop} {M E : Mem} {r : Int → Int} (hI : IX M) (hk1 : isS k1) (hk2 : isL k2) (hS : STR E M) (hL : LAW E M k2) (hw : WFC (E 11) (E 1 24)) (hC : SC E M k1 r) (hW : WR E r) (h37 : r 37 ≤ 2000000000) (hQ : ∀ M' : Mem, IX M' → Ks (kAd k1 k2) M M' → SC E M' k1 (stF E r) → WR E (stF E r) → (M' 160 5 = 0 → stF E r = up r 37 (r 37 + 1)) → Q M') : qX10_advance k1 k2 M Q := by
  have el : k2 = 187 ∨ k2 = 192 := hk2
  have es : 0 < k1 ∧ k1 < 155 ∧ (k1 - 1) % 7 = 0 := hk1
  have eb := hS.eb
  have ef := eb.f
  have b3 := hS.2.1
  have b5 := hS.2.2.2.2.2.2.2.1
  unfold qX10_advance
  intro M1 h1 x2 e2 _
  have i1 : IX M1 := by rw [h1]; exact hI.up (by decide) (by simp [BX])
  have F1 : Ks (kAd k1 k2) M M1 := by rw [h1]; exact Ks.rf.wr (by unfold kAd; omega)
  have S1 : STR E M1 := hS.fr (F1 158 1 (by unfold kAd; omega)) (F1 158 2 (by unfold kAd; omega)) (F1 158 3 (by unfold kAd; omega)) (fun j => F1 159 j (by unfold kAd; omega))
  have L1 : LAW E M1 k2 := hL.fr (F1 k2 4 (by unfold kAd; omega)) (F1 k2 5 (by unfold kAd; omega)) (fun j => F1 _ j (by unfold kAd; omega)) (fun j => F1 _ j (by unfold kAd; omega))
  have C1 : SC E M1 k1 r := by rw [h1]; exact hC.fr (fun i j hi => by rw [up2_n (by omega)])
  have f2 : x2 = E 1 3 := by rw [e2]; exact S1.1
  have g0 : onF r (eH E) (eG E) < 0 := by
    rcases Int.lt_or_le (onF r (eH E) (eG E)) 0 with w | w
    · exact w
    · exfalso
      have ob := onF_b r (eH E) (eG E)
      have oc := onF_c w
      have := hW.2.1 _ w (by omega)
      omega
  have hln : lnL r (eH E) x2.toNat = lnL r (eH E) (eG E).toNat := by
    have := lnL_s (r := r) (H := eH E) (c := eG E) (by omega)
    rw [if_neg (by omega), show (eG E + 1).toNat = x2.toNat from by omega] at this
    exact this
  have sb6 : sB r (E 1 4) x2 ≤ 6 := by
    have b0 := tB_b r (E 1 4) x2 0
    have b1 := tB_b r (E 1 4) x2 1
    have b2 := tB_b r (E 1 4) x2 2
    have b3 := tB_b r (E 1 4) x2 3
    have b4 := tB_b r (E 1 4) x2 4
    have b5 := tB_b r (E 1 4) x2 5
    unfold sB
    omega
  refine ⟨7, gX10_advance_L16 (M0 := M1) (r0 := r) (T := hsF E (lnL r (eH E) (eG E).toNat) r) hk1 hk2 S1 L1 hw (by omega) ?_ _ _ _ _ r i1 Ks.rf C1 hW rfl (fun q => ⟨q, rfl⟩) (by rw [hln]) (by omega) (by omega) (by omega) (by omega)⟩
  intro M2 i2 F2 C2 W2 t37 st2
  have S2 : STR E M2 := S1.fr (F2 158 1 (by unfold kAd; omega)) (F2 158 2 (by unfold kAd; omega)) (F2 158 3 (by unfold kAd; omega)) (fun j => F2 159 j (by unfold kAd; omega))
  have go : qX10_advance_L64 k1 k2 Q 9 0 M2 := by
    refine gX10_advance_L64 (M0 := M2) (r0 := hsF E (lnL r (eH E) (eG E).toNat) r) (A := hsF E (lnL r (eH E) (eG E).toNat) r) hk1 hk2 S2 (by omega) ?_ _ _ _ i2 Ks.rf C2 W2 rfl (fun q => ⟨q, rfl⟩) (by omega) (by omega)
    intro M3 i3 F3 C3 W3 st3
    refine hQ _ i3 ((F1.tr F2).tr F3) C3 W3 (fun q => ?_)
    obtain ⟨q1, q2⟩ := st3 q
    obtain ⟨q3, q4⟩ := st2 q1
    show up (msF E (eO E) (hsF E (lnL r (eH E) (eG E).toNat) r)) 37 (msF E (eO E) (hsF E (lnL r (eH E) (eG E).toNat) r) 37 + 1) = _
    rw [q2, q4]
  exact ⟨⟨9, go⟩, ⟨9, go⟩⟩
end
section
/-! THE STATE on both sides: what no step changes (cut), now, what can be undone, what is kept -/
theorem rmI_e {a b : Int} (ha : 0 ≤ a ∧ a ≤ 2147483647) (hb : 1 ≤ b ∧ b ≤ 2147483647) : rmI a b = a % b := by
  have h0 : 0 ≤ a / b := Int.ediv_nonneg ha.1 (by omega)
  have h1 : a / b ≤ a := Int.ediv_le_self b ha.1
  have q : iI a / iI b = iI (a / b) := by
    rw [← iI_toI (iI a / iI b)]
    exact congrArg iI (dvI_e ha hb)
  have hm : a - a / b * b = a % b := by
    have := Int.emod_add_mul_ediv a b
    have e : a / b * b = b * (a / b) := Int.mul_comm _ _
    omega
  have hr0 : 0 ≤ a % b := Int.emod_nonneg a (by omega)
  have hr1 : a % b < b := Int.emod_lt_of_pos a (by omega)
  unfold rmI
  rw [q, ← hm]
  have : iI a - iI (a / b) * iI b = iI (a - a / b * b) := by
    unfold iI
    rw [Int32.ofInt_sub, Int32.ofInt_mul]
  rw [this]
  exact iI_toInt ⟨by omega, by omega⟩
/-- what no step changes -/
def cut (M : Mem) : Mem := fun k j => if cE k j then M k j else 0
theorem cut_p {M : Mem} {k : Nat} {j : Int} (h : cE k j) : cut M k j = M k j := by unfold cut; rw [if_pos h]
theorem cut_CE (M : Mem) : CE (cut M) M := fun k j h => (cut_p h).symm
theorem cut_eq {M0 M : Mem} (h : CE (cut M0) M) : cut M = cut M0 := by
  funext k j
  by_cases c : cE k j
  · rw [cut_p c, h k j c]
  · show (if cE k j then M k j else 0) = (if cE k j then M0 k j else 0)
    rw [if_neg c, if_neg c]
theorem cut_of {M0 M : Mem} (h : ∀ k j, cE k j → M k j = M0 k j) : cut M = cut M0 := cut_eq (fun k j c => (h k j c).trans (cut_p c).symm)
theorem cut13 (M : Mem) : cut M 1 3 = M 1 3 := cut_p cE13
theorem cut14 (M : Mem) : cut M 1 4 = M 1 4 := cut_p cE14
theorem cut15 (M : Mem) : cut M 1 5 = M 1 5 := cut_p cE15
theorem cut17 (M : Mem) : cut M 1 7 = M 1 7 := cut_p cE17
theorem cut124 (M : Mem) : cut M 1 24 = M 1 24 := cut_p cE124
theorem cut2 (M : Mem) : cut M 2 = M 2 := funext fun j => cut_p (cE2 j)
theorem cut3 (M : Mem) : cut M 3 = M 3 := funext fun j => cut_p (cE3 j)
theorem cut4 (M : Mem) : cut M 4 = M 4 := funext fun j => cut_p (cE4 j)
theorem cut11 (M : Mem) : cut M 11 = M 11 := funext fun j => cut_p (cE11 j)
theorem cut_EB {M : Mem} {b : Int} (h : IM b M) : EBx (cut M) := by
  have h3 := bm_c1_3.mp (h.bx 1 3)
  have h4 := bm_c1_4.mp (h.bx 1 4)
  have h5 := bm_c1_5.mp (h.bx 1 5)
  unfold EBx
  rw [cut13, cut14, cut15]
  exact ⟨h3, h4, h5⟩
theorem cut_W {M : Mem} {b : Int} (h : IM b M) : WFC (cut M 11) (cut M 1 24) := by
  rw [cut11, cut124]
  exact h.2
def sg (f : Int → Int) (a : Int) : Int → Int := fun j => f (38 * a + j)
theorem WR.cg {E : Mem} {r r' : Int → Int} (hW : WR E r) (hE : EBx E) (h : ∀ j, 0 ≤ j → j < 38 → r' j = r j) : WR E r' := by
  obtain ⟨a, b, c, d, e⟩ := hW
  have f := hE.f
  obtain ⟨g1, g2, g3⟩ := hE
  refine ⟨fun i j p1 p2 p3 p4 q s => ?_, fun i p q => ?_, fun m p q => ?_, ?_, ?_⟩
  · rw [h i (by omega) (by omega)] at q s
    rw [h j (by omega) (by omega)] at q
    exact a i j p1 p2 p3 p4 q s
  · rw [h i (by omega) (by omega), h (6 + i) (by omega) (by omega)]
    exact b i p q
  · rw [h (21 + m) (by omega) (by omega), h (13 + m) (by omega) (by omega), h (29 + m) (by omega) (by omega)]
    exact c m p q
  · rw [h 12 (by decide) (by decide), d]
    exact arF_cg (fun i p q => by rw [h i p (by omega)])
  · rw [h 37 (by decide) (by decide)]
    exact e
theorem SC.cg {E M : Mem} {k : Nat} {r r' : Int → Int} (hC : SC E M k r) (hE : EBx E) (h : ∀ j, 0 ≤ j → j < 38 → r' j = r j) : SC E M k r' := by
  obtain ⟨a1, a2, a3, a4, a5, a6, a7, a8, a9, a10, a11⟩ := hC
  have f := hE.f
  obtain ⟨g1, g2, g3⟩ := hE
  refine ⟨a1, a2, fun j p q => ?_, fun j p q => ?_, ?_, fun m p q => ?_, a7, fun m p q => ?_, fun m p q => ?_, ?_, ?_⟩
  · rw [h j (by omega) (by omega)]; exact a3 j p q
  · rw [h (6 + j) (by omega) (by omega)]; exact a4 j p q
  · rw [h 12 (by decide) (by decide)]; exact a5
  · rw [h (13 + m) (by omega) (by omega)]; exact a6 m p q
  · rw [h (21 + m) (by omega) (by omega)]; exact a8 m p q
  · rw [h (29 + m) (by omega) (by omega)]; exact a9 m p q
  · rw [h 37 (by decide) (by decide)]; exact a10
  · rw [a11]; exact egF_cg (fun i p q => by rw [h (29 + i) (by omega) (by omega)])
-- one scene is copied over another
theorem gX6_copyFrom {k0 k1 : Nat} {M : Mem} {Q : Mem → Prop} (hI : IX M) (hk0 : isS k0) (hk1 : isS k1) (hne : k0 ≠ k1) (hQ : ∀ M' : Mem, IX M' → Ks (fun k _ => k0 ≤ k ∧ k ≤ k0 + 6) M M' → (∀ (E : Mem) (r : Int → Int), SC E M k1 r → SC E M' k0 r) → M' k0 6 = M k1 6 ∧ M' k0 7 = M k1 7 → Q M') : qX6_copyFrom k0 k1 M Q := by
  have ek0 : 0 < k0 ∧ k0 < 155 ∧ (k0 - 1) % 7 = 0 := hk0
  have ek1 : 0 < k1 ∧ k1 < 155 ∧ (k1 - 1) % 7 = 0 := hk1
  unfold qX6_copyFrom
  intro M1 h1 M2 h2 M3 h3 M4 h4 M5 h5 M6 h6 x7 e7 _ M8 h8 x9 e9 _ M10 h10 x11 e11 _ M12 h12 x13 e13 _ M14 h14 x15 e15 _ M16 h16
  have i1 : IX M1 := by rw [h1]; exact hI.cp (hk0.nsp 1 (by decide)) (fun j v q => (bx_s1 hk0).mpr ((bx_s1 hk1).mp q))
  have i2 : IX M2 := by rw [h2]; exact i1.cp (hk0.nsp 2 (by decide)) (fun j v q => bx_sf2 hk0)
  have i3 : IX M3 := by rw [h3]; exact i2.cp (hk0.nsp 3 (by decide)) (fun j v q => (bx_s3 hk0).mpr ((bx_s3 hk1).mp q))
  have i4 : IX M4 := by rw [h4]; exact i3.cp (hk0.nsp 4 (by decide)) (fun j v q => (bx_s4 hk0).mpr ((bx_s4 hk1).mp q))
  have i5 : IX M5 := by rw [h5]; exact i4.cp (hk0.nsp 5 (by decide)) (fun j v q => (bx_s5 hk0).mpr ((bx_s5 hk1).mp q))
  have i6 : IX M6 := by rw [h6]; exact i5.cp (hk0.nsp 6 (by decide)) (fun j v q => bx_sf6 hk0)
  have b7 : 0 ≤ x7 ∧ x7 ≤ 6 := by rw [e7]; exact (bx_s0_6 hk1).mp (i6.bx _ _)
  have i8 : IX M8 := by rw [h8]; exact i6.up (hk0.nsp 0 (by decide)) ((bx_s0_6 hk0).mpr b7)
  have b9 : 0 ≤ x9 ∧ x9 ≤ 8 := by rw [e9]; exact (bx_s0_7 hk1).mp (i8.bx _ _)
  have i10 : IX M10 := by rw [h10]; exact i8.up (hk0.nsp 0 (by decide)) ((bx_s0_7 hk0).mpr b9)
  have i12 : IX M12 := by rw [h12]; exact i10.up (hk0.nsp 0 (by decide)) (bx_sf0 hk0 (by decide) (by decide))
  have i14 : IX M14 := by rw [h14]; exact i12.up (hk0.nsp 0 (by decide)) (bx_sf0 hk0 (by decide) (by decide))
  have i16 : IX M16 := by rw [h16]; exact i14.up (hk0.nsp 0 (by decide)) (bx_sf0 hk0 (by decide) (by decide))
  have c1 : ∀ j, 0 ≤ j → j < 6 → M16 (k0 + 1) j = M (k1 + 1) j := by
    intro j a q
    rw [h16, up2_n (by omega), h14, up2_n (by omega), h12, up2_n (by omega), h10, up2_n (by omega), h8, up2_n (by omega), h6, cp2_n (by omega), h5, cp2_n (by omega), h4, cp2_n (by omega), h3, cp2_n (by omega), h2, cp2_n (by omega), h1, cp2_s a q]
  have c2 : ∀ j, 0 ≤ j → j < 6 → M16 (k0 + 2) j = M (k1 + 2) j := by
    intro j a q
    rw [h16, up2_n (by omega), h14, up2_n (by omega), h12, up2_n (by omega), h10, up2_n (by omega), h8, up2_n (by omega), h6, cp2_n (by omega), h5, cp2_n (by omega), h4, cp2_n (by omega), h3, cp2_n (by omega), h2, cp2_s a q, h1, cp2_n (by omega)]
  have c3 : ∀ j, 0 ≤ j → j < 8 → M16 (k0 + 3) j = M (k1 + 3) j := by
    intro j a q
    rw [h16, up2_n (by omega), h14, up2_n (by omega), h12, up2_n (by omega), h10, up2_n (by omega), h8, up2_n (by omega), h6, cp2_n (by omega), h5, cp2_n (by omega), h4, cp2_n (by omega), h3, cp2_s a q, h2, cp2_n (by omega), h1, cp2_n (by omega)]
  have c4 : ∀ j, 0 ≤ j → j < 8 → M16 (k0 + 4) j = M (k1 + 4) j := by
    intro j a q
    rw [h16, up2_n (by omega), h14, up2_n (by omega), h12, up2_n (by omega), h10, up2_n (by omega), h8, up2_n (by omega), h6, cp2_n (by omega), h5, cp2_n (by omega), h4, cp2_s a q, h3, cp2_n (by omega), h2, cp2_n (by omega), h1, cp2_n (by omega)]
  have c5 : ∀ j, 0 ≤ j → j < 8 → M16 (k0 + 5) j = M (k1 + 5) j := by
    intro j a q
    rw [h16, up2_n (by omega), h14, up2_n (by omega), h12, up2_n (by omega), h10, up2_n (by omega), h8, up2_n (by omega), h6, cp2_n (by omega), h5, cp2_s a q, h4, cp2_n (by omega), h3, cp2_n (by omega), h2, cp2_n (by omega), h1, cp2_n (by omega)]
  have c6 : ∀ j, 0 ≤ j → j < 8 → M16 (k0 + 6) j = M (k1 + 6) j := by
    intro j a q
    rw [h16, up2_n (by omega), h14, up2_n (by omega), h12, up2_n (by omega), h10, up2_n (by omega), h8, up2_n (by omega), h6, cp2_s a q, h5, cp2_n (by omega), h4, cp2_n (by omega), h3, cp2_n (by omega), h2, cp2_n (by omega), h1, cp2_n (by omega)]
  have d6 : M16 k0 6 = M k1 6 := by rw [h16, up2_j (by decide), h14, up2_j (by decide), h12, up2_j (by decide), h10, up2_j (by decide), h8, up2_s, e7, h6, cp2_n (by omega), h5, cp2_n (by omega), h4, cp2_n (by omega), h3, cp2_n (by omega), h2, cp2_n (by omega), h1, cp2_n (by omega)]
  have d7 : M16 k0 7 = M k1 7 := by rw [h16, up2_j (by decide), h14, up2_j (by decide), h12, up2_j (by decide), h10, up2_s, e9, h8, up2_n (by omega), h6, cp2_n (by omega), h5, cp2_n (by omega), h4, cp2_n (by omega), h3, cp2_n (by omega), h2, cp2_n (by omega), h1, cp2_n (by omega)]
  have d8 : M16 k0 8 = M k1 8 := by rw [h16, up2_j (by decide), h14, up2_j (by decide), h12, up2_s, e11, h10, up2_n (by omega), h8, up2_n (by omega), h6, cp2_n (by omega), h5, cp2_n (by omega), h4, cp2_n (by omega), h3, cp2_n (by omega), h2, cp2_n (by omega), h1, cp2_n (by omega)]
  have d9 : M16 k0 9 = M k1 9 := by rw [h16, up2_j (by decide), h14, up2_s, e13, h12, up2_n (by omega), h10, up2_n (by omega), h8, up2_n (by omega), h6, cp2_n (by omega), h5, cp2_n (by omega), h4, cp2_n (by omega), h3, cp2_n (by omega), h2, cp2_n (by omega), h1, cp2_n (by omega)]
  have d10 : M16 k0 10 = M k1 10 := by rw [h16, up2_s, e15, h14, up2_n (by omega), h12, up2_n (by omega), h10, up2_n (by omega), h8, up2_n (by omega), h6, cp2_n (by omega), h5, cp2_n (by omega), h4, cp2_n (by omega), h3, cp2_n (by omega), h2, cp2_n (by omega), h1, cp2_n (by omega)]
  refine hQ _ i16 ?_ ?_ ⟨d6, d7⟩
  · rw [h16, h14, h12, h10, h8, h6, h5, h4, h3, h2, h1]
    exact ((((((((((Ks.rf.cp (fun _ => by omega)).cp (fun _ => by omega)).cp (fun _ => by omega)).cp (fun _ => by omega)).cp (fun _ => by omega)).cp (fun _ => by omega)).wr (by omega)).wr (by omega)).wr (by omega)).wr (by omega)).wr (by omega)
  · intro E r h
    obtain ⟨a1, a2, a3, a4, a5, a6, a7, a8, a9, a10, a11⟩ := h
    exact ⟨d6.trans a1, d7.trans a2, fun j p q => (c1 j p q).trans (a3 j p q), fun j p q => (c2 j p q).trans (a4 j p q), d8.trans a5, fun j p q => (c3 j p q).trans (a6 j p q), fun j p q => (c4 j p q).trans (a7 j p q), fun j p q => (c5 j p q).trans (a8 j p q), fun j p q => (c6 j p q).trans (a9 j p q), d10.trans a10, d9.trans a11⟩
-- the history of the class
def CADD (M M' : Mem) (k1 : Nat) : Prop := (∀ (E : Mem) (r : Int → Int), SC E M k1 r → SC E M' (50 + 7 * ((M 163 1 + M 163 2) % 15).toNat) r) ∧ (∀ (s : Int) (i : Nat) (j : Int), 0 ≤ s → s < 15 → s ≠ (M 163 1 + M 163 2) % 15 → i ≤ 6 → M' (50 + 7 * s.toNat + i) j = M (50 + 7 * s.toNat + i) j) ∧ (M 163 2 ≤ 14 ∧ M' 163 1 = M 163 1 ∧ M' 163 2 = M 163 2 + 1 ∨ 15 ≤ M 163 2 ∧ M' 163 1 = (M 163 1 + 1) % 15 ∧ M' 163 2 = M 163 2)
abbrev kHi (k : Nat) (j : Int) : Prop := (50 ≤ k ∧ k ≤ 154) ∨ (k = 163 ∧ (j = 1 ∨ j = 2))
theorem gX1_add {k1 : Nat} {M : Mem} {Q : Mem → Prop} (hI : IX M) (hk1 : isS k1) (hlt : k1 < 50) (hQ : ∀ M' : Mem, IX M' → Ks kHi M M' → CADD M M' k1 → Q M') : qX1_add k1 M Q := by
  have b1 := bx_c163_1.mp (hI.bx 163 1)
  have b2 := bx_c163_2.mp (hI.bx 163 2)
  unfold qX1_add
  intro x1 e1 _ x2 e2 _ x3 e3 _
  have f3 : x3 = (M 163 1 + M 163 2) % 15 := by rw [e3, rmI_e ⟨by omega, by omega⟩ (by decide), e1, e2]
  refine ⟨by omega, by omega, ?_⟩
  refine gX6_copyFrom hI (isS_hist (e := x3) (by omega) (by omega)) hk1 (by omega) ?_
  intro M6 i6 k6 s6 _ x7 e7 _
  have f7 : x7 = M 163 2 := by rw [e7]; exact k6 163 2 (by omega)
  have g1 : M6 163 1 = M 163 1 := k6 163 1 (by omega)
  have g2 : M6 163 2 = M 163 2 := k6 163 2 (by omega)
  rw [f3] at s6 k6
  have fin : ∀ (j v : Int), (j = 1 ∨ j = 2) → IX (up2 M6 163 j v) → (M 163 2 ≤ 14 ∧ up2 M6 163 j v 163 1 = M 163 1 ∧ up2 M6 163 j v 163 2 = M 163 2 + 1 ∨ 15 ≤ M 163 2 ∧ up2 M6 163 j v 163 1 = (M 163 1 + 1) % 15 ∧ up2 M6 163 j v 163 2 = M 163 2) → Q (up2 M6 163 j v) := by
    intro j v hj hi hc
    refine hQ _ hi ((k6.mono (by intro k i h; exact Or.inl (by omega))).wr (Or.inr ⟨rfl, hj⟩)) ⟨fun E r h => ?_, fun s i t h1 h2 h3 h4 => ?_, hc⟩
    · exact (s6 E r h).fr (fun i t hi => by rw [up2_n (by omega)])
    · rw [up2_n (by omega)]
      exact k6 _ t (by omega)
  refine ⟨fun c => ?_, fun c => ?_⟩
  · intro x9 e9 _ x10 e10 _ M11 h11
    have f10 : x10 = (M 163 1 + 1) % 15 := by rw [e10, rmI_e ⟨by omega, by omega⟩ (by decide), e9, g1]
    rw [h11]
    exact fin 1 x10 (Or.inl rfl) (i6.up (by decide) (bx_c163_1.mpr ⟨by omega, by omega⟩)) (Or.inr ⟨by omega, by rw [up2_s]; exact f10, by rw [up2_j (by decide)]; exact g2⟩)
  · intro x12 e12 _
    refine ⟨⟨by omega, by omega⟩, ?_⟩
    intro M14 h14
    rw [h14]
    exact fin 2 (x12 + 1) (Or.inr rfl) (i6.up (by decide) (bx_c163_2.mpr ⟨by omega, by omega⟩)) (Or.inl ⟨by omega, by rw [up2_j (by decide)]; exact g1, by rw [up2_s]; omega⟩)
theorem gX1_takeBack {k1 : Nat} {M : Mem} {Q : Int → Mem → Prop} (hI : IX M) (hk1 : isS k1) (hlt : k1 < 50) (hQ : ∀ (z : Int) (M' : Mem), IX M' → Ks (fun k j => (k1 ≤ k ∧ k ≤ k1 + 6) ∨ (k = 163 ∧ j = 2)) M M' → (M 163 2 = 0 ∧ z = 0 ∧ M' = M ∨ 0 < M 163 2 ∧ z = 1 ∧ M' 163 2 = M 163 2 - 1 ∧ ∀ (E : Mem) (r : Int → Int), SC E M (50 + 7 * ((M 163 1 + (M 163 2 - 1)) % 15).toNat) r → SC E M' k1 r) → Q z M') : qX1_takeBack k1 M Q := by
  have b1 := bx_c163_1.mp (hI.bx 163 1)
  have b2 := bx_c163_2.mp (hI.bx 163 2)
  unfold qX1_takeBack
  intro x1 e1 _
  refine ⟨fun c => ?_, fun c => hQ _ _ hI Ks.rf (Or.inl ⟨by omega, rfl, rfl⟩)⟩
  intro x3 e3 _
  refine ⟨⟨by omega, by omega⟩, ?_⟩
  intro M5 h5 x6 e6 _ x7 e7 _ x8 e8 _
  have i5 : IX M5 := by rw [h5]; exact hI.up (by decide) (bx_c163_2.mpr ⟨by omega, by omega⟩)
  have f6 : x6 = M 163 1 := by rw [e6, h5, up2_j (by decide)]
  have f7 : x7 = M 163 2 - 1 := by rw [e7, h5, up2_s, e3]
  have f8 : x8 = (M 163 1 + (M 163 2 - 1)) % 15 := by rw [e8, rmI_e ⟨by omega, by omega⟩ (by decide), f6, f7]
  refine ⟨by omega, by omega, ?_⟩
  refine gX6_copyFrom i5 hk1 (isS_hist (e := x8) (by omega) (by omega)) (by omega) ?_
  intro M11 i11 k11 s11 _
  refine hQ _ _ i11 ?_ (Or.inr ⟨by omega, rfl, ?_, fun E r h => ?_⟩)
  · have k5 : Ks (fun k j => (k1 ≤ k ∧ k ≤ k1 + 6) ∨ (k = 163 ∧ j = 2)) M M5 := by rw [h5]; exact Ks.rf.wr (Or.inr ⟨rfl, rfl⟩)
    exact k5.tr (k11.mono (fun _ _ q => Or.inl q))
  · have ek1 : 0 < k1 ∧ k1 < 155 ∧ (k1 - 1) % 7 = 0 := hk1
    rw [k11 163 2 (by omega), h5, up2_s, e3]
  · refine s11 E r ?_
    rw [f8]
    exact h.fr (fun i t hi => by rw [h5, up2_n (by omega)])
-- the history of the reference
theorem gX12_putsBy_L2 {Q : Mem → Prop} {b : Int} {M0 : Mem} (hQ : ∀ M' : Mem, IM b M' → FrJ (fun k j => k = 15 ∧ 38 * M0 1 28 ≤ j) M0 M' → (∀ j, 0 ≤ j → j < 38 → M' 15 (38 * M0 1 28 + j) = M0 5 j) → Q M') : ∀ (n : Nat) (v1 : Int) (M : Mem), IM b M → FrJ (fun k j => k = 15 ∧ 38 * M0 1 28 ≤ j) M0 M → (∀ j, 0 ≤ j → j < v1 → M 15 (38 * M0 1 28 + j) = M0 5 j) → (0 ≤ v1 ∧ v1 ≤ 38) → 38 - v1 < (n : Int) → qX12_putsBy_L2 Q n v1 M := by
  intro n
  induction n with
  | zero => intro v1 M hI hF hs hv hm; exact absurd hm (by omega)
  | succ n ih =>
    intro v1 M hI hF hs hv hm
    rw [qX12_putsBy_L2]
    refine ⟨⟨by omega, by omega⟩, ⟨fun c => hQ _ hI hF (fun j p q => hs j p (by omega)), fun c => ?_⟩⟩
    intro x3 e3 _
    have b3 : 0 ≤ x3 ∧ x3 ≤ 15 := by rw [e3]; exact bm_c1_28.mp (hI.bx _ _)
    have f3 : x3 = M0 1 28 := by rw [e3]; exact hF 1 28 (by omega)
    refine ⟨by omega, by omega, ?_⟩
    intro x6 e6 _
    refine ⟨by omega, by omega, ?_⟩
    intro M9 h9
    have hn : BN b v1 x6 := by rw [e6]; exact (bm_n (Or.inl rfl)).mp (hI.bx _ _)
    refine ih _ _ (by rw [h9]; exact hI.up (by omega) (bm_c15.mpr (by rw [show (38 * x3 + v1) % 38 = v1 from by omega]; exact hn))) (by rw [h9]; exact hF.up ⟨rfl, by omega⟩) ?_ (by omega) (by omega)
    intro j p q
    rw [h9]
    by_cases cj : j = v1
    · rw [cj, ← f3, up2_s, e6]
      exact hF 5 v1 (by omega)
    · rw [up2_j (by omega)]
      exact hs j p (by omega)
theorem gX12_putsBy {b : Int} {M : Mem} {Q : Mem → Prop} (hI : IM b M) (hQ : ∀ M' : Mem, IM b M' → FrJ (fun k j => k = 15 ∧ 38 * M 1 28 ≤ j) M M' → (∀ j, 0 ≤ j → j < 38 → M' 15 (38 * M 1 28 + j) = M 5 j) → Q M') : qX12_putsBy M Q := by
  unfold qX12_putsBy
  exact ⟨39, gX12_putsBy_L2 hQ _ _ _ hI FrJ.rf (fun j p q => by omega) (by omega) (by omega)⟩
theorem gX12_adds_L21 {p1 b : Int} {X49 : Mem → Prop} {Q : Int → Mem → Prop} {M0 : Mem} (hX : ∀ M' : Mem, IM b (up2 M' 1 28 15) → FrJ (fun k _ => k = 15) M0 M' → (∀ j, 0 ≤ j → j < 570 → M' 15 j = M0 15 (j + 38)) → X49 M') (h0 : M0 1 28 = 16) : ∀ (n : Nat) (v2 : Int) (M : Mem), IM b (up2 M 1 28 15) → FrJ (fun k _ => k = 15) M0 M → (∀ j, 0 ≤ j → j < v2 → M 15 j = M0 15 (j + 38)) → (∀ j, v2 ≤ j → M 15 j = M0 15 j) → (0 ≤ v2 ∧ v2 ≤ 570) → 570 - v2 < (n : Int) → qX12_adds_L21 p1 X49 Q n v2 M := by
  intro n
  induction n with
  | zero => intro v2 M hI hF hs hs2 hv hm; exact absurd hm (by omega)
  | succ n ih =>
    intro v2 M hI hF hs hs2 hv hm
    rw [qX12_adds_L21]
    refine ⟨⟨by omega, by omega⟩, ⟨fun c => hX _ hI hF (fun j p q => hs j p (by omega)), fun c => ?_⟩⟩
    refine ⟨by omega, by omega, ?_⟩
    intro x10 e10 _
    refine ⟨by omega, by omega, ?_⟩
    intro M13 h13
    refine ih _ _ ?_ (by rw [h13]; exact hF.up rfl) ?_ ?_ (by omega) (by omega)
    · have q : up2 M13 1 28 15 = up2 (up2 M 1 28 15) 15 v2 x10 := by
        rw [h13]
        funext k j
        simp only [up2_a]
        by_cases c1 : k = 1
        · subst c1; simp
        · simp [c1]
      rw [q]
      refine hI.up (by omega) (bm_c15.mpr ?_)
      have r := bm_c15.mp (hI.bx 15 (v2 + 38))
      rw [up2_n (by decide), ← e10, show (v2 + 38) % 38 = v2 % 38 from by omega] at r
      exact r
    · intro j p q
      rw [h13]
      by_cases cj : j = v2
      · rw [cj, up2_s, e10]
        exact hs2 _ (by omega)
      · rw [up2_j cj]
        exact hs j p (by omega)
    · intro j p
      rw [h13, up2_j (by omega)]
      exact hs2 j (by omega)
/-- what putsBy ahead of an act and adds behind it make -/
def RADD (M M' : Mem) : Prop := (M 1 28 ≤ 14 ∧ M' 1 28 = M 1 28 + 1 ∧ (∀ j, 0 ≤ j → j < 38 * M 1 28 → M' 15 j = M 15 j) ∧ ∀ j, 0 ≤ j → j < 38 → M' 15 (38 * M 1 28 + j) = M 5 j) ∨ (M 1 28 = 15 ∧ M' 1 28 = 15 ∧ (∀ j, 0 ≤ j → j < 532 → M' 15 j = M 15 (j + 38)) ∧ ∀ j, 0 ≤ j → j < 38 → M' 15 (532 + j) = M 5 j)
abbrev kHm (k : Nat) (j : Int) : Prop := k = 15 ∨ (k = 1 ∧ j = 28)
theorem gX12_adds {p1 b : Int} {M0 M : Mem} {Q : Int → Mem → Prop} (hI : IM b M) (h28 : M 1 28 = M0 1 28) (h15 : ∀ j, 0 ≤ j → j < 38 * M0 1 28 → M 15 j = M0 15 j) (hp : ∀ j, 0 ≤ j → j < 38 → M 15 (38 * M0 1 28 + j) = M0 5 j) (hQ : ∀ M' : Mem, IM b M' → FrJ kHm M M' → RADD M0 M' → Q p1 M') : qX12_adds p1 M Q := by
  unfold qX12_adds
  intro x1 e1 _
  have b1 : 0 ≤ x1 ∧ x1 ≤ 15 := by rw [e1]; exact bm_c1_28.mp (hI.bx _ _)
  refine ⟨⟨by omega, by omega⟩, ?_⟩
  intro M3 h3 x4 e4 _
  have f4 : x4 = x1 + 1 := by rw [e4, h3, up2_s]
  have k15 : M3 15 = M 15 := by rw [h3, up2_n (by decide)]
  refine ⟨fun c => hQ _ ?_ ?_ (Or.inl ⟨by omega, ?_, fun j p q => ?_, fun j p q => ?_⟩), fun c => ?_⟩
  · rw [h3]; exact hI.up (by omega) (bm_c1_28.mpr ⟨by omega, by omega⟩)
  · rw [h3]; exact FrJ.rf.up (Or.inr ⟨rfl, rfl⟩)
  · rw [h3, up2_s]; omega
  · rw [k15]; exact h15 j p q
  · rw [k15]; exact hp j p q
  · refine ⟨571, gX12_adds_L21 (b := b) (M0 := M3) ?_ (by rw [h3, up2_s]; omega) _ _ _ ?_ FrJ.rf (fun j p q => by omega) (fun j p => rfl) (by omega) (by omega)⟩
    · intro M' h' hF hs x15 e15 _
      have f15 : x15 = 16 := by rw [e15, hF 1 28 (by omega), h3, up2_s]; omega
      refine ⟨⟨by omega, by omega⟩, ?_⟩
      intro M17 h17
      refine hQ _ ?_ ?_ (Or.inr ⟨by omega, ?_, fun j p q => ?_, fun j p q => ?_⟩)
      · rw [h17, show x15 - 1 = 15 from by omega]
        exact h'
      · rw [h17]
        have f3 : FrJ kHm M M3 := by rw [h3]; exact FrJ.rf.up (Or.inr ⟨rfl, rfl⟩)
        exact (f3.tr (hF.mono (fun _ _ q => Or.inl q))).up (Or.inr ⟨rfl, rfl⟩)
      · rw [h17, up2_s]; omega
      · rw [h17, up2_n (by decide), hs j p (by omega), k15]
        exact h15 _ (by omega) (by omega)
      · rw [h17, up2_n (by decide), hs (532 + j) (by omega) (by omega), k15, show 532 + j + 38 = 38 * M0 1 28 + j from by omega]
        exact hp j p q
    · have q : up2 M3 1 28 15 = up2 M 1 28 15 := by
        rw [h3]
        funext k j
        simp only [up2_a]
        by_cases c1 : k = 1
        · subst c1; by_cases c2 : j = 28 <;> simp [c2]
        · simp [c1]
      rw [q]
      exact hI.up (by omega) (bm_c1_28.mpr ⟨by omega, by omega⟩)
theorem gX12_undo_L26 {Q : Int → Mem → Prop} {b : Int} {M0 : Mem} (hQ : ∀ M' : Mem, IM b M' → FrJ (fun k _ => k = 5) M0 M' → (∀ j, 0 ≤ j → j < 38 → M' 5 j = M0 15 (38 * M0 1 28 + j)) → Q (M0 1 28) M') : ∀ (n : Nat) (v1 : Int) (M : Mem), IM b M → FrJ (fun k _ => k = 5) M0 M → (∀ j, 0 ≤ j → j < v1 → M 5 j = M0 15 (38 * M0 1 28 + j)) → (0 ≤ v1 ∧ v1 ≤ 38) → 38 - v1 < (n : Int) → qX12_undo_L26 Q n v1 M := by
  intro n
  induction n with
  | zero => intro v1 M hI hF hs hv hm; exact absurd hm (by omega)
  | succ n ih =>
    intro v1 M hI hF hs hv hm
    rw [qX12_undo_L26]
    refine ⟨⟨by omega, by omega⟩, ⟨fun c => ?_, fun c => ?_⟩⟩
    · intro x9 e9 _
      rw [e9, hF 1 28 (by omega)]
      exact hQ _ hI hF (fun j p q => hs j p (by omega))
    · intro x10 e10 _
      have b3 : 0 ≤ x10 ∧ x10 ≤ 15 := by rw [e10]; exact bm_c1_28.mp (hI.bx _ _)
      have f3 : x10 = M0 1 28 := by rw [e10]; exact hF 1 28 (by omega)
      refine ⟨by omega, by omega, ?_⟩
      intro x13 e13 _
      refine ⟨by omega, by omega, ?_⟩
      intro M16 h16
      have hn : BN b v1 x13 := by
        have r := bm_c15.mp (hI.bx 15 (38 * x10 + v1))
        rw [← e13, show (38 * x10 + v1) % 38 = v1 from by omega] at r
        exact r
      refine ih _ _ (by rw [h16]; exact hI.up (by omega) ((bm_n (Or.inl rfl)).mpr hn)) (by rw [h16]; exact hF.up rfl) ?_ (by omega) (by omega)
      intro j p q
      rw [h16]
      by_cases cj : j = v1
      · rw [cj, up2_s, e13, f3]
        exact hF 15 _ (by omega)
      · rw [up2_j cj]
        exact hs j p (by omega)
theorem gX12_undo {b : Int} {M : Mem} {Q : Int → Mem → Prop} (hI : IM b M) (hQ : ∀ (z : Int) (M' : Mem), IM b M' → FrJ (fun k j => k = 5 ∨ (k = 1 ∧ (j = 0 ∨ j = 28))) M M' → (M 1 28 = 0 ∧ z = -1 ∧ M' 1 28 = 0 ∧ (∀ j, M' 5 j = M 5 j) ∨ 0 < M 1 28 ∧ z = M 1 28 - 1 ∧ M' 1 28 = M 1 28 - 1 ∧ ∀ j, 0 ≤ j → j < 38 → M' 5 j = M 15 (38 * (M 1 28 - 1) + j)) → Q z M') : qX12_undo M Q := by
  have b28 := bm_c1_28.mp (hI.bx 1 28)
  unfold qX12_undo
  intro M1 h1 x2 e2 _
  have i1 : IM b M1 := by rw [h1]; exact hI.up (by omega) (by simp [BM])
  have f1 : FrJ (fun k j => k = 5 ∨ (k = 1 ∧ (j = 0 ∨ j = 28))) M M1 := by rw [h1]; exact FrJ.rf.up (by omega)
  have g28 : M1 1 28 = M 1 28 := by rw [h1, up2_j (by decide)]
  refine ⟨fun c => ?_, fun c => hQ _ _ i1 f1 (Or.inl ⟨by omega, rfl, by omega, fun j => by rw [h1, up2_n (by decide)]⟩)⟩
  intro x4 e4 _
  refine ⟨⟨by omega, by omega⟩, ?_⟩
  intro M6 h6
  have k28 : M6 1 28 = M 1 28 - 1 := by rw [h6, up2_s]; omega
  have f6 : FrJ (fun k j => k = 5 ∨ (k = 1 ∧ (j = 0 ∨ j = 28))) M M6 := by rw [h6]; exact f1.up (by omega)
  refine ⟨39, gX12_undo_L26 (b := b) (M0 := M6) ?_ _ _ _ (by rw [h6]; exact i1.up (by omega) (bm_c1_28.mpr ⟨by omega, by omega⟩)) FrJ.rf (fun j p q => by omega) (by omega) (by omega)⟩
  intro M' i' hF hs
  refine hQ _ _ i' (f6.tr (hF.mono (fun _ _ q => Or.inl q))) (Or.inr ⟨by omega, k28, by rw [hF 1 28 (by omega)]; exact k28, fun j p q => ?_⟩)
  rw [hs j p q, k28]
  exact f6 15 _ (by omega)
-- the relation of the two histories
def HIS (E MX MM : Mem) : Prop := MX 163 2 = MM 1 28 ∧ ∀ i, 0 ≤ i → i < MM 1 28 → SC E MX (50 + 7 * ((MX 163 1 + i) % 15).toNat) (sg (MM 15) i) ∧ WR E (sg (MM 15) i)
theorem HIS.nil {E MX MM : Mem} (h1 : MX 163 2 = 0) (h2 : MM 1 28 = 0) : HIS E MX MM := ⟨by omega, fun i p q => by omega⟩
theorem HIS.fr {E MX MM MX' MM' : Mem} (h : HIS E MX MM) (hE : EBx E) (hx : ∀ (k : Nat) (j : Int), kHi k j → MX' k j = MX k j) (hm : MM' 1 28 = MM 1 28) (hm2 : ∀ j, 0 ≤ j → j < 38 * MM 1 28 → MM' 15 j = MM 15 j) (hb : 0 ≤ MX 163 1 ∧ MX 163 1 ≤ 14) : HIS E MX' MM' := by
  have e1 : MX' 163 1 = MX 163 1 := hx 163 1 (Or.inr ⟨rfl, Or.inl rfl⟩)
  have e2 : MX' 163 2 = MX 163 2 := hx 163 2 (Or.inr ⟨rfl, Or.inr rfl⟩)
  refine ⟨by rw [e2, hm]; exact h.1, fun i p q => ?_⟩
  rw [hm] at q
  obtain ⟨s, w⟩ := h.2 i p q
  have e : ∀ j, 0 ≤ j → j < 38 → sg (MM' 15) i j = sg (MM 15) i j := fun j p' q' => hm2 _ (by omega) (by omega)
  rw [e1]
  exact ⟨(s.fr (fun t j ht => hx _ j (Or.inl (by omega)))).cg hE e, w.cg hE e⟩
theorem HIS.add {E MX MM MX' MM' : Mem} {k1 : Nat} (h : HIS E MX MM) (hE : EBx E) (hb : 0 ≤ MX 163 1 ∧ MX 163 1 ≤ 14) (hc : CADD MX MX' k1) (hr : RADD MM MM') (hS : SC E MX k1 (MM 5)) (hW : WR E (MM 5)) : HIS E MX' MM' := by
  obtain ⟨h1, h2⟩ := h
  obtain ⟨c1, c2, c3⟩ := hc
  have s0 := c1 E (MM 5) hS
  rcases hr with ⟨r1, r2, r3, r4⟩ | ⟨r1, r2, r3, r4⟩
  · rcases c3 with ⟨d1, d2, d3⟩ | ⟨d1, d2, d3⟩
    · refine ⟨by omega, fun i p q => ?_⟩
      rw [d2]
      by_cases ci : i = MM 1 28
      · rw [h1] at s0
        rw [ci]
        exact ⟨s0.cg hE (fun j p' q' => r4 j p' q'), hW.cg hE (fun j p' q' => r4 j p' q')⟩
      · obtain ⟨s, w⟩ := h2 i p (by omega)
        have e : ∀ j, 0 ≤ j → j < 38 → sg (MM' 15) i j = sg (MM 15) i j := fun j p' q' => r3 _ (by omega) (by omega)
        refine ⟨(s.fr (fun t j ht => ?_)).cg hE e, w.cg hE e⟩
        exact c2 ((MX 163 1 + i) % 15) t j (by omega) (by omega) (by omega) ht
    · omega
  · rcases c3 with ⟨d1, d2, d3⟩ | ⟨d1, d2, d3⟩
    · omega
    · refine ⟨by omega, fun i p q => ?_⟩
      by_cases ci : i = 14
      · have e0 : (MX 163 1 + MX 163 2) % 15 = (MX' 163 1 + i) % 15 := by omega
        rw [e0] at s0
        have e : ∀ j, 0 ≤ j → j < 38 → sg (MM' 15) i j = MM 5 j := by
          intro j p' q'
          show MM' 15 (38 * i + j) = MM 5 j
          rw [show 38 * i + j = 532 + j from by omega]
          exact r4 j p' q'
        exact ⟨s0.cg hE e, hW.cg hE e⟩
      · obtain ⟨s, w⟩ := h2 (i + 1) (by omega) (by omega)
        have e0 : (MX 163 1 + (i + 1)) % 15 = (MX' 163 1 + i) % 15 := by omega
        rw [e0] at s
        have e : ∀ j, 0 ≤ j → j < 38 → sg (MM' 15) i j = sg (MM 15) (i + 1) j := by
          intro j p' q'
          show MM' 15 (38 * i + j) = MM 15 (38 * (i + 1) + j)
          rw [r3 _ (by omega) (by omega), show 38 * i + j + 38 = 38 * (i + 1) + j from by omega]
        refine ⟨(s.fr (fun t j ht => ?_)).cg hE e, w.cg hE e⟩
        exact c2 ((MX' 163 1 + i) % 15) t j (by omega) (by omega) (by omega) ht
-- what is kept
def KEP (E MX MM : Mem) : Prop := ∀ i, 0 ≤ i → i < 3 → (MX 166 i = 0 ↔ MM 29 i = 0) ∧ (MX 166 i ≠ 0 → MM 30 i ≤ MM 1 6 ∧ (MX (29 + 7 * i.toNat) 6 ≤ E 1 4 ∧ MX (29 + 7 * i.toNat) 7 ≤ E 1 5) ∧ (MM 30 i = MM 1 6 → SC E MX (29 + 7 * i.toNat) (sg (MM 31) i) ∧ WR E (sg (MM 31) i)) ∧ (MM 30 i < MM 1 6 → MX (29 + 7 * i.toNat) 6 < E 1 4 ∨ MX (29 + 7 * i.toNat) 7 < E 1 5))
theorem KEP.fr {E MX MM MX' MM' : Mem} (h : KEP E MX MM) (hx : ∀ (k : Nat) (j : Int), (29 ≤ k ∧ k ≤ 49) ∨ k = 166 → MX' k j = MX k j) (hm : ∀ (k : Nat) (j : Int), k = 29 ∨ k = 30 ∨ k = 31 ∨ (k = 1 ∧ j = 6) → MM' k j = MM k j) : KEP E MX' MM' := by
  intro i p q
  obtain ⟨a, b⟩ := h i p q
  rw [hx 166 i (Or.inr rfl), hm 29 i (Or.inl rfl), hm 30 i (by omega), hm 1 6 (by omega), hx (29 + 7 * i.toNat) 6 (by omega), hx (29 + 7 * i.toNat) 7 (by omega), show MM' 31 = MM 31 from funext fun j => hm 31 j (by omega)]
  refine ⟨a, fun u => ?_⟩
  obtain ⟨b1, b2, b3, b4⟩ := b u
  exact ⟨b1, b2, fun v => ⟨(b3 v).1.fr (fun t j ht => hx _ j (by omega)), (b3 v).2⟩, b4⟩
/-- the two states are one -/
def STA (E MX MM : Mem) : Prop := STR E MX ∧ LAW E MX (MX 155 16).toNat ∧ SC E MX 1 (MM 5) ∧ WR E (MM 5) ∧ HIS E MX MM ∧ KEP E MX MM
abbrev stX (k : Nat) (j : Int) : Prop := (1 ≤ k ∧ k ≤ 7) ∨ (29 ≤ k ∧ k ≤ 154) ∨ (k = 155 ∧ j = 16) ∨ k = 158 ∨ k = 159 ∨ k = 163 ∨ k = 166 ∨ (187 ≤ k ∧ k ≤ 189) ∨ (192 ≤ k ∧ k ≤ 194)
abbrev stM (k : Nat) (j : Int) : Prop := cE k j ∨ k = 5 ∨ k = 15 ∨ k = 29 ∨ k = 30 ∨ k = 31 ∨ (k = 1 ∧ (j = 6 ∨ j = 28))
theorem LAW.kx {E MX MX' : Mem} (hI : IX MX) (h : LAW E MX (MX 155 16).toNat) (h16 : MX' 155 16 = MX 155 16) (hx : ∀ (k : Nat) (j : Int), (187 ≤ k ∧ k ≤ 189) ∨ (192 ≤ k ∧ k ≤ 194) → MX' k j = MX k j) : LAW E MX' (MX' 155 16).toNat := by
  rw [h16]
  have hl := hI.l16
  have hl2 : (MX 155 16).toNat = 187 ∨ (MX 155 16).toNat = 192 := hl
  exact h.fr (hx _ _ (by omega)) (hx _ _ (by omega)) (fun j => hx _ j (by omega)) (fun j => hx _ j (by omega))
theorem STA.fr {E MX MM MX' MM' : Mem} (h : STA E MX MM) (hE : EBx E) (hI : IX MX) (hx : ∀ (k : Nat) (j : Int), stX k j → MX' k j = MX k j) (hm : ∀ (k : Nat) (j : Int), stM k j → MM' k j = MM k j) : STA E MX' MM' := by
  obtain ⟨a, b, c, d, e, f⟩ := h
  have k5 : MM' 5 = MM 5 := funext fun j => hm 5 j (Or.inr (Or.inl rfl))
  refine ⟨a.fr (hx _ _ (by omega)) (hx _ _ (by omega)) (hx _ _ (by omega)) (fun j => hx _ j (by omega)), b.kx hI (hx _ _ (by omega)) (fun k j q => hx k j (by omega)), ?_, by rw [k5]; exact d, ?_, ?_⟩
  · rw [k5]
    exact c.fr (fun t j ht => hx _ j (by omega))
  · exact e.fr hE (fun k j q => hx k j (by omega)) (hm 1 28 (by omega)) (fun j _ _ => hm 15 j (by omega)) (bx_c163_1.mp (hI.bx 163 1))
  · exact f.fr (fun k j q => hx k j (by omega)) (fun k j q => hm k j (by omega))
end
section
/-! ACTS: turned, pushed, swapped, steps; undone -/
def tnA (E : Mem) (r : Int → Int) (m : Int) : Int := if ¬ (0 ≤ m ∧ m < E 1 5) then -1 else if 0 ≤ r (29 + m) then -2 else if r (E 3 m) < 0 ∨ r (21 + m) = E 3 m then -3 else if 0 ≤ r (21 + m) then r (21 + m) else -4
def tnR (E : Mem) (r : Int → Int) (m : Int) : Int → Int := if (0 ≤ m ∧ m < E 1 5) ∧ r (29 + m) < 0 ∧ 0 ≤ r (E 3 m) ∧ r (21 + m) ≠ E 3 m then up r (21 + m) (E 3 m) else r
def psV (E : Mem) (r : Int → Int) (m v : Int) : Int := max 0 (min (eG E - 1) (r (13 + m) + v))
abbrev psOK (E : Mem) (m v : Int) : Prop := (0 ≤ m ∧ m < E 1 5) ∧ (-9 ≤ v ∧ v ≤ 9) ∧ v ≠ 0
def psA (E : Mem) (r : Int → Int) (m v : Int) : Int := if ¬ psOK E m v then -1 else if 0 ≤ r (29 + m) then -2 else psV E r m v
def psR (E : Mem) (r : Int → Int) (m v : Int) : Int → Int := if psOK E m v ∧ r (29 + m) < 0 then up r (13 + m) (psV E r m v) else r
abbrev swOK (E : Mem) (a b : Int) : Prop := (0 ≤ a ∧ a < E 1 4) ∧ (0 ≤ b ∧ b < E 1 4) ∧ a ≠ b
def swA (E : Mem) (r : Int → Int) (a b : Int) : Int := if ¬ swOK E a b then -1 else if r a < 0 ∨ r b < 0 then -2 else ab (r b - r a)
def swR (E : Mem) (r : Int → Int) (a b : Int) : Int → Int := if swOK E a b ∧ 0 ≤ r a ∧ 0 ≤ r b then up (up r a (r b)) b (r a) else r
/-- n steps -/
noncomputable def itF (E : Mem) : Nat → (Int → Int) → Int → Int
  | 0, r => r
  | n + 1, r => stF E (itF E n r)
theorem itF_s {E : Mem} {r : Int → Int} {i : Int} (h : 0 ≤ i) : itF E (i + 1).toNat r = stF E (itF E i.toNat r) := by
  rw [show (i + 1).toNat = i.toNat + 1 from by omega]
  rfl
def isDn (z : Int) : Prop := 0 ≤ z ∨ z = -4
theorem tn_nd {E : Mem} {r : Int → Int} {m : Int} (h : ¬ isDn (tnA E r m)) : tnR E r m = r := by
  unfold tnR
  split
  · rename_i c
    exfalso
    apply h
    unfold tnA isDn
    rw [if_neg (by omega), if_neg (by omega), if_neg (by omega)]
    split
    · exact Or.inl (by omega)
    · exact Or.inr rfl
  · rfl
theorem ps_nd {E : Mem} {r : Int → Int} {m v : Int} (h : ¬ isDn (psA E r m v)) : psR E r m v = r := by
  unfold psR
  split
  · rename_i c
    exfalso
    apply h
    unfold psA isDn
    rw [if_neg (fun q => q c.1), if_neg (by omega)]
    unfold psV
    exact Or.inl (by omega)
  · rfl
theorem sw_nd {E : Mem} {r : Int → Int} {a b : Int} (h : ¬ isDn (swA E r a b)) : swR E r a b = r := by
  unfold swR
  split
  · rename_i c
    exfalso
    apply h
    unfold swA isDn
    rw [if_neg (fun q => q c.1), if_neg (by omega)]
    exact Or.inl (ab_b _).1
  · rfl
theorem WR.tn {E : Mem} {r : Int → Int} {m : Int} (hW : WR E r) (hE : EBx E) (ho : ∀ m, 0 ≤ m → m < E 1 5 → 0 ≤ E 3 m ∧ E 3 m < E 1 4) : WR E (tnR E r m) := by
  unfold tnR
  split
  · rename_i c
    have f := hE.f
    obtain ⟨g1, g2, g3⟩ := hE
    have o := ho m c.1.1 c.1.2
    have low : ∀ j, j ≤ 20 → up r (21 + m) (E 3 m) j = r j := fun j a => up_j (by omega)
    refine ⟨fun i j i0 i1 j0 j1 q p => ?_, fun i i0 i1 => ?_, fun i i0 i1 => ?_, ?_, by rw [up_j (by omega)]; exact hW.2.2.2.2⟩
    · rw [low i (by omega), low j (by omega)] at q
      rw [low i (by omega)] at p
      exact hW.1 i j i0 i1 j0 j1 q p
    · rw [low i (by omega), low (6 + i) (by omega)]
      exact hW.2.1 i i0 i1
    · have w := hW.2.2.1 i i0 i1
      rw [up_j (j := 21 + m) (i := 13 + i) (by omega), up_j (j := 21 + m) (i := 29 + i) (by omega)]
      by_cases ci : i = m
      · rw [ci, upS]
        rw [ci] at w
        exact ⟨⟨by omega, o.2⟩, w.2⟩
      · rw [up_j (by omega)]
        exact w
    · rw [low 12 (by decide), hW.2.2.2.1]
      exact arF_cg (fun i i0 i1 => by rw [low i (by omega)])
  · exact hW
theorem WR.ps {E : Mem} {r : Int → Int} {m v : Int} (hW : WR E r) (hE : EBx E) : WR E (psR E r m v) := by
  unfold psR
  split
  · rename_i c
    have f := hE.f
    obtain ⟨g1, g2, g3⟩ := hE
    have o : 0 ≤ psV E r m v ∧ psV E r m v < eG E := by
      unfold psV
      omega
    have c0 : 0 ≤ m ∧ m < E 1 5 := c.1.1
    have low : ∀ j, j ≤ 12 → up r (13 + m) (psV E r m v) j = r j := fun j a => up_j (by omega)
    refine ⟨fun i j i0 i1 j0 j1 q p => ?_, fun i i0 i1 => ?_, fun i i0 i1 => ?_, ?_, by rw [up_j (by omega)]; exact hW.2.2.2.2⟩
    · rw [low i (by omega), low j (by omega)] at q
      rw [low i (by omega)] at p
      exact hW.1 i j i0 i1 j0 j1 q p
    · rw [low i (by omega), low (6 + i) (by omega)]
      exact hW.2.1 i i0 i1
    · have w := hW.2.2.1 i i0 i1
      rw [up_j (j := 13 + m) (i := 21 + i) (by omega), up_j (j := 13 + m) (i := 29 + i) (by omega)]
      by_cases ci : i = m
      · rw [ci, upS]
        rw [ci] at w
        exact ⟨w.1, o, w.2.2⟩
      · rw [up_j (by omega)]
        exact w
    · rw [low 12 (by decide), hW.2.2.2.1]
      exact arF_cg (fun i i0 i1 => by rw [low i (by omega)])
  · exact hW
theorem sw_v {r : Int → Int} {a b i : Int} : up (up r a (r b)) b (r a) i = if i = b then r a else if i = a then r b else r i := by
  by_cases c : i = b
  · rw [if_pos c, c, upS]
  · rw [if_neg c, up_j c]
    by_cases c2 : i = a
    · rw [if_pos c2, c2, upS]
    · rw [if_neg c2, up_j c2]
theorem WR.sw {E : Mem} {r : Int → Int} {a b : Int} (hW : WR E r) (hE : EBx E) : WR E (swR E r a b) := by
  unfold swR
  split
  · rename_i c
    have f := hE.f
    obtain ⟨g1, g2, g3⟩ := hE
    obtain ⟨⟨ha, hb, hn⟩, ra, rb⟩ := c
    have wa := hW.2.1 a ha.1 ha.2
    have wb := hW.2.1 b hb.1 hb.2
    have hi : ∀ j, 6 ≤ j → up (up r a (r b)) b (r a) j = r j := fun j q => by rw [up_j (by omega), up_j (by omega)]
    refine ⟨fun i j i0 i1 j0 j1 q p => ?_, fun i i0 i1 => ?_, fun i i0 i1 => ?_, ?_, by rw [hi 37 (by decide)]; exact hW.2.2.2.2⟩
    · rw [sw_v, sw_v] at q
      rw [sw_v] at p
      have U := fun x y x0 x1 y0 y1 e z => hW.1 x y x0 x1 y0 y1 e z
      by_cases i1' : i = b
      · rw [if_pos i1'] at q p
        by_cases j1' : j = b
        · omega
        · rw [if_neg j1'] at q
          by_cases j2' : j = a
          · rw [if_pos j2'] at q
            have := U a b ha.1 ha.2 hb.1 hb.2 q ra
            omega
          · rw [if_neg j2'] at q
            have := U a j ha.1 ha.2 j0 j1 q ra
            omega
      · rw [if_neg i1'] at q p
        by_cases i2' : i = a
        · rw [if_pos i2'] at q p
          by_cases j1' : j = b
          · rw [if_pos j1'] at q
            have := U b a hb.1 hb.2 ha.1 ha.2 q rb
            omega
          · rw [if_neg j1'] at q
            by_cases j2' : j = a
            · omega
            · rw [if_neg j2'] at q
              have := U b j hb.1 hb.2 j0 j1 q rb
              omega
        · rw [if_neg i2'] at q p
          by_cases j1' : j = b
          · rw [if_pos j1'] at q
            have := U i a i0 i1 ha.1 ha.2 q p
            omega
          · rw [if_neg j1'] at q
            by_cases j2' : j = a
            · rw [if_pos j2'] at q
              have := U i b i0 i1 hb.1 hb.2 q p
              omega
            · rw [if_neg j2'] at q
              exact U i j i0 i1 j0 j1 q p
    · have w := hW.2.1 i i0 i1
      rw [hi (6 + i) (by omega), sw_v]
      by_cases c1 : i = b
      · rw [if_pos c1, c1]
        exact Or.inr ⟨ra, by omega, by omega⟩
      · rw [if_neg c1]
        by_cases c2 : i = a
        · rw [if_pos c2, c2]
          exact Or.inr ⟨rb, by omega, by omega⟩
        · rw [if_neg c2]
          exact w
    · rw [hi (21 + i) (by omega), hi (13 + i) (by omega), hi (29 + i) (by omega)]
      exact hW.2.2.1 i i0 i1
    · rw [hi 12 (by decide), hW.2.2.2.1]
      refine arF_cg (fun i i0 i1 => ?_)
      rw [sw_v]
      by_cases c1 : i = b
      · rw [if_pos c1, c1]; omega
      · rw [if_neg c1]
        by_cases c2 : i = a
        · rw [if_pos c2, c2]; omega
        · rw [if_neg c2]
  · exact hW
-- the step's number
theorem mhF_37 {E : Mem} {r : Int → Int} {h : Int} (hh : 0 ≤ h ∧ h < 6) : mhF E r h 37 = r 37 := by
  unfold mhF
  split
  · rfl
  · split
    · rw [up_j (by omega), up_j (by omega), up_j (by omega)]
    · rw [up_j (by omega)]
theorem lnL_mem {r : Int → Int} {H : Nat} : ∀ (c : Nat) (x : Int), x ∈ lnL r H c → 0 ≤ x ∧ x < H := by
  intro c
  induction c with
  | zero => intro x h; exact absurd h (by unfold lnL; exact List.not_mem_nil)
  | succ c ih =>
    intro x h
    unfold lnL at h
    split at h
    · rename_i q
      rcases List.mem_cons.mp h with e | e
      · have := onF_b r H c
        rw [e]
        exact ⟨q, this.2⟩
      · exact ih x e
    · exact ih x h
theorem hsF_37 {E : Mem} : ∀ (l : List Int) (r : Int → Int), (∀ x, x ∈ l → 0 ≤ x ∧ x < 6) → hsF E l r 37 = r 37 := by
  intro l
  induction l with
  | nil => intro r h; rfl
  | cons h t ih =>
    intro r hl
    show hsF E t (mhF E r h) 37 = r 37
    rw [ih _ (fun x q => hl x (List.mem_cons_of_mem _ q)), mhF_37 (hl h List.mem_cons_self)]
theorem msF_37 {E : Mem} {r : Int → Int} : ∀ n : Nat, n ≤ 8 → msF E n r 37 = r 37 := by
  intro n
  induction n with
  | zero => intro _; rfl
  | succ n ih =>
    intro h
    have i := ih (by omega)
    show (if 0 ≤ msF E n r (29 + n) then msF E n r else mmF E (msF E n r) n) 37 = r 37
    split
    · exact i
    · rw [mmF_o ⟨by omega, by omega, by omega⟩]; exact i
theorem stF_37 {E : Mem} {r : Int → Int} (hE : EBx E) : stF E r 37 = r 37 + 1 := by
  have f := hE.f
  have g := hE.2
  unfold stF
  rw [upS, msF_37 _ (by omega), hsF_37 _ _ (fun x q => by have := lnL_mem _ x q; omega)]
theorem itF_37 {E : Mem} {r : Int → Int} (hE : EBx E) (n : Nat) : itF E n r 37 = r 37 + n := by
  induction n with
  | zero => show r 37 = r 37 + ((0 : Nat) : Int); omega
  | succ n ih =>
    show stF E (itF E n r) 37 = _
    rw [stF_37 hE, ih]
    omega
-- the reference
theorem gX12_isMourner {p1 b : Int} {M E : Mem} {Q : Int → Mem → Prop} (hI : IM b M) (hE : CE E M) (hQ : ∀ z : Int, (z = 1 ∧ (0 ≤ p1 ∧ p1 < E 1 5) ∨ z = 0 ∧ ¬ (0 ≤ p1 ∧ p1 < E 1 5)) → Q z M) : qX12_isMourner p1 M Q := by
  have e5 : M 1 5 = E 1 5 := hE 1 5 cE15
  have b5 := bm_c1_5.mp (hI.bx 1 5)
  unfold qX12_isMourner
  intro x1 e1 _
  refine ⟨⟨by omega, by omega⟩, ?_⟩
  refine sX12_in (p0 := p1) (p2 := 0) (p4 := x1 - 1) hI ?_
  intro z hz _ _
  refine ⟨hz.1, hQ _ ?_⟩
  rcases hz.1 with c | c
  · have := hz.2.2 c
    exact Or.inr ⟨c, by omega⟩
  · have := hz.2.1 c
    exact Or.inl ⟨c, by omega, by omega⟩
theorem gX12_isHearse {p1 b : Int} {M E : Mem} {Q : Int → Mem → Prop} (hI : IM b M) (hE : CE E M) (hQ : ∀ z : Int, (z = 1 ∧ (0 ≤ p1 ∧ p1 < E 1 4) ∨ z = 0 ∧ ¬ (0 ≤ p1 ∧ p1 < E 1 4)) → Q z M) : qX12_isHearse p1 M Q := by
  have e5 : M 1 4 = E 1 4 := hE 1 4 cE14
  have b5 := bm_c1_4.mp (hI.bx 1 4)
  unfold qX12_isHearse
  intro x1 e1 _
  refine ⟨⟨by omega, by omega⟩, ?_⟩
  refine sX12_in (p0 := p1) (p2 := 0) (p4 := x1 - 1) hI ?_
  intro z hz _ _
  refine ⟨hz.1, hQ _ ?_⟩
  rcases hz.1 with c | c
  · have := hz.2.2 c
    exact Or.inr ⟨c, by omega⟩
  · have := hz.2.1 c
    exact Or.inl ⟨c, by omega, by omega⟩
theorem gX12_turnsOne {k1 : Nat} {p2 b : Int} {M E : Mem} {Q : Int → Mem → Prop} (hI : IM b M) (hE : CE E M) (hk1 : isN k1) (hQ : ∀ M' : Mem, IM b M' → FrJ (fun k _ => k = k1) M M' → M' k1 = tnR E (M k1) p2 → Q (tnA E (M k1) p2) M') : qX12_turnsOne k1 p2 M Q := by
  have hk : k1 = 5 ∨ k1 = 6 := hk1
  have bo := (hE.o hI).2
  have e5 : M 1 5 = E 1 5 := hE 1 5 cE15
  have SAME : ∀ z, tnA E (M k1) p2 = z → tnR E (M k1) p2 = M k1 → Q z M := by
    intro z hz hr
    have := hQ M hI FrJ.rf hr.symm
    rw [hz] at this
    exact this
  unfold qX12_turnsOne
  refine gX12_isMourner hI hE ?_
  intro z1 c1 _ _
  refine ⟨fun d => ?_, fun d => SAME _ (by unfold tnA; rw [if_pos (by omega)]) (by unfold tnR; rw [if_neg (by omega)])⟩
  have c : 0 ≤ p2 ∧ p2 < E 1 5 := by omega
  refine gX12_isEnded (p1 := p2) ⟨by omega, by omega⟩ ?_
  intro z2 c2 _ _
  refine ⟨fun d2 => ?_, fun d2 => SAME _ (by unfold tnA; rw [if_neg (by omega), if_pos (by omega)]) (by unfold tnR; rw [if_neg (by omega)])⟩
  refine ⟨by omega, by omega, ?_⟩
  intro x7 e7 _
  refine ⟨by omega, by omega, ?_⟩
  intro x10 e10 _
  have b10 : 0 ≤ x10 ∧ x10 ≤ 5 := by rw [e10]; exact bm_c3.mp (hI.bx _ _)
  have f10 : x10 = E 3 p2 := by rw [e10]; exact hE 3 p2 (cE3 p2)
  refine gX12_isOn (p1 := x10) ⟨by omega, by omega⟩ ?_
  intro z3 c3 _ _
  rw [f10] at c3
  refine ⟨fun d3 => SAME _ (by unfold tnA; rw [if_neg (by omega), if_neg (by omega), if_pos (by omega)]) (by unfold tnR; rw [if_neg (by omega)]), fun d3 => ?_⟩
  intro x13 e13 _
  have f13 : x13 = E 3 p2 := by rw [e13]; exact hE 3 p2 (cE3 p2)
  refine ⟨fun d4 => ?_, fun d4 => SAME _ (by unfold tnA; rw [if_neg (by omega), if_neg (by omega), if_pos (by omega)]) (by unfold tnR; rw [if_neg (by omega)])⟩
  intro x15 e15 _ M16 h16
  have f15 : x15 = E 3 p2 := by rw [e15]; exact hE 3 p2 (cE3 p2)
  have i16 : IM b M16 := by rw [h16]; exact hI.up (isN.nu hk1 _) ((bm_n hk1).mpr ⟨by omega, by omega, by omega, by omega⟩)
  have H := hQ M16 i16 (by rw [h16]; exact FrJ.rf.up rfl) (by rw [h16, up2_up, f15]; unfold tnR; rw [if_pos (by omega)])
  unfold tnA at H
  rw [if_neg (by omega), if_neg (by omega), if_neg (by omega)] at H
  refine ⟨fun d5 => ?_, fun d5 => ?_⟩
  · rw [if_pos (by omega), ← e7] at H
    exact H
  · rw [if_neg (by omega)] at H
    exact H
theorem gX12_pushesOne {k1 : Nat} {p2 p3 b : Int} {M E : Mem} {Q : Int → Mem → Prop} (hI : IM b M) (hE : CE E M) (hk1 : isN k1) (hQ : ∀ M' : Mem, IM b M' → FrJ (fun k _ => k = k1) M M' → M' k1 = psR E (M k1) p2 p3 → Q (psA E (M k1) p2 p3) M') : qX12_pushesOne k1 p2 p3 M Q := by
  have hk : k1 = 5 ∨ k1 = 6 := hk1
  have bo := (hE.o hI).2
  have bg := hE.g hI
  have e5 : M 1 5 = E 1 5 := hE 1 5 cE15
  have SAME : ∀ z, psA E (M k1) p2 p3 = z → psR E (M k1) p2 p3 = M k1 → Q z M := by
    intro z hz hr
    have := hQ M hI FrJ.rf hr.symm
    rw [hz] at this
    exact this
  unfold qX12_pushesOne
  refine gX12_isMourner hI hE ?_
  intro z1 c1 _ _
  refine ⟨fun d => SAME _ (by unfold psA; rw [if_pos (by unfold psOK; omega)]) (by unfold psR; rw [if_neg (by unfold psOK; omega)]), fun d => ?_⟩
  refine sX12_in (p0 := p3) (p2 := (-9)) (p4 := 9) hI ?_
  intro z2 c2 _ _
  refine ⟨fun d2 => SAME _ (by unfold psA; rw [if_pos (by have := c2.2.2 d2; unfold psOK; omega)]) (by unfold psR; rw [if_neg (by have := c2.2.2 d2; unfold psOK; omega)]), fun d2 => ?_⟩
  have c9 := c2.2.1 (by rcases c2.1 with q | q <;> omega)
  refine ⟨fun d3 => ?_, fun d3 => SAME _ (by unfold psA; rw [if_pos (by unfold psOK; omega)]) (by unfold psR; rw [if_neg (by unfold psOK; omega)])⟩
  have ok : psOK E p2 p3 := ⟨by omega, by omega, d3⟩
  refine gX12_isEnded (p1 := p2) ⟨by omega, by omega⟩ ?_
  intro z3 c3 _ _
  refine ⟨fun d4 => ?_, fun d4 => SAME _ (by unfold psA; rw [if_neg (fun q => q ok), if_pos (by omega)]) (by unfold psR; rw [if_neg (by omega)])⟩
  refine gX12_gate hI hE ?_
  intro _
  refine ⟨by omega, by omega, ?_⟩
  intro x11 e11 _
  have b11 : -1 ≤ x11 ∧ x11 ≤ 29 := by rw [e11]; exact ((bm_n hk1).mp (hI.bx _ _)).2.1 ⟨by omega, by omega⟩
  refine ⟨⟨by omega, by omega⟩, ⟨by omega, by omega⟩, ?_⟩
  intro x14 e14 _ x15 e15 _ M16 h16 x17 e17 _
  have v15 : x15 = psV E (M k1) p2 p3 := by rw [e15, e14, e11]; rfl
  have i16 : IM b M16 := by rw [h16]; exact hI.up (isN.nu hk1 _) ((bm_n hk1).mpr ⟨by omega, by omega, by omega, by omega⟩)
  have H := hQ M16 i16 (by rw [h16]; exact FrJ.rf.up rfl) (by rw [h16, up2_up, v15]; unfold psR; rw [if_pos ⟨ok, by omega⟩])
  unfold psA at H
  rw [if_neg (fun q => q ok), if_neg (by omega), ← v15] at H
  rw [e17, h16, up2_s]
  rw [h16] at H
  exact H
theorem gX12_swapsTwo {p1 p2 b : Int} {M E : Mem} {Q : Int → Mem → Prop} (hI : IM b M) (hE : CE E M) (hQ : ∀ M' : Mem, IM b M' → FrJ (fun k _ => k = 5) M M' → M' 5 = swR E (M 5) p1 p2 → Q (swA E (M 5) p1 p2) M') : qX12_swapsTwo p1 p2 M Q := by
  have bo := (hE.h hI).2
  have e4 : M 1 4 = E 1 4 := hE 1 4 cE14
  have SAME : ∀ z, swA E (M 5) p1 p2 = z → swR E (M 5) p1 p2 = M 5 → Q z M := by
    intro z hz hr
    have := hQ M hI FrJ.rf hr.symm
    rw [hz] at this
    exact this
  unfold qX12_swapsTwo
  refine gX12_isHearse hI hE ?_
  intro z1 c1 _ _
  refine ⟨fun d => SAME _ (by unfold swA; rw [if_pos (by unfold swOK; omega)]) (by unfold swR; rw [if_neg (by unfold swOK; omega)]), fun d => ?_⟩
  refine gX12_isHearse hI hE ?_
  intro z2 c2 _ _
  refine ⟨fun d2 => SAME _ (by unfold swA; rw [if_pos (by unfold swOK; omega)]) (by unfold swR; rw [if_neg (by unfold swOK; omega)]), fun d2 => ?_⟩
  refine ⟨fun d3 => ?_, fun d3 => SAME _ (by unfold swA; rw [if_pos (by unfold swOK; omega)]) (by unfold swR; rw [if_neg (by unfold swOK; omega)])⟩
  have ok : swOK E p1 p2 := ⟨by omega, by omega, d3⟩
  refine gX12_isOn (p1 := p1) ⟨by omega, by omega⟩ ?_
  intro z3 c3 _ _
  refine ⟨fun d4 => SAME _ (by unfold swA; rw [if_neg (fun q => q ok), if_pos (by omega)]) (by unfold swR; rw [if_neg (by omega)]), fun d4 => ?_⟩
  refine gX12_isOn (p1 := p2) ⟨by omega, by omega⟩ ?_
  intro z4 c4 _ _
  refine ⟨fun d5 => ?_, fun d5 => SAME _ (by unfold swA; rw [if_neg (fun q => q ok), if_pos (by omega)]) (by unfold swR; rw [if_neg (by omega)])⟩
  refine ⟨by omega, by omega, ?_⟩
  intro x12 e12 _
  refine ⟨by omega, by omega, ?_⟩
  intro x15 e15 _ M16 h16 M17 h17 x18 e18 _ x19 e19 _
  have b12 : -1 ≤ x12 ∧ x12 ≤ 29 := by rw [e12]; exact ((bm_n (Or.inl rfl)).mp (hI.bx _ _)).1 ⟨by omega, by omega⟩
  have b15 : -1 ≤ x15 ∧ x15 ≤ 29 := by rw [e15]; exact ((bm_n (Or.inl rfl)).mp (hI.bx _ _)).1 ⟨by omega, by omega⟩
  have i16 : IM b M16 := by rw [h16]; exact hI.up (isN.nu (Or.inl rfl) _) ((bm_n (Or.inl rfl)).mpr ⟨by omega, by omega, by omega, by omega⟩)
  have i17 : IM b M17 := by rw [h17]; exact i16.up (isN.nu (Or.inl rfl) _) ((bm_n (Or.inl rfl)).mpr ⟨by omega, by omega, by omega, by omega⟩)
  have f19 : x19 = x12 := by rw [e19, h17, up2_s]
  have f18 : x18 = x15 := by rw [e18, h17, up2_j (by omega), h16, up2_s]
  refine ⟨⟨by omega, by omega⟩, ?_⟩
  intro x21 p21 n21
  have f21 : x21 = ab (M 5 p2 - M 5 p1) := by
    have := ab_e p21 n21
    rw [this, f18, f19, e15, e12]
  have bb := ab_b (M 5 p2 - M 5 p1)
  refine ⟨⟨by omega, by omega⟩, ?_⟩
  have H := hQ M17 i17 (by rw [h17, h16]; exact (FrJ.rf.up rfl).up rfl) (by rw [h17, up2_up, h16, up2_up, e15, e12]; unfold swR; rw [if_pos ⟨ok, by omega, by omega⟩])
  unfold swA at H
  rw [if_neg (fun q => q ok), if_neg (by omega), ← f21] at H
  exact H
theorem gX12_goesOn_L12 {k1 : Nat} {p2 b : Int} {X31 Q : Mem → Prop} {M0 : Mem} (hX : ∀ M' : Mem, IM b M' → FrJ (fun k j => (k = 1 ∧ (j = 30 ∨ j = 31)) ∨ k = 16 ∨ k = 17) M0 M' → X31 M') : ∀ (n : Nat) (v3 : Int) (M : Mem), IM b M → FrJ (fun k j => (k = 1 ∧ (j = 30 ∨ j = 31)) ∨ k = 16 ∨ k = 17) M0 M → (0 ≤ v3 ∧ v3 ≤ 30) → 30 - v3 < (n : Int) → qX12_goesOn_L12 k1 p2 X31 Q n v3 M := by
  intro n
  induction n with
  | zero => intro v3 M hI hF hv hm; exact absurd hm (by omega)
  | succ n ih =>
    intro v3 M hI hF hv hm
    rw [qX12_goesOn_L12]
    refine ⟨⟨by omega, by omega⟩, ⟨fun c => hX _ hI hF, fun c => ⟨by omega, by omega, ?_⟩⟩⟩
    intro M7 h7
    exact ih _ _ (by rw [h7]; exact hI.up (by omega) (by simp [BM])) (by rw [h7]; exact hF.up (by omega)) (by omega) (by omega)
theorem gX12_goesOn_L33 {k1 : Nat} {p2 b : Int} {X52 Q : Mem → Prop} {M0 : Mem} (hX : ∀ M' : Mem, IM b M' → FrJ (fun k j => (k = 1 ∧ (j = 30 ∨ j = 31)) ∨ k = 16 ∨ k = 17) M0 M' → X52 M') : ∀ (n : Nat) (v3 : Int) (M : Mem), IM b M → FrJ (fun k j => (k = 1 ∧ (j = 30 ∨ j = 31)) ∨ k = 16 ∨ k = 17) M0 M → (0 ≤ v3 ∧ v3 ≤ 8) → 8 - v3 < (n : Int) → qX12_goesOn_L33 k1 p2 X52 Q n v3 M := by
  intro n
  induction n with
  | zero => intro v3 M hI hF hv hm; exact absurd hm (by omega)
  | succ n ih =>
    intro v3 M hI hF hv hm
    rw [qX12_goesOn_L33]
    refine ⟨⟨by omega, by omega⟩, ⟨fun c => hX _ hI hF, fun c => ⟨by omega, by omega, ?_⟩⟩⟩
    intro M13 h13
    exact ih _ _ (by rw [h13]; exact hI.up (by omega) (by simp [BM])) (by rw [h13]; exact hF.up (by omega)) (by omega) (by omega)
theorem gX12_goesOn_L54 {k1 : Nat} {p2 b : Int} {E : Mem} {r : Int → Int} {Q : Mem → Prop} (hk1 : isN k1) (hb : b + 200 ≤ 2000000000) (hp : p2 ≤ 200) (hQ : ∀ M' : Mem, IM (b + 200) M' → CE E M' → M' k1 = itF E p2.toNat r → Q M') : ∀ (n : Nat) (v3 : Int) (M : Mem), IM (b + v3) M → CE E M → M k1 = itF E v3.toNat r → (0 ≤ v3 ∧ (v3 ≤ p2 ∨ v3 = 0)) → 200 - v3 < (n : Int) → qX12_goesOn_L54 k1 p2 Q n v3 M := by
  intro n
  induction n with
  | zero => intro v3 M hI hE hr hv hm; exact absurd hm (by omega)
  | succ n ih =>
    intro v3 M hI hE hr hv hm
    rw [qX12_goesOn_L54]
    refine ⟨⟨by omega, by omega⟩, ⟨fun c => hQ _ (hI.mono (by first | exact Int.le_refl _ | omega)) hE (by rw [hr, show v3.toNat = p2.toNat from by omega]), fun c => ?_⟩⟩
    refine gX12_stepGoes hI hE (by omega) hk1 ?_
    intro M' i' E' k'
    exact ih _ _ (i'.mono (by first | exact Int.le_refl _ | omega)) E' (by rw [k', hr, itF_s hv.1]) (by omega) (by omega)
theorem gX12_goesOn {k1 : Nat} {p2 b : Int} {M E : Mem} {Q : Mem → Prop} (hI : IM b M) (hE : CE E M) (hb : b + 200 ≤ 2000000000) (hk1 : isN k1) (hp : p2 ≤ 200) (hQ : ∀ M' : Mem, IM (b + 200) M' → CE E M' → M' k1 = itF E p2.toNat (M k1) → Q M') : qX12_goesOn k1 p2 M Q := by
  have hk : k1 = 5 ∨ k1 = 6 := hk1
  unfold qX12_goesOn
  intro M1 h1 M2 h2
  have i1 : IM b M1 := by rw [h1]; exact hI.up (by omega) (by simp [BM])
  have i2 : IM b M2 := by rw [h2]; exact i1.up (by omega) (by simp [BM])
  have F2 : FrJ (fun k j => (k = 1 ∧ (j = 30 ∨ j = 31)) ∨ k = 16 ∨ k = 17) M M2 := by rw [h2, h1]; exact (FrJ.rf.up (by omega)).up (by omega)
  refine ⟨31, gX12_goesOn_L12 (b := b) (M0 := M) ?_ _ _ _ i2 F2 (by omega) (by omega)⟩
  intro M3 i3 F3
  refine ⟨9, gX12_goesOn_L33 (b := b) (M0 := M) ?_ _ _ _ i3 F3 (by omega) (by omega)⟩
  intro M4 i4 F4
  have E4 : CE E M4 := hE.fr F4 (by intro k j h; rcases h with h | h | h | h | h <;> omega)
  have K4 : M4 k1 = M k1 := funext fun j => F4 k1 j (by omega)
  exact ⟨201, gX12_goesOn_L54 (b := b) (r := M k1) hk1 hb hp hQ _ _ _ (i4.mono (by first | exact Int.le_refl _ | omega)) E4 (by rw [K4]; rfl) (by omega) (by omega)⟩
-- the class
theorem gX6_isMourner {k0 : Nat} {p1 : Int} {M E : Mem} {r : Int → Int} {Q : Int → Mem → Prop} (hC : SC E M k0 r) (hQ : ∀ z : Int, (z = 1 ∧ (0 ≤ p1 ∧ p1 < E 1 5) ∨ z = 0 ∧ ¬ (0 ≤ p1 ∧ p1 < E 1 5)) → Q z M) : qX6_isMourner k0 p1 M Q := by
  have h7 : M k0 7 = E 1 5 := hC.2.1
  unfold qX6_isMourner
  refine ⟨fun c => hQ _ (Or.inr ⟨rfl, by omega⟩), fun c => ?_⟩
  intro x2 e2 _
  exact ⟨fun c2 => hQ _ (Or.inr ⟨rfl, by omega⟩), fun c2 => hQ _ (Or.inl ⟨rfl, by omega, by omega⟩)⟩
theorem gX6_isHearse {k0 : Nat} {p1 : Int} {M E : Mem} {r : Int → Int} {Q : Int → Mem → Prop} (hC : SC E M k0 r) (hQ : ∀ z : Int, (z = 1 ∧ (0 ≤ p1 ∧ p1 < E 1 4) ∨ z = 0 ∧ ¬ (0 ≤ p1 ∧ p1 < E 1 4)) → Q z M) : qX6_isHearse k0 p1 M Q := by
  have h6 : M k0 6 = E 1 4 := hC.1
  unfold qX6_isHearse
  refine ⟨fun c => hQ _ (Or.inr ⟨rfl, by omega⟩), fun c => ?_⟩
  intro x2 e2 _
  exact ⟨fun c2 => hQ _ (Or.inr ⟨rfl, by omega⟩), fun c2 => hQ _ (Or.inl ⟨rfl, by omega, by omega⟩)⟩
theorem gX6_turn {k0 : Nat} {p1 : Int} {M E : Mem} {r : Int → Int} {Q : Int → Mem → Prop} (hI : IX M) (hk0 : isS k0) (hS : STR E M) (hC : SC E M k0 r) (hW : WR E r) (hQ : ∀ M' : Mem, IX M' → Ks (fun k _ => k = k0 + 5) M M' → SC E M' k0 (tnR E r p1) → Q (tnA E r p1) M') : qX6_turn k0 p1 M Q := by
  have b4 := hS.2.2.2.2.2.2.1
  have b5 := hS.2.2.2.2.2.2.2.1
  have SAME : ∀ z, tnA E r p1 = z → tnR E r p1 = r → Q z M := by
    intro z hz hr
    have := hQ M hI Ks.rf (by rw [hr]; exact hC)
    rw [hz] at this
    exact this
  unfold qX6_turn
  refine gX6_isMourner hC ?_
  intro z1 c1 _ _
  refine ⟨fun d => ?_, fun d => SAME _ (by unfold tnA; rw [if_pos (by omega)]) (by unfold tnR; rw [if_neg (by omega)])⟩
  have c : 0 ≤ p1 ∧ p1 < E 1 5 := by omega
  have w := hW.2.2.1 p1 c.1 c.2
  have o := hS.2.2.2.2.2.2.2.2 p1 c.1 c.2
  have wo := hW.2.1 (E 3 p1) o.1 o.2
  have g6 : M (k0 + 6) p1 = r (29 + p1) := hC.2.2.2.2.2.2.2.2.1 p1 (by omega) (by omega)
  refine gX6_hasEnded (p1 := p1) ⟨by omega, by omega⟩ ?_
  intro z2 c2 _ _
  rw [g6] at c2
  refine ⟨fun d2 => ?_, fun d2 => SAME _ (by unfold tnA; rw [if_neg (by omega), if_pos (by omega)]) (by unfold tnR; rw [if_neg (by omega)])⟩
  refine ⟨by omega, by omega, ?_⟩
  intro x7 e7 _ x8 e8 _
  have f7 : x7 = r (21 + p1) := by rw [e7]; exact hC.2.2.2.2.2.2.2.1 p1 (by omega) (by omega)
  have f8 : x8 = E 3 p1 := by rw [e8]; exact hC.2.2.2.2.2.2.1 p1 (by omega) (by omega)
  have g2 : M (k0 + 2) x8 = r (6 + E 3 p1) := by rw [f8]; exact hC.2.2.2.1 _ (by omega) (by omega)
  refine gX6_hasArrived (p1 := x8) ⟨by omega, by omega⟩ ?_
  intro z3 c3 _ _
  rw [g2] at c3
  refine ⟨fun d3 => SAME _ (by unfold tnA; rw [if_neg (by omega), if_neg (by omega), if_pos (by omega)]) (by unfold tnR; rw [if_neg (by omega)]), fun d3 => ?_⟩
  intro x11 e11 _
  have f11 : x11 = E 3 p1 := by rw [e11]; exact hC.2.2.2.2.2.2.1 p1 (by omega) (by omega)
  refine ⟨fun d4 => ?_, fun d4 => SAME _ (by unfold tnA; rw [if_neg (by omega), if_neg (by omega), if_pos (by omega)]) (by unfold tnR; rw [if_neg (by omega)])⟩
  intro x13 e13 _ M14 h14
  have f13 : x13 = E 3 p1 := by rw [e13]; exact hC.2.2.2.2.2.2.1 p1 (by omega) (by omega)
  have i14 : IX M14 := by rw [h14]; exact hI.up (hk0.nsp 5 (by decide)) ((bx_s5 hk0).mpr ⟨by omega, by omega⟩)
  have H := hQ M14 i14 (by rw [h14]; exact Ks.rf.wr rfl) (by rw [h14, f13]; unfold tnR; rw [if_pos (by omega)]; exact hC.foll (by omega))
  unfold tnA at H
  rw [if_neg (by omega), if_neg (by omega), if_neg (by omega)] at H
  refine ⟨fun d5 => ?_, fun d5 => ?_⟩
  · rw [if_pos (by omega), ← f7] at H
    exact H
  · rw [if_neg (by omega)] at H
    exact H
theorem gX8_putOnStreet {p1 : Int} {M E : Mem} {Q : Int → Mem → Prop} (hI : IX M) (hS : STR E M) (hQ : Q (max 0 (min p1 (eG E - 1))) M) : qX8_putOnStreet p1 M Q := by
  have bg := hS.g
  unfold qX8_putOnStreet
  refine gX8_gate hI hS ?_
  intro _
  refine ⟨⟨by omega, by omega⟩, ?_⟩
  intro x3 e3 _ x4 e4 _
  rw [e4, e3]
  exact hQ
theorem gX6_shove {k0 : Nat} {p1 p2 : Int} {M E : Mem} {r : Int → Int} {Q : Int → Mem → Prop} (hI : IX M) (hk0 : isS k0) (hS : STR E M) (hC : SC E M k0 r) (hW : WR E r) (hQ : ∀ M' : Mem, IX M' → Ks (fun k _ => k = k0 + 3) M M' → SC E M' k0 (psR E r p1 p2) → Q (psA E r p1 p2) M') : qX6_shove k0 p1 p2 M Q := by
  have b5 := hS.2.2.2.2.2.2.2.1
  have bg := hS.g
  have SAME : ∀ z, psA E r p1 p2 = z → psR E r p1 p2 = r → Q z M := by
    intro z hz hr
    have := hQ M hI Ks.rf (by rw [hr]; exact hC)
    rw [hz] at this
    exact this
  have BAD : ¬ psOK E p1 p2 → Q (-1) M := fun q => SAME _ (by unfold psA; rw [if_pos q]) (by unfold psR; rw [if_neg (fun u => q u.1)])
  unfold qX6_shove
  refine gX6_isMourner hC ?_
  intro z1 c1 _ _
  refine ⟨fun d => BAD (by unfold psOK; omega), fun d => ⟨fun d2 => BAD (by unfold psOK; omega), fun d2 => ⟨fun d3 => BAD (by unfold psOK; omega), fun d3 => ⟨fun d4 => ?_, fun d4 => BAD (by unfold psOK; omega)⟩⟩⟩⟩
  have c : 0 ≤ p1 ∧ p1 < E 1 5 := by omega
  have ok : psOK E p1 p2 := ⟨c, by omega, d4⟩
  have w := hW.2.2.1 p1 c.1 c.2
  have g6 : M (k0 + 6) p1 = r (29 + p1) := hC.2.2.2.2.2.2.2.2.1 p1 (by omega) (by omega)
  refine gX6_hasEnded (p1 := p1) ⟨by omega, by omega⟩ ?_
  intro z2 c2 _ _
  rw [g6] at c2
  refine ⟨fun d5 => ?_, fun d5 => SAME _ (by unfold psA; rw [if_neg (fun q => q ok), if_pos (by omega)]) (by unfold psR; rw [if_neg (by omega)])⟩
  refine ⟨by omega, by omega, ?_⟩
  intro x10 e10 _
  have f10 : x10 = r (13 + p1) := by rw [e10]; exact hC.2.2.2.2.2.1 p1 (by omega) (by omega)
  refine ⟨⟨by omega, by omega⟩, ?_⟩
  refine gX8_putOnStreet hI hS ?_
  intro _ M13 h13 x14 e14 _
  have v : max 0 (min (x10 + p2) (eG E - 1)) = psV E r p1 p2 := by
    unfold psV
    rw [f10, Int.min_comm]
  rw [v] at h13
  have bv : 0 ≤ psV E r p1 p2 ∧ psV E r p1 p2 < eG E := by unfold psV; omega
  have i13 : IX M13 := by rw [h13]; exact hI.up (hk0.nsp 3 (by decide)) ((bx_s3 hk0).mpr ⟨by omega, by omega⟩)
  have H := hQ M13 i13 (by rw [h13]; exact Ks.rf.wr rfl) (by rw [h13]; unfold psR; rw [if_pos ⟨ok, by omega⟩]; exact hC.place (by omega))
  unfold psA at H
  rw [if_neg (fun q => q ok), if_neg (by omega)] at H
  rw [e14, h13, up2_s]
  rw [h13] at H
  exact H
theorem gX6_exchange {k0 : Nat} {p1 p2 : Int} {M E : Mem} {r : Int → Int} {Q : Int → Mem → Prop} (hI : IX M) (hk0 : isS k0) (hS : STR E M) (hC : SC E M k0 r) (hW : WR E r) (hQ : ∀ M' : Mem, IX M' → Ks (fun k _ => k = k0 + 1) M M' → SC E M' k0 (swR E r p1 p2) → Q (swA E r p1 p2) M') : qX6_exchange k0 p1 p2 M Q := by
  have b4 := hS.2.2.2.2.2.2.1
  have bg := hS.g
  have SAME : ∀ z, swA E r p1 p2 = z → swR E r p1 p2 = r → Q z M := by
    intro z hz hr
    have := hQ M hI Ks.rf (by rw [hr]; exact hC)
    rw [hz] at this
    exact this
  have BAD : ¬ swOK E p1 p2 → Q (-1) M := fun q => SAME _ (by unfold swA; rw [if_pos q]) (by unfold swR; rw [if_neg (fun u => q u.1)])
  unfold qX6_exchange
  refine gX6_isHearse hC ?_
  intro z1 c1 _ _
  refine ⟨fun d => BAD (by unfold swOK; omega), fun d => ?_⟩
  refine gX6_isHearse hC ?_
  intro z2 c2 _ _
  refine ⟨fun d2 => BAD (by unfold swOK; omega), fun d2 => ⟨fun d3 => ?_, fun d3 => BAD (by unfold swOK; omega)⟩⟩
  have ok : swOK E p1 p2 := ⟨by omega, by omega, d3⟩
  have ca := ok.1
  have cb := ok.2.1
  have wa := hW.2.1 p1 ca.1 ca.2
  have wb := hW.2.1 p2 cb.1 cb.2
  have ga : M (k0 + 2) p1 = r (6 + p1) := hC.2.2.2.1 p1 (by omega) (by omega)
  have gb : M (k0 + 2) p2 = r (6 + p2) := hC.2.2.2.1 p2 (by omega) (by omega)
  refine gX6_hasArrived (p1 := p1) ⟨by omega, by omega⟩ ?_
  intro z3 c3 _ _
  rw [ga] at c3
  refine ⟨fun d4 => SAME _ (by unfold swA; rw [if_neg (fun q => q ok), if_pos (by omega)]) (by unfold swR; rw [if_neg (by omega)]), fun d4 => ?_⟩
  refine gX6_hasArrived (p1 := p2) ⟨by omega, by omega⟩ ?_
  intro z4 c4 _ _
  rw [gb] at c4
  refine ⟨fun d5 => ?_, fun d5 => SAME _ (by unfold swA; rw [if_neg (fun q => q ok), if_pos (by omega)]) (by unfold swR; rw [if_neg (by omega)])⟩
  refine ⟨by omega, by omega, ?_⟩
  intro x12 e12 _
  refine ⟨by omega, by omega, ?_⟩
  intro x15 e15 _ M16 h16 M17 h17 x18 e18 _ x19 e19 _
  have f12 : x12 = r p1 := by rw [e12]; exact hC.2.2.1 p1 (by omega) (by omega)
  have f15 : x15 = r p2 := by rw [e15]; exact hC.2.2.1 p2 (by omega) (by omega)
  have i16 : IX M16 := by rw [h16]; exact hI.up (hk0.nsp 1 (by decide)) ((bx_s1 hk0).mpr ⟨by omega, by omega⟩)
  have i17 : IX M17 := by rw [h17]; exact i16.up (hk0.nsp 1 (by decide)) ((bx_s1 hk0).mpr ⟨by omega, by omega⟩)
  have f19 : x19 = r p1 := by rw [e19, h17, up2_s, f12]
  have f18 : x18 = r p2 := by rw [e18, h17, up2_j (by omega), h16, up2_s, f15]
  refine ⟨⟨by omega, by omega⟩, ?_⟩
  intro x21 p21 n21
  have f21 : x21 = ab (r p2 - r p1) := by
    have := ab_e p21 n21
    rw [this, f18, f19]
  have bb := ab_b (r p2 - r p1)
  refine ⟨⟨by omega, by omega⟩, ?_⟩
  have H := hQ M17 i17 (by rw [h17, h16]; exact (Ks.rf.wr rfl).wr rfl) (by
    rw [h17, h16, f12, f15]
    unfold swR
    rw [if_pos ⟨ok, by omega, by omega⟩]
    exact (hC.cell (by omega)).cell (by omega))
  unfold swA at H
  rw [if_neg (fun q => q ok), if_neg (by omega), ← f21] at H
  exact H
theorem gX10_walk_L7 {k1 k2 : Nat} {p3 : Int} {Q : Mem → Prop} {M0 E : Mem} {r : Int → Int} (hk1 : isS k1) (hk2 : isL k2) (hS : STR E M0) (hL : LAW E M0 k2) (hw : WFC (E 11) (E 1 24)) (h37 : r 37 ≤ 1999999000) (hp : p3 ≤ 200) (hQ : ∀ M' : Mem, IX M' → Ks (kAd k1 k2) M0 M' → SC E M' k1 (itF E p3.toNat r) → WR E (itF E p3.toNat r) → Q M') : ∀ (n : Nat) (v4 : Int) (M : Mem), IX M → Ks (kAd k1 k2) M0 M → SC E M k1 (itF E v4.toNat r) → WR E (itF E v4.toNat r) → (0 ≤ v4 ∧ (v4 ≤ p3 ∨ v4 = 0)) → 200 - v4 < (n : Int) → qX10_walk_L7 k1 k2 p3 Q n v4 M := by
  intro n
  induction n with
  | zero => intro v4 M hI hK hC hW hv hm; exact absurd hm (by omega)
  | succ n ih =>
    intro v4 M hI hK hC hW hv hm
    have el : k2 = 187 ∨ k2 = 192 := hk2
    have es : 0 < k1 ∧ k1 < 155 ∧ (k1 - 1) % 7 = 0 := hk1
    rw [qX10_walk_L7]
    refine ⟨⟨by omega, by omega⟩, ⟨fun c => ?_, fun c => ?_⟩⟩
    · rw [show v4.toNat = p3.toNat from by omega] at hC hW
      exact hQ _ hI hK hC hW
    have S1 : STR E M := hS.fr (hK 158 1 (by unfold kAd; omega)) (hK 158 2 (by unfold kAd; omega)) (hK 158 3 (by unfold kAd; omega)) (fun j => hK 159 j (by unfold kAd; omega))
    have L1 : LAW E M k2 := hL.fr (hK k2 4 (by unfold kAd; omega)) (hK k2 5 (by unfold kAd; omega)) (fun j => hK _ j (by unfold kAd; omega)) (fun j => hK _ j (by unfold kAd; omega))
    have q37 := itF_37 (r := r) hS.eb v4.toNat
    refine gX10_advance hI hk1 hk2 S1 L1 hw hC hW (by omega) ?_
    intro M' i' k' c' w' _
    rw [← itF_s hv.1] at c' w'
    exact ih _ _ i' (hK.tr k') c' w' (by omega) (by omega)
theorem gX10_walk {k1 k2 : Nat} {p3 : Int} {Q : Mem → Prop} {M E : Mem} {r : Int → Int} (hI : IX M) (hk1 : isS k1) (hk2 : isL k2) (hS : STR E M) (hL : LAW E M k2) (hw : WFC (E 11) (E 1 24)) (hC : SC E M k1 r) (hW : WR E r) (h37 : r 37 ≤ 1999999000) (hp : p3 ≤ 200) (hQ : ∀ M' : Mem, IX M' → Ks (kAd k1 k2) M M' → SC E M' k1 (itF E p3.toNat r) → WR E (itF E p3.toNat r) → Q M') : qX10_walk k1 k2 p3 M Q := by
  have el : k2 = 187 ∨ k2 = 192 := hk2
  have es : 0 < k1 ∧ k1 < 155 ∧ (k1 - 1) % 7 = 0 := hk1
  unfold qX10_walk
  refine fmX10_forgetTallies (sX10_forgetTallies hI (Q := fun M' => IX M') (fun _ h => h)) ?_
  intro M1 k1' i1
  have K1 : Ks (kAd k1 k2) M M1 := k1'.mono (by intro k j h; unfold kAd; omega)
  have S1 : STR E M1 := hS.fr (K1 158 1 (by unfold kAd; omega)) (K1 158 2 (by unfold kAd; omega)) (K1 158 3 (by unfold kAd; omega)) (fun j => K1 159 j (by unfold kAd; omega))
  have L1 : LAW E M1 k2 := hL.fr (K1 k2 4 (by unfold kAd; omega)) (K1 k2 5 (by unfold kAd; omega)) (fun j => K1 _ j (by unfold kAd; omega)) (fun j => K1 _ j (by unfold kAd; omega))
  have C1 : SC E M1 k1 r := hC.fr (fun i j hi => k1' _ j (by omega))
  refine ⟨201, gX10_walk_L7 (M0 := M1) (r := r) hk1 hk2 S1 L1 hw h37 hp ?_ _ _ _ i1 Ks.rf C1 hW (by omega) (by omega)⟩
  intro M' i' k' c' w'
  exact hQ _ i' (K1.tr k') c' w'
end
section
/-! CALLS that change the state, by acts -/
def CACT (E M M' : Mem) (r r' : Int → Int) : Prop := (∀ (k : Nat) (j : Int), stX k j → ¬ (1 ≤ k ∧ k ≤ 7) → ¬ kHi k j → M' k j = M k j) ∧ SC E M' 1 r' ∧ ∃ Mb : Mem, (∀ (k : Nat) (j : Int), kHi k j → Mb k j = M k j) ∧ SC E Mb 22 r ∧ CADD Mb M' 22
def CNOP (E M M' : Mem) (r : Int → Int) : Prop := (∀ (k : Nat) (j : Int), stX k j → ¬ (1 ≤ k ∧ k ≤ 7) → M' k j = M k j) ∧ SC E M' 1 r
def RACT (M M' : Mem) (r' : Int → Int) : Prop := (∀ (k : Nat) (j : Int), stM k j → k ≠ 5 → ¬ kHm k j → M' k j = M k j) ∧ M' 5 = r' ∧ RADD M M'
def RNOP (M M' : Mem) : Prop := (∀ (k : Nat) (j : Int), stM k j → k ≠ 5 → k ≠ 15 → M' k j = M k j) ∧ M' 5 = M 5 ∧ ∀ j, 0 ≤ j → j < 38 * M 1 28 → M' 15 j = M 15 j
theorem STA.act {E MX MM MX' MM' : Mem} {r' : Int → Int} (h : STA E MX MM) (hE : EBx E) (hI : IX MX) (hx : CACT E MX MX' (MM 5) r') (hm : RACT MM MM' r') (hW : WR E r') : STA E MX' MM' := by
  obtain ⟨a, b, c, d, e, f⟩ := h
  obtain ⟨x1, x2, Mb, x3, x4, x5⟩ := hx
  obtain ⟨m1, m2, m3⟩ := hm
  have bb := bx_c163_1.mp (hI.bx 163 1)
  refine ⟨a.fr (x1 _ _ (by omega) (by omega) (by omega)) (x1 _ _ (by omega) (by omega) (by omega)) (x1 _ _ (by omega) (by omega) (by omega)) (fun j => x1 159 j (by omega) (by omega) (by omega)), b.kx hI (x1 _ _ (by omega) (by omega) (by omega)) (fun k j q => x1 k j (by omega) (by omega) (by omega)), by rw [m2]; exact x2, by rw [m2]; exact hW, ?_, f.fr (fun k j q => x1 k j (by omega) (by omega) (by omega)) (fun k j q => m1 k j (by omega) (by omega) (by omega))⟩
  have e' : HIS E Mb MM := e.fr hE x3 rfl (fun _ _ _ => rfl) bb
  have b1 : 0 ≤ Mb 163 1 ∧ Mb 163 1 ≤ 14 := by rw [x3 163 1 (by omega)]; exact bb
  exact e'.add hE b1 x5 m3 x4 d
theorem STA.nop {E MX MM MX' MM' : Mem} (h : STA E MX MM) (hE : EBx E) (hI : IX MX) (hx : CNOP E MX MX' (MM 5)) (hm : RNOP MM MM') : STA E MX' MM' := by
  obtain ⟨a, b, c, d, e, f⟩ := h
  obtain ⟨x1, x2⟩ := hx
  obtain ⟨m1, m2, m3⟩ := hm
  refine ⟨a.fr (x1 _ _ (by omega) (by omega)) (x1 _ _ (by omega) (by omega)) (x1 _ _ (by omega) (by omega)) (fun j => x1 159 j (by omega) (by omega)), b.kx hI (x1 _ _ (by omega) (by omega)) (fun k j q => x1 k j (by omega) (by omega)), by rw [m2]; exact x2, by rw [m2]; exact d, ?_, f.fr (fun k j q => x1 k j (by omega) (by omega)) (fun k j q => m1 k j (by omega) (by omega) (by omega))⟩
  exact e.fr hE (fun k j q => x1 k j (by omega) (by omega)) (m1 1 28 (by omega) (by decide) (by decide)) m3 (bx_c163_1.mp (hI.bx 163 1))
theorem gX11_undoable {p1 : Int} {M : Mem} {Q : Int → Mem → Prop} (hI : IX M) (hQ1 : isDn p1 → ∀ M' : Mem, IX M' → Ks kHi M M' → CADD M M' 22 → Q p1 M') (hQ2 : ¬ isDn p1 → Q p1 M) : qX11_undoable p1 M Q := by
  unfold qX11_undoable qX11_isDone
  refine ⟨fun c => ?_, fun c => ⟨fun c2 => ?_, fun c2 => ?_⟩⟩
  · intro _ _
    refine ⟨fun q => absurd q (by decide), fun _ => ?_⟩
    exact gX1_add hI (show isS 22 by decide) (by decide) (hQ1 (Or.inl c))
  · intro _ _
    refine ⟨fun _ => hQ2 (fun u => ?_), fun q => absurd rfl q⟩
    rcases u with u | u
    · exact c u
    · exact c2 u
  · intro _ _
    refine ⟨fun q => absurd q (by decide), fun _ => ?_⟩
    exact gX1_add hI (show isS 22 by decide) (by decide) (hQ1 (Or.inr c2))
theorem gX11_act {z : Int} {M M1 M2 E : Mem} {r r' : Int → Int} {Q : Int → Mem → Prop} (i2 : IX M2) (k1 : Ks (fun k _ => 22 ≤ k ∧ k ≤ 28) M M1) (s1 : SC E M1 22 r) (k2 : ∀ (k : Nat) (j : Int), stX k j → ¬ (1 ≤ k ∧ k ≤ 7) → M2 k j = M1 k j) (k22 : ∀ (k : Nat) (j : Int), 22 ≤ k → k ≤ 28 → M2 k j = M1 k j) (c2 : SC E M2 1 r') (nd : ¬ isDn z → r' = r) (hQ : ∀ M' : Mem, IX M' → (isDn z → CACT E M M' r r') → (¬ isDn z → CNOP E M M' r) → Q z M') : qX11_undoable z M2 Q := by
  refine gX11_undoable i2 ?_ ?_
  · intro dn M3 i3 k3 a3
    refine hQ M3 i3 (fun _ => ⟨fun k j h h2 h3 => ?_, ?_, M2, ?_, ?_, a3⟩) (fun n => absurd dn n)
    · rw [k3 k j h3, k2 k j h h2, k1 k j (by omega)]
    · exact c2.fr (fun i j hi => k3 _ j (by omega))
    · intro k j h
      rw [k2 k j (by omega) (by omega), k1 k j (by omega)]
    · exact s1.fr (fun i j hi => k22 _ j (by omega) (by omega))
  · intro n
    refine hQ M2 i2 (fun d => absurd d n) (fun _ => ⟨fun k j h h2 => ?_, ?_⟩)
    · rw [k2 k j h h2, k1 k j (by omega)]
    · rw [← nd n]
      exact c2
theorem gX12_addsR {z b : Int} {M0 M : Mem} {r' : Int → Int} {Q : Int → Mem → Prop} (hI : IM b M) (hk : ∀ (k : Nat) (j : Int), stM k j → k ≠ 5 → k ≠ 15 → M k j = M0 k j) (h15 : ∀ j, 0 ≤ j → j < 38 * M0 1 28 → M 15 j = M0 15 j) (hp : ∀ j, 0 ≤ j → j < 38 → M 15 (38 * M0 1 28 + j) = M0 5 j) (h5 : M 5 = r') (hQ : ∀ M' : Mem, IM b M' → RACT M0 M' r' → Q z M') : qX12_adds z M Q := by
  refine gX12_adds (M0 := M0) hI (hk 1 28 (by omega) (by decide) (by decide)) h15 hp ?_
  intro M' i' f' a'
  refine hQ M' i' ⟨fun k j h n5 n28 => ?_, ?_, a'⟩
  · rw [f' k j n28]
    exact hk k j h n5 (fun e => n28 (Or.inl e))
  · rw [← h5]
    exact funext fun j => f' 5 j (by omega)
theorem gX12_counted {z b : Int} {M0 M : Mem} {r' : Int → Int} {Q : Int → Mem → Prop} (hI : IM b M) (hk : ∀ (k : Nat) (j : Int), stM k j → k ≠ 5 → k ≠ 15 → M k j = M0 k j) (h15 : ∀ j, 0 ≤ j → j < 38 * M0 1 28 → M 15 j = M0 15 j) (hp : ∀ j, 0 ≤ j → j < 38 → M 15 (38 * M0 1 28 + j) = M0 5 j) (h5 : M 5 = r') (nd : ¬ isDn z → r' = M0 5) (hQ : ∀ M' : Mem, IM b M' → (isDn z → RACT M0 M' r') → (¬ isDn z → RNOP M0 M') → Q z M') : qX12_counted z M Q := by
  unfold qX12_counted qX12_counted_J14
  refine ⟨fun c => ?_, fun c => ⟨fun c2 => ?_, fun c2 => ?_⟩⟩
  · exact gX12_addsR hI hk h15 hp h5 (fun M' i' a' _ => hQ M' i' (fun _ => a') (fun n => absurd (Or.inl c) n))
  · exact gX12_addsR hI hk h15 hp h5 (fun M' i' a' _ => hQ M' i' (fun _ => a') (fun n => absurd (Or.inr c2) n))
  · have n : ¬ isDn z := fun u => by
      rcases u with u | u
      · exact c u
      · exact c2 u
    exact hQ M hI (fun d => absurd d n) (fun _ => ⟨hk, h5.trans (nd n), h15⟩)
/-- behind putsBy -/
theorem putsBy_a {b : Int} {M E : Mem} {Q : Mem → Prop} (hI : IM b M) (hE : CE E M) (hQ : ∀ M2 : Mem, IM b M2 → CE E M2 → M2 5 = M 5 → (∀ (k : Nat) (j : Int), stM k j → k ≠ 15 → M2 k j = M k j) → (∀ j, 0 ≤ j → j < 38 * M 1 28 → M2 15 j = M 15 j) → (∀ j, 0 ≤ j → j < 38 → M2 15 (38 * M 1 28 + j) = M 5 j) → Q M2) : qX12_putsBy (up2 M 1 0 0) Q := by
  have i1 : IM b (up2 M 1 0 0) := hI.up (by omega) (by simp [BM])
  have F1 : FrJ (fun k j => k = 1 ∧ j = 0) M (up2 M 1 0 0) := FrJ.rf.up ⟨rfl, rfl⟩
  have g28 : up2 M 1 0 0 1 28 = M 1 28 := F1 1 28 (by omega)
  refine gX12_putsBy i1 ?_
  intro M2 i2 f2 p2
  rw [g28] at f2 p2
  have st : ∀ (k : Nat) (j : Int), stM k j → k ≠ 15 → M2 k j = M k j := by
    intro k j h n
    rw [f2 k j (by omega), F1 k j (by omega)]
  refine hQ M2 i2 (fun k j h => ?_) (funext fun j => st 5 j (by omega) (by decide)) st (fun j p q => ?_) (fun j p q => ?_)
  · rw [st k j (Or.inl h) (by omega)]
    exact hE k j h
  · rw [f2 15 j (by omega), F1 15 j (by omega)]
  · rw [p2 j p q, F1 5 j (by omega)]
theorem gX12_turnsTo {p1 b : Int} {M E : Mem} {Q : Int → Mem → Prop} (hI : IM b M) (hE : CE E M) (hQ : ∀ M' : Mem, IM b M' → (isDn (tnA E (M 5) p1) → RACT M M' (tnR E (M 5) p1)) → (¬ isDn (tnA E (M 5) p1) → RNOP M M') → Q (tnA E (M 5) p1) M') : qX12_turnsTo p1 M Q := by
  unfold qX12_turnsTo
  intro M1 h1
  subst h1
  refine putsBy_a hI hE ?_
  intro M2 i2 E2 k5 st s15 sp
  refine gX12_turnsOne i2 E2 (Or.inl rfl) ?_
  intro M3 i3 f3 k3
  rw [k5] at k3 ⊢
  intro _
  refine gX12_counted (M0 := M) (r' := tnR E (M 5) p1) i3 (fun k j h n5 n15 => ?_) (fun j p q => ?_) (fun j p q => ?_) k3 tn_nd (fun M' i' a n _ => hQ M' i' a n)
  · rw [f3 k j (by omega)]; exact st k j h n15
  · rw [f3 15 j (by omega)]; exact s15 j p q
  · rw [f3 15 _ (by omega)]; exact sp j p q
theorem gX12_pushes {p1 p2 b : Int} {M E : Mem} {Q : Int → Mem → Prop} (hI : IM b M) (hE : CE E M) (hQ : ∀ M' : Mem, IM b M' → (isDn (psA E (M 5) p1 p2) → RACT M M' (psR E (M 5) p1 p2)) → (¬ isDn (psA E (M 5) p1 p2) → RNOP M M') → Q (psA E (M 5) p1 p2) M') : qX12_pushes p1 p2 M Q := by
  unfold qX12_pushes
  intro M1 h1
  subst h1
  refine putsBy_a hI hE ?_
  intro M2 i2 E2 k5 st s15 sp
  refine gX12_pushesOne i2 E2 (Or.inl rfl) ?_
  intro M3 i3 f3 k3
  rw [k5] at k3 ⊢
  intro _
  refine gX12_counted (M0 := M) (r' := psR E (M 5) p1 p2) i3 (fun k j h n5 n15 => ?_) (fun j p q => ?_) (fun j p q => ?_) k3 ps_nd (fun M' i' a n _ => hQ M' i' a n)
  · rw [f3 k j (by omega)]; exact st k j h n15
  · rw [f3 15 j (by omega)]; exact s15 j p q
  · rw [f3 15 _ (by omega)]; exact sp j p q
theorem gX12_swaps {p1 p2 b : Int} {M E : Mem} {Q : Int → Mem → Prop} (hI : IM b M) (hE : CE E M) (hQ : ∀ M' : Mem, IM b M' → (isDn (swA E (M 5) p1 p2) → RACT M M' (swR E (M 5) p1 p2)) → (¬ isDn (swA E (M 5) p1 p2) → RNOP M M') → Q (swA E (M 5) p1 p2) M') : qX12_swaps p1 p2 M Q := by
  unfold qX12_swaps
  intro M1 h1
  subst h1
  refine putsBy_a hI hE ?_
  intro M2 i2 E2 k5 st s15 sp
  refine gX12_swapsTwo i2 E2 ?_
  intro M3 i3 f3 k3
  rw [k5] at k3 ⊢
  intro _
  refine gX12_counted (M0 := M) (r' := swR E (M 5) p1 p2) i3 (fun k j h n5 n15 => ?_) (fun j p q => ?_) (fun j p q => ?_) k3 sw_nd (fun M' i' a n _ => hQ M' i' a n)
  · rw [f3 k j (by omega)]; exact st k j h n15
  · rw [f3 15 j (by omega)]; exact s15 j p q
  · rw [f3 15 _ (by omega)]; exact sp j p q
theorem gX12_steps {p1 b : Int} {M E : Mem} {Q : Int → Mem → Prop} (hI : IM b M) (hE : CE E M) (hb : b + 200 ≤ 2000000000) (hQ1 : 0 ≤ p1 ∧ p1 ≤ 60 → ∀ M' : Mem, IM (b + 200) M' → RACT M M' (itF E p1.toNat (M 5)) → Q (itF E p1.toNat (M 5) 12) M') (hQ2 : ¬ (0 ≤ p1 ∧ p1 ≤ 60) → ∀ M' : Mem, IM (b + 200) M' → RNOP M M' → Q (-1) M') : qX12_steps p1 M Q := by
  unfold qX12_steps
  intro M1 h1
  have i1 : IM b M1 := by rw [h1]; exact hI.up (by omega) (by simp [BM])
  refine sX12_in (p0 := p1) (p2 := 0) (p4 := 60) i1 ?_
  intro z hz _ _
  refine ⟨fun c => ?_, fun c => ?_⟩
  · have cp := hz.2.1 (by rcases hz.1 with q | q <;> omega)
    subst h1
    refine putsBy_a hI hE ?_
    intro M2 i2 E2 k5 st s15 sp
    refine fmX12_goesOn (gX12_goesOn (p2 := p1) i2 E2 hb (Or.inl rfl) (by omega) (Q := fun M' => IM (b + 200) M' ∧ M' 5 = itF E p1.toNat (M2 5)) (fun M' a _ c => ⟨a, c⟩)) ?_
    intro M5 f5 ⟨i5, k5'⟩
    rw [k5] at k5'
    intro M6 h6 x7 e7 _
    have i6 : IM (b + 200) M6 := by rw [h6]; exact i5.up (by omega) (bm_c1_1.mpr (by decide))
    have F6 : Ks (fun k j => k = 1 ∧ j = 1) M5 M6 := by rw [h6]; exact Ks.rf.wr ⟨rfl, rfl⟩
    have t6 : M6 1 1 = 0 := by rw [h6, up2_s]
    refine fmX12_enters (sX12_enters (p1 := x7) i6 (by omega) (Q := fun M' => IM (b + 200) M' ∧ M' 1 1 = 1) (fun M' a c => ⟨a, by omega⟩)) ?_
    intro M8 f8 ⟨i8, t8⟩ x9 e9 _
    refine fmX12_enters (sX12_enters (p1 := x9) i8 (by omega) (Q := fun M' => IM (b + 200) M') (fun M' a _ => a)) ?_
    intro M10 f10 i10 x11 e11 _
    have K : ∀ (k : Nat) (j : Int), (stM k j ∨ k = 5 ∨ k = 15) → M10 k j = M5 k j := by
      intro k j h
      rw [f10 k j (by omega), f8 k j (by omega), F6 k j (by omega)]
    have K5 : M10 5 = itF E p1.toNat (M 5) := by rw [← k5']; exact funext fun j => K 5 j (by omega)
    have f11 : x11 = itF E p1.toNat (M 5) 12 := by rw [e11, K5]
    rw [f11]
    refine gX12_addsR (M0 := M) (r' := itF E p1.toNat (M 5)) i10 (fun k j h n5 n15 => ?_) (fun j p q => ?_) (fun j p q => ?_) K5 (fun M' i' a _ => hQ1 cp M' i' a)
    · rw [K k j (Or.inl h), f5 k j (by omega)]; exact st k j h n15
    · rw [K 15 j (by omega), f5 15 j (by omega)]; exact s15 j p q
    · rw [K 15 _ (by omega), f5 15 _ (by omega)]; exact sp j p q
  · have cp := hz.2.2 c
    refine hQ2 (by omega) M1 (i1.mono (by omega)) ⟨fun k j h n5 n15 => ?_, ?_, fun j p q => ?_⟩
    · rw [h1, up2_a]
      by_cases ck : k = 1
      · rw [if_pos ck, if_neg (by omega)]
      · rw [if_neg ck]
    · rw [h1, up2_n (by decide)]
    · rw [h1, up2_n (by decide)]
-- the class
theorem gX11_turnsTo {p1 : Int} {M E : Mem} {r : Int → Int} {Q : Int → Mem → Prop} (hI : IX M) (hS : STR E M) (hC : SC E M 1 r) (hW : WR E r) (hQ : ∀ M' : Mem, IX M' → (isDn (tnA E r p1) → CACT E M M' r (tnR E r p1)) → (¬ isDn (tnA E r p1) → CNOP E M M' r) → Q (tnA E r p1) M') : qX11_turnsTo p1 M Q := by
  unfold qX11_turnsTo
  refine gX6_copyFrom hI (show isS 22 by decide) (show isS 1 by decide) (by decide) ?_
  intro M1 i1 k1 s1 _
  have S1 : STR E M1 := hS.fr (k1 _ _ (by omega)) (k1 _ _ (by omega)) (k1 _ _ (by omega)) (fun j => k1 159 j (by omega))
  have C1 : SC E M1 1 r := hC.fr (fun i j hi => k1 _ j (by omega))
  refine gX6_turn i1 (show isS 1 by decide) S1 C1 hW ?_
  intro M2 i2 k2 c2 _
  exact gX11_act i2 k1 (s1 E r hC) (fun k j _ h => k2 k j (by omega)) (fun k j a b => k2 k j (by omega)) c2 tn_nd (fun M' i' a n _ => hQ M' i' a n)
theorem gX11_pushes {p1 p2 : Int} {M E : Mem} {r : Int → Int} {Q : Int → Mem → Prop} (hI : IX M) (hS : STR E M) (hC : SC E M 1 r) (hW : WR E r) (hQ : ∀ M' : Mem, IX M' → (isDn (psA E r p1 p2) → CACT E M M' r (psR E r p1 p2)) → (¬ isDn (psA E r p1 p2) → CNOP E M M' r) → Q (psA E r p1 p2) M') : qX11_pushes p1 p2 M Q := by
  unfold qX11_pushes
  refine gX6_copyFrom hI (show isS 22 by decide) (show isS 1 by decide) (by decide) ?_
  intro M1 i1 k1 s1 _
  have S1 : STR E M1 := hS.fr (k1 _ _ (by omega)) (k1 _ _ (by omega)) (k1 _ _ (by omega)) (fun j => k1 159 j (by omega))
  have C1 : SC E M1 1 r := hC.fr (fun i j hi => k1 _ j (by omega))
  refine gX6_shove i1 (show isS 1 by decide) S1 C1 hW ?_
  intro M2 i2 k2 c2 _
  exact gX11_act i2 k1 (s1 E r hC) (fun k j _ h => k2 k j (by omega)) (fun k j a b => k2 k j (by omega)) c2 ps_nd (fun M' i' a n _ => hQ M' i' a n)
theorem gX11_swaps {p1 p2 : Int} {M E : Mem} {r : Int → Int} {Q : Int → Mem → Prop} (hI : IX M) (hS : STR E M) (hC : SC E M 1 r) (hW : WR E r) (hQ : ∀ M' : Mem, IX M' → (isDn (swA E r p1 p2) → CACT E M M' r (swR E r p1 p2)) → (¬ isDn (swA E r p1 p2) → CNOP E M M' r) → Q (swA E r p1 p2) M') : qX11_swaps p1 p2 M Q := by
  unfold qX11_swaps
  refine gX6_copyFrom hI (show isS 22 by decide) (show isS 1 by decide) (by decide) ?_
  intro M1 i1 k1 s1 _
  have S1 : STR E M1 := hS.fr (k1 _ _ (by omega)) (k1 _ _ (by omega)) (k1 _ _ (by omega)) (fun j => k1 159 j (by omega))
  have C1 : SC E M1 1 r := hC.fr (fun i j hi => k1 _ j (by omega))
  refine gX6_exchange i1 (show isS 1 by decide) S1 C1 hW ?_
  intro M2 i2 k2 c2 _
  exact gX11_act i2 k1 (s1 E r hC) (fun k j _ h => k2 k j (by omega)) (fun k j a b => k2 k j (by omega)) c2 sw_nd (fun M' i' a n _ => hQ M' i' a n)
theorem gX11_steps {p1 : Int} {M E : Mem} {r : Int → Int} {Q : Int → Mem → Prop} (hI : IX M) (hS : STR E M) (hL : LAW E M (M 155 16).toNat) (hw : WFC (E 11) (E 1 24)) (hC : SC E M 1 r) (hW : WR E r) (h37 : r 37 ≤ 1999999000) (hQ1 : 0 ≤ p1 ∧ p1 ≤ 60 → ∀ M' : Mem, IX M' → WR E (itF E p1.toNat r) → CACT E M M' r (itF E p1.toNat r) → Q (itF E p1.toNat r 12) M') (hQ2 : ¬ (0 ≤ p1 ∧ p1 ≤ 60) → Q (-1) M) : qX11_steps p1 M Q := by
  unfold qX11_steps
  refine ⟨fun c => hQ2 (by omega), fun c => ⟨fun c2 => ?_, fun c2 => hQ2 (by omega)⟩⟩
  refine gX6_copyFrom hI (show isS 22 by decide) (show isS 1 by decide) (by decide) ?_
  intro M1 i1 k1 s1 _
  have g16 : M1 155 16 = M 155 16 := k1 155 16 (by omega)
  have el : (M 155 16).toNat = 187 ∨ (M 155 16).toNat = 192 := hI.l16
  have S1 : STR E M1 := hS.fr (k1 _ _ (by omega)) (k1 _ _ (by omega)) (k1 _ _ (by omega)) (fun j => k1 159 j (by omega))
  have L1 : LAW E M1 (M 155 16).toNat := hL.fr (k1 _ _ (by omega)) (k1 _ _ (by omega)) (fun j => k1 _ j (by omega)) (fun j => k1 _ j (by omega))
  have C1 : SC E M1 1 r := hC.fr (fun i j hi => k1 _ j (by omega))
  rw [g16]
  refine ⟨hI.l16, ?_⟩
  refine gX10_walk i1 (show isS 1 by decide) hI.l16 S1 L1 hw C1 hW h37 (by omega) ?_
  intro M5 i5 k5 c5 w5 x6 _ _ x7 _ _
  refine fmX4_tellTwo (sX4_tellTwo (p1 := x6) (p3 := x7) i5 (Q := fun M' => IX M') (fun _ h => h)) ?_
  intro M8 k8 i8 x9 e9 _
  have c8 : SC E M8 1 (itF E p1.toNat r) := c5.fr (fun i j hi => k8 _ j (by omega))
  have f9 : x9 = itF E p1.toNat r 12 := by rw [e9]; exact c8.2.2.2.2.1
  rw [f9]
  have dn : isDn (itF E p1.toNat r 12) := by
    have := arF_b (itF E p1.toNat r) (eH E)
    have e := w5.2.2.2.1
    exact Or.inl (by omega)
  refine gX11_act (r' := itF E p1.toNat r) i8 k1 (s1 E r hC) (fun k j h h2 => ?_) (fun k j a b => ?_) c8 (fun n => absurd dn n) (fun M' i' a _ _ => hQ1 (by omega) M' i' w5 (a dn))
  · rw [k8 k j (by omega)]
    exact k5 k j (by omega)
  · rw [k8 k j (by omega)]
    exact k5 k j (by omega)
end
section
/-! UNDO, KEEP, AGAIN; one hearse, one mourner -/
theorem STA.undo {E MX MM MX' MM' : Mem} (h : STA E MX MM) (hE : EBx E) (hI : IX MX) (hn : 0 < MM 1 28) (kx : Ks (fun k j => (1 ≤ k ∧ k ≤ 7) ∨ (k = 163 ∧ j = 2)) MX MX') (x2 : MX' 163 2 = MX 163 2 - 1) (xs : ∀ (E : Mem) (r : Int → Int), SC E MX (50 + 7 * ((MX 163 1 + (MX 163 2 - 1)) % 15).toNat) r → SC E MX' 1 r) (km : FrJ (fun k j => k = 5 ∨ (k = 1 ∧ (j = 0 ∨ j = 28))) MM MM') (m2 : MM' 1 28 = MM 1 28 - 1) (ms : ∀ j, 0 ≤ j → j < 38 → MM' 5 j = MM 15 (38 * (MM 1 28 - 1) + j)) : STA E MX' MM' := by
  obtain ⟨a, b, c, d, e, f⟩ := h
  have bb := bx_c163_1.mp (hI.bx 163 1)
  obtain ⟨s, w⟩ := e.2 (MM 1 28 - 1) (by omega) (by omega)
  rw [← e.1] at s
  refine ⟨a.fr (kx _ _ (by omega)) (kx _ _ (by omega)) (kx _ _ (by omega)) (fun j => kx 159 j (by omega)), b.kx hI (kx _ _ (by omega)) (fun k j q => kx k j (by omega)), (xs E _ s).cg hE (fun j p q => ?_), w.cg hE (fun j p q => ms j p q), ⟨by rw [x2, m2, e.1], fun i p q => ?_⟩, f.fr (fun k j q => kx k j (by omega)) (fun k j q => km k j (by omega))⟩
  · rw [ms j p q, e.1]
    rfl
  · obtain ⟨s', w'⟩ := e.2 i p (by omega)
    rw [kx 163 1 (by omega)]
    have e15 : MM' 15 = MM 15 := funext fun j => km 15 j (by omega)
    rw [e15]
    exact ⟨s'.fr (fun t j ht => kx _ j (by omega)), w'⟩
theorem gX11_undo {M : Mem} {Q : Int → Mem → Prop} (hI : IX M) (hQ : ∀ (z : Int) (M' : Mem), IX M' → Ks (fun k j => (1 ≤ k ∧ k ≤ 7) ∨ (k = 163 ∧ j = 2)) M M' → (M 163 2 = 0 ∧ z = -1 ∧ M' = M ∨ 0 < M 163 2 ∧ z = M 163 2 - 1 ∧ M' 163 2 = M 163 2 - 1 ∧ ∀ (E : Mem) (r : Int → Int), SC E M (50 + 7 * ((M 163 1 + (M 163 2 - 1)) % 15).toNat) r → SC E M' 1 r) → Q z M') : qX11_undo M Q := by
  unfold qX11_undo
  refine gX1_takeBack hI (show isS 1 by decide) (by decide) ?_
  intro z M' i' k' p' _ _
  refine ⟨fun c => ?_, fun c => ?_⟩
  · rcases p' with q | q
    · exact hQ _ _ i' k' (Or.inl ⟨q.1, rfl, q.2.2⟩)
    · omega
  · intro x3 e3 _
    rcases p' with q | q
    · omega
    · exact hQ _ _ i' k' (Or.inr ⟨q.1, by omega, q.2.2.1, q.2.2.2⟩)
theorem gX11_keepC {p1 : Int} {M : Mem} {Q : Int → Mem → Prop} (hI : IX M) (hQ1 : 0 ≤ p1 ∧ p1 ≤ 2 → ∀ M' : Mem, IX M' → Ks (fun k j => (29 + 7 * p1.toNat ≤ k ∧ k ≤ 35 + 7 * p1.toNat) ∨ (k = 166 ∧ j = p1)) M M' → M' 166 p1 = 1 → (∀ (E : Mem) (r : Int → Int), SC E M 1 r → SC E M' (29 + 7 * p1.toNat) r) → M' (29 + 7 * p1.toNat) 6 = M 1 6 ∧ M' (29 + 7 * p1.toNat) 7 = M 1 7 → Q 1 M') (hQ2 : ¬ (0 ≤ p1 ∧ p1 ≤ 2) → Q 0 M) : qX11_keep p1 M Q := by
  unfold qX11_keep
  refine ⟨fun c => hQ2 (by omega), fun c => ⟨fun c2 => ⟨by omega, by omega, ?_⟩, fun c2 => hQ2 (by omega)⟩⟩
  refine gX6_copyFrom hI (isS_kept (e := p1) (by omega) (by omega)) (show isS 1 by decide) (by omega) ?_
  intro M5 i5 k5 s5 d5 M6 h6
  have i6 : IX M6 := by rw [h6]; exact i5.up (by decide) (by simp [BX])
  refine hQ1 (by omega) M6 i6 ?_ (by rw [h6, up2_s]) (fun E r h => ?_) ?_
  · rw [h6]
    exact (k5.mono (by intro k j h; omega)).wr (Or.inr ⟨rfl, rfl⟩)
  · exact (s5 E r h).fr (fun i j hi => by rw [h6, up2_n (by omega)])
  · rw [h6, up2_n (by omega)]
    exact d5
theorem gX12_keep_L38 {p1 b : Int} {Q : Int → Mem → Prop} {M0 : Mem} (hp : 0 ≤ p1 ∧ p1 ≤ 2) (hQ : ∀ M' : Mem, IM b M' → FrJ (fun k j => k = 31 ∧ 38 * p1 ≤ j ∧ j < 38 * p1 + 38) M0 M' → (∀ j, 0 ≤ j → j < 38 → M' 31 (38 * p1 + j) = M0 5 j) → Q 1 M') : ∀ (n : Nat) (v2 : Int) (M : Mem), IM b M → FrJ (fun k j => k = 31 ∧ 38 * p1 ≤ j ∧ j < 38 * p1 + 38) M0 M → (∀ j, 0 ≤ j → j < v2 → M 31 (38 * p1 + j) = M0 5 j) → (0 ≤ v2 ∧ v2 ≤ 38) → 38 - v2 < (n : Int) → qX12_keep_L38 p1 Q n v2 M := by
  intro n
  induction n with
  | zero => intro v2 M hI hF hs hv hm; exact absurd hm (by omega)
  | succ n ih =>
    intro v2 M hI hF hs hv hm
    rw [qX12_keep_L38]
    refine ⟨⟨by omega, by omega⟩, ⟨fun c => hQ _ hI hF (fun j p q => hs j p (by omega)), fun c => ⟨by omega, by omega, ?_⟩⟩⟩
    intro x13 e13 _
    refine ⟨by omega, by omega, ?_⟩
    intro M16 h16
    have hn : BN b v2 x13 := by rw [e13]; exact (bm_n (Or.inl rfl)).mp (hI.bx _ _)
    refine ih _ _ (by rw [h16]; exact hI.up (by omega) (bm_c31.mpr (by rw [show (38 * p1 + v2) % 38 = v2 from by omega]; exact hn))) (by rw [h16]; exact hF.up ⟨rfl, by omega, by omega⟩) ?_ (by omega) (by omega)
    intro j p q
    rw [h16]
    by_cases cj : j = v2
    · rw [cj, up2_s, e13]
      exact hF 5 v2 (by omega)
    · rw [up2_j (by omega)]
      exact hs j p (by omega)
theorem gX12_keepC {p1 b : Int} {M : Mem} {Q : Int → Mem → Prop} (hI : IM b M) (hQ1 : 0 ≤ p1 ∧ p1 ≤ 2 → ∀ M' : Mem, IM b M' → FrJ (fun k j => (k = 31 ∧ 38 * p1 ≤ j ∧ j < 38 * p1 + 38) ∨ (k = 29 ∧ j = p1) ∨ (k = 30 ∧ j = p1) ∨ (k = 1 ∧ j = 0)) M M' → M' 29 p1 = 1 → M' 30 p1 = M 1 6 → (∀ j, 0 ≤ j → j < 38 → M' 31 (38 * p1 + j) = M 5 j) → Q 1 M') (hQ2 : ¬ (0 ≤ p1 ∧ p1 ≤ 2) → ∀ M' : Mem, IM b M' → FrJ (fun k j => k = 1 ∧ j = 0) M M' → Q 0 M') : qX12_keep p1 M Q := by
  unfold qX12_keep
  intro M1 h1
  have i1 : IM b M1 := by rw [h1]; exact hI.up (by omega) (by simp [BM])
  have F1 : FrJ (fun k j => k = 1 ∧ j = 0) M M1 := by rw [h1]; exact FrJ.rf.up ⟨rfl, rfl⟩
  refine sX12_in (p0 := p1) (p2 := 0) (p4 := 2) i1 ?_
  intro z hz _ _
  refine ⟨fun c => ?_, fun c => hQ2 (by have := hz.2.2 c; omega) M1 i1 F1⟩
  have cp := hz.2.1 (by rcases hz.1 with q | q <;> omega)
  refine ⟨by omega, by omega, ?_⟩
  intro M6 h6 x7 e7 _ M8 h8
  have i6 : IM b M6 := by rw [h6]; exact i1.up (by omega) (by simp [BM])
  have i8 : IM b M8 := by rw [h8]; exact i6.up (by omega) (by simp [BM])
  have F8 : FrJ (fun k j => (k = 31 ∧ 38 * p1 ≤ j ∧ j < 38 * p1 + 38) ∨ (k = 29 ∧ j = p1) ∨ (k = 30 ∧ j = p1) ∨ (k = 1 ∧ j = 0)) M M8 := by
    rw [h8, h6]
    exact ((F1.mono (fun _ _ q => Or.inr (Or.inr (Or.inr q)))).up (Or.inr (Or.inl ⟨rfl, rfl⟩))).up (Or.inr (Or.inr (Or.inl ⟨rfl, rfl⟩)))
  have g29 : M8 29 p1 = 1 := by rw [h8, up2_n (by decide), h6, up2_s]
  have g30 : M8 30 p1 = M 1 6 := by rw [h8, up2_s, e7, h6, up2_n (by decide)]; exact F1 1 6 (by omega)
  refine ⟨39, gX12_keep_L38 (b := b) (M0 := M8) cp ?_ _ _ _ i8 FrJ.rf (fun j p q => by omega) (by omega) (by omega)⟩
  intro M' i' hF hs
  refine hQ1 cp M' i' (F8.tr (hF.mono (fun _ _ q => Or.inl q))) (by rw [hF 29 p1 (by omega)]; exact g29) (by rw [hF 30 p1 (by omega)]; exact g30) (fun j p q => ?_)
  rw [hs j p q]
  exact F8 5 j (by omega)
theorem STA.keep {E MX MM MX' MM' : Mem} {p1 b : Int} (h : STA E MX MM) (hE : EBx E) (hI : IX MX) (cp : 0 ≤ p1 ∧ p1 ≤ 2) (kx : Ks (fun k j => (29 + 7 * p1.toNat ≤ k ∧ k ≤ 35 + 7 * p1.toNat) ∨ (k = 166 ∧ j = p1)) MX MX') (x1 : MX' 166 p1 = 1) (xs : ∀ (E : Mem) (r : Int → Int), SC E MX 1 r → SC E MX' (29 + 7 * p1.toNat) r) (xc : MX' (29 + 7 * p1.toNat) 6 = MX 1 6 ∧ MX' (29 + 7 * p1.toNat) 7 = MX 1 7) (km : FrJ (fun k j => (k = 31 ∧ 38 * p1 ≤ j ∧ j < 38 * p1 + 38) ∨ (k = 29 ∧ j = p1) ∨ (k = 30 ∧ j = p1) ∨ (k = 1 ∧ j = 0)) MM MM') (m1 : MM' 29 p1 = 1) (m2 : MM' 30 p1 = MM 1 6) (ms : ∀ j, 0 ≤ j → j < 38 → MM' 31 (38 * p1 + j) = MM 5 j) : STA E MX' MM' := by
  obtain ⟨a, b, c, d, e, f⟩ := h
  have k5 : MM' 5 = MM 5 := funext fun j => km 5 j (by omega)
  have h6 : MX 1 6 = E 1 4 := c.1
  have h7 : MX 1 7 = E 1 5 := c.2.1
  have g6 : MM' 1 6 = MM 1 6 := km 1 6 (by omega)
  refine ⟨a.fr (kx _ _ (by omega)) (kx _ _ (by omega)) (kx _ _ (by omega)) (fun j => kx 159 j (by omega)), b.kx hI (kx _ _ (by omega)) (fun k j q => kx k j (by omega)), by rw [k5]; exact c.fr (fun t j ht => kx _ j (by omega)), by rw [k5]; exact d, e.fr hE (fun k j q => kx k j (by omega)) (km 1 28 (by omega)) (fun j _ _ => km 15 j (by omega)) (bx_c163_1.mp (hI.bx 163 1)), ?_⟩
  intro i p q
  by_cases ci : i = p1
  · subst ci
    rw [x1, m1, m2, g6, xc.1, xc.2, h6, h7]
    refine ⟨⟨fun u => absurd u (by decide), fun u => absurd u (by decide)⟩, fun _ => ⟨by omega, ⟨by omega, by omega⟩, fun _ => ⟨(xs E _ c).cg hE (fun j p' q' => ms j p' q'), d.cg hE (fun j p' q' => ms j p' q')⟩, fun u => by omega⟩⟩
  · obtain ⟨u, v⟩ := f i p q
    rw [kx 166 i (by omega), km 29 i (by omega), km 30 i (by omega), g6, kx (29 + 7 * i.toNat) 6 (by omega), kx (29 + 7 * i.toNat) 7 (by omega)]
    refine ⟨u, fun w => ?_⟩
    obtain ⟨b1, b2, b3, b4⟩ := v w
    have es : ∀ j, 0 ≤ j → j < 38 → sg (MM' 31) i j = sg (MM 31) i j := fun j p' q' => km 31 _ (by omega)
    exact ⟨b1, b2, fun w2 => ⟨((b3 w2).1.fr (fun t j ht => kx _ j (by omega))).cg hE es, (b3 w2).2.cg hE es⟩, b4⟩
theorem gX11_again {p1 : Int} {M : Mem} {Q : Int → Mem → Prop} (hI : IX M) (hQ1 : 0 ≤ p1 ∧ p1 ≤ 2 → M 166 p1 ≠ 0 → M (29 + 7 * p1.toNat) 6 = M 1 6 → M (29 + 7 * p1.toNat) 7 = M 1 7 → ∀ M' : Mem, IX M' → Ks (fun k j => (1 ≤ k ∧ k ≤ 7) ∨ (k = 163 ∧ j = 2)) M M' → M' 163 2 = 0 → (∀ (E : Mem) (r : Int → Int), SC E M (29 + 7 * p1.toNat) r → SC E M' 1 r) → Q 1 M') (hQ2 : ¬ ((0 ≤ p1 ∧ p1 ≤ 2) ∧ M 166 p1 ≠ 0 ∧ M (29 + 7 * p1.toNat) 6 = M 1 6 ∧ M (29 + 7 * p1.toNat) 7 = M 1 7) → Q 0 M) : qX11_again p1 M Q := by
  unfold qX11_again
  refine ⟨fun c => hQ2 (by omega), fun c => ⟨fun c2 => hQ2 (by omega), fun c2 => ⟨by omega, by omega, ?_⟩⟩⟩
  intro x5 e5 _
  refine ⟨fun c3 => ?_, fun c3 => hQ2 (by omega)⟩
  intro x7 e7 _ x8 e8 _
  refine ⟨fun c4 => hQ2 (by omega), fun c4 => ?_⟩
  intro x10 e10 _ x11 e11 _
  refine ⟨fun c5 => ?_, fun c5 => hQ2 (by omega)⟩
  refine gX6_copyFrom hI (show isS 1 by decide) (isS_kept (e := p1) (by omega) (by omega)) (by omega) ?_
  intro M13 i13 k13 s13 _
  unfold qX1_clear
  intro M14 h14
  refine hQ1 (by omega) (by omega) (by omega) (by omega) M14 (by rw [h14]; exact i13.up (by decide) (bx_c163_2.mpr (by decide))) ?_ (by rw [h14, up2_s]) (fun E r h => ?_)
  · rw [h14]
    exact (k13.mono (fun k j h => Or.inl (by omega))).wr (Or.inr ⟨rfl, rfl⟩)
  · exact (s13 E r h).fr (fun i j hi => by rw [h14, up2_n (by omega)])
theorem gX12_again_L43 {p1 b : Int} {Q : Int → Mem → Prop} {M0 : Mem} (hp : 0 ≤ p1 ∧ p1 ≤ 2) (hQ : ∀ M' : Mem, IM b M' → FrJ (fun k j => k = 5 ∨ (k = 1 ∧ j = 28)) M0 M' → M' 1 28 = 0 → (∀ j, 0 ≤ j → j < 38 → M' 5 j = M0 31 (38 * p1 + j)) → Q 1 M') : ∀ (n : Nat) (v2 : Int) (M : Mem), IM b M → FrJ (fun k j => k = 5 ∨ (k = 1 ∧ j = 28)) M0 M → (∀ j, 0 ≤ j → j < v2 → M 5 j = M0 31 (38 * p1 + j)) → (0 ≤ v2 ∧ v2 ≤ 38) → 38 - v2 < (n : Int) → qX12_again_L43 p1 Q n v2 M := by
  intro n
  induction n with
  | zero => intro v2 M hI hF hs hv hm; exact absurd hm (by omega)
  | succ n ih =>
    intro v2 M hI hF hs hv hm
    rw [qX12_again_L43]
    refine ⟨⟨by omega, by omega⟩, ⟨fun c => ?_, fun c => ⟨by omega, by omega, ?_⟩⟩⟩
    · intro M13 h13
      refine hQ _ (by rw [h13]; exact hI.up (by omega) (bm_c1_28.mpr (by decide))) (by rw [h13]; exact hF.up (Or.inr ⟨rfl, rfl⟩)) (by rw [h13, up2_s]) (fun j p q => ?_)
      rw [h13, up2_n (by decide)]
      exact hs j p (by omega)
    · intro x16 e16 _
      refine ⟨by omega, by omega, ?_⟩
      intro M19 h19
      have hn : BN b v2 x16 := by
        have r := bm_c31.mp (hI.bx 31 (38 * p1 + v2))
        rw [← e16, show (38 * p1 + v2) % 38 = v2 from by omega] at r
        exact r
      refine ih _ _ (by rw [h19]; exact hI.up (by omega) ((bm_n (Or.inl rfl)).mpr hn)) (by rw [h19]; exact hF.up (Or.inl rfl)) ?_ (by omega) (by omega)
      intro j p q
      rw [h19]
      by_cases cj : j = v2
      · rw [cj, up2_s, e16]
        exact hF 31 _ (by omega)
      · rw [up2_j cj]
        exact hs j p (by omega)
theorem gX12_again {p1 b : Int} {M : Mem} {Q : Int → Mem → Prop} (hI : IM b M) (hQ1 : 0 ≤ p1 ∧ p1 ≤ 2 → M 29 p1 ≠ 0 → M 30 p1 = M 1 6 → ∀ M' : Mem, IM b M' → FrJ (fun k j => k = 5 ∨ (k = 1 ∧ (j = 0 ∨ j = 28))) M M' → M' 1 28 = 0 → (∀ j, 0 ≤ j → j < 38 → M' 5 j = M 31 (38 * p1 + j)) → Q 1 M') (hQ2 : ¬ ((0 ≤ p1 ∧ p1 ≤ 2) ∧ M 29 p1 ≠ 0 ∧ M 30 p1 = M 1 6) → ∀ M' : Mem, IM b M' → FrJ (fun k j => k = 1 ∧ j = 0) M M' → Q 0 M') : qX12_again p1 M Q := by
  unfold qX12_again
  intro M1 h1
  have i1 : IM b M1 := by rw [h1]; exact hI.up (by omega) (by simp [BM])
  have F1 : FrJ (fun k j => k = 1 ∧ j = 0) M M1 := by rw [h1]; exact FrJ.rf.up ⟨rfl, rfl⟩
  refine sX12_in (p0 := p1) (p2 := 0) (p4 := 2) i1 ?_
  intro z hz _ _
  refine ⟨fun c => hQ2 (by have := hz.2.2 c; omega) M1 i1 F1, fun c => ?_⟩
  have cp := hz.2.1 (by rcases hz.1 with q | q <;> omega)
  refine ⟨by omega, by omega, ?_⟩
  intro x6 e6 _
  have f6 : x6 = M 29 p1 := by rw [e6]; exact F1 29 p1 (by omega)
  refine ⟨fun c2 => hQ2 (by omega) M1 i1 F1, fun c2 => ?_⟩
  intro x8 e8 _ x9 e9 _
  have f8 : x8 = M 30 p1 := by rw [e8]; exact F1 30 p1 (by omega)
  have f9 : x9 = M 1 6 := by rw [e9]; exact F1 1 6 (by omega)
  refine ⟨fun c3 => ⟨39, gX12_again_L43 (b := b) (M0 := M1) cp ?_ _ _ _ i1 FrJ.rf (fun j p q => by omega) (by omega) (by omega)⟩, fun c3 => hQ2 (by omega) M1 i1 F1⟩
  intro M' i' hF h28 hs
  refine hQ1 cp (by omega) (by omega) M' i' ((F1.mono (by intro k j h; omega)).tr (hF.mono (by intro k j h; omega))) h28 (fun j p q => ?_)
  rw [hs j p q]
  exact F1 31 _ (by omega)
theorem STA.again {E MX MM MX' MM' : Mem} {p1 : Int} (h : STA E MX MM) (hE : EBx E) (hI : IX MX) (cp : 0 ≤ p1 ∧ p1 ≤ 2) (hk : MX 166 p1 ≠ 0) (hc : MM 30 p1 = MM 1 6) (kx : Ks (fun k j => (1 ≤ k ∧ k ≤ 7) ∨ (k = 163 ∧ j = 2)) MX MX') (x2 : MX' 163 2 = 0) (xs : ∀ (E : Mem) (r : Int → Int), SC E MX (29 + 7 * p1.toNat) r → SC E MX' 1 r) (km : FrJ (fun k j => k = 5 ∨ (k = 1 ∧ (j = 0 ∨ j = 28))) MM MM') (m2 : MM' 1 28 = 0) (ms : ∀ j, 0 ≤ j → j < 38 → MM' 5 j = MM 31 (38 * p1 + j)) : STA E MX' MM' := by
  obtain ⟨a, b, c, d, e, f⟩ := h
  obtain ⟨s, w⟩ := ((f p1 cp.1 (by omega)).2 hk).2.2.1 hc
  exact ⟨a.fr (kx _ _ (by omega)) (kx _ _ (by omega)) (kx _ _ (by omega)) (fun j => kx 159 j (by omega)), b.kx hI (kx _ _ (by omega)) (fun k j q => kx k j (by omega)), (xs E _ s).cg hE (fun j p q => ms j p q), w.cg hE (fun j p q => ms j p q), HIS.nil x2 m2, f.fr (fun k j q => kx k j (by omega)) (fun k j q => km k j (by omega))⟩
/-- both answer again alike -/
theorem KEP.eq {E MX MM : Mem} (h : STA E MX MM) {p1 : Int} (cp : 0 ≤ p1 ∧ p1 ≤ 2) : (MX 166 p1 ≠ 0 ∧ MX (29 + 7 * p1.toNat) 6 = MX 1 6 ∧ MX (29 + 7 * p1.toNat) 7 = MX 1 7) ↔ (MM 29 p1 ≠ 0 ∧ MM 30 p1 = MM 1 6) := by
  obtain ⟨a, b, c, d, e, f⟩ := h
  obtain ⟨u, v⟩ := f p1 cp.1 (by omega)
  have h6 : MX 1 6 = E 1 4 := c.1
  have h7 : MX 1 7 = E 1 5 := c.2.1
  refine ⟨fun ⟨q1, q2, q3⟩ => ?_, fun ⟨q1, q2⟩ => ?_⟩
  · obtain ⟨b1, b2, b3, b4⟩ := v q1
    refine ⟨fun w => q1 (u.mpr w), ?_⟩
    rcases Int.lt_or_le (MM 30 p1) (MM 1 6) with w | w
    · rcases b4 w with t | t <;> omega
    · omega
  · have q0 : MX 166 p1 ≠ 0 := fun w => q1 (u.mp w)
    obtain ⟨b1, b2, b3, b4⟩ := v q0
    obtain ⟨s, w⟩ := b3 q2
    exact ⟨q0, by rw [s.1, h6], by rw [s.2.1, h7]⟩
-- one hearse, one mourner
end
