theorem ruF_cg {E : Mem} {e e' : Int → Int} (hw : WFC (E 11) (E 1 24)) (h0 : 0 ≤ E 1 24) (he : ∀ j, 0 ≤ j → j < 7 → e j = e' j) : ruF E e = ruF E e' := by
  unfold ruF
  rw [he 1 (by decide) (by decide), evS_cg hw he (E 1 24).toNat (by omega)]
theorem CE.w {E M : Mem} {b : Int} (h : CE E M) (hI : IM b M) : WFC (E 11) (E 1 24) ∧ 0 ≤ E 1 24 := by
  have k24 : M 1 24 = E 1 24 := h 1 24 cE124
  have k11 : M 11 = E 11 := funext fun j => h 11 j (cE11 j)
  have b := bm_c1_24.mp (hI.bx 1 24)
  have w := hI.2
  rw [k24, k11] at w
  exact ⟨w, by omega⟩
theorem gX12_paceOf {k1 : Nat} {p2 b : Int} {M E : Mem} {Q : Int → Mem → Prop} (hI : IM b M) (hE : CE E M) (hk1 : isN k1) (hp : 0 ≤ p2 ∧ p2 ≤ 5 ∧ 0 ≤ M k1 p2) (hQ : ∀ M' : Mem, IM b M' → FrJ (fun k j => k = 14 ∨ k = 13) M M' → Q (paF E (M k1) p2) M') : qX12_paceOf k1 p2 M Q := by
  have hk : k1 = 5 ∨ k1 = 6 := hk1
  have b29 : M k1 p2 ≤ 29 := (((bm_n hk1).mp (hI.bx k1 p2)).1 ⟨by omega, by omega⟩).2
  have n37 := ((bm_n hk1).mp (hI.bx k1 37)).2.2.2 rfl
  unfold qX12_paceOf
  refine gX12_isOn (p1 := p2) ⟨by omega, by omega⟩ ?_
  intro x1 p1 _ _
  refine ⟨fun c => ⟨by omega, by omega, ?_⟩, fun c => by omega⟩
  intro x5 e5 _ M6 h6 x7 e7 _
  have i6 : IM b M6 := by rw [h6]; exact hI.up (by omega) (by simp [BM])
  have E6 : CE E M6 := by rw [h6]; exact hE.up (by intro h; rcases h with h | h | h | h | h <;> omega)
  have K6 : M6 k1 = M k1 := by rw [h6, up2_n (by omega)]
  have F6 : FrJ (fun k j => k = 14 ∨ k = 13) M M6 := by rw [h6]; exact FrJ.rf.up (Or.inl rfl)
  have f7 : x7 = M k1 p2 := by rw [e7, K6]
  refine gX12_freeAhead i6 E6 (by omega) ?_
  intro _ M9 h9 x10 e10 _
  have i9 : IM b M9 := by rw [h9]; exact i6.up (by omega) (by simp [BM])
  have E9 : CE E M9 := by rw [h9]; exact E6.up (by intro h; rcases h with h | h | h | h | h <;> omega)
  have K9 : M9 k1 = M k1 := by rw [h9, up2_n (by omega), K6]
  have F9 : FrJ (fun k j => k = 14 ∨ k = 13) M M9 := by rw [h9]; exact F6.up (Or.inl rfl)
  have f10 : x10 = M k1 p2 := by rw [e10, K9]
  refine ⟨by omega, by omega, ?_⟩
  intro x13 e13 _
  have f13 : x13 = E 2 (M k1 p2) := by rw [e13, f10]; exact E9 2 _ (cE2 _)
  refine gX12_flag i9 ?_
  intro _ M15 h15 x16 e16 r16
  have i15 : IM b M15 := by rw [h15]; exact i9.up (by omega) (by simp [BM])
  have E15 : CE E M15 := by rw [h15]; exact E9.up (by intro h; rcases h with h | h | h | h | h <;> omega)
  have K15 : M15 k1 = M k1 := by rw [h15, up2_n (by omega), K9]
  have F15 : FrJ (fun k j => k = 14 ∨ k = 13) M M15 := by rw [h15]; exact F9.up (Or.inl rfl)
  have f16 : x16 = M k1 37 := by rw [e16, K15]
  refine gX12_weatherOn i15 (by have : -2147483648 ≤ x16 ∧ x16 ≤ 2147483647 := r16; omega) ?_
  intro _ M18 h18 x19 e19 _ x20 e20 _ M21 h21 M22 h22
  have i18 : IM b M18 := by rw [h18]; exact i15.up (by omega) (by simp [BM])
  have E18 : CE E M18 := by rw [h18]; exact E15.up (by intro h; rcases h with h | h | h | h | h <;> omega)
  have K18 : M18 k1 = M k1 := by rw [h18, up2_n (by omega), K15]
  have F18 : FrJ (fun k j => k = 14 ∨ k = 13) M M18 := by rw [h18]; exact F15.up (Or.inl rfl)
  have i21 : IM b M21 := by rw [h21]; exact i18.up (by omega) (by simp [BM])
  have E21 : CE E M21 := by rw [h21]; exact E18.up (by intro h; rcases h with h | h | h | h | h <;> omega)
  have K21 : M21 k1 = M k1 := by rw [h21, up2_n (by omega), K18]
  have F21 : FrJ (fun k j => k = 14 ∨ k = 13) M M21 := by rw [h21]; exact F18.up (Or.inl rfl)
  have i22 : IM b M22 := by rw [h22]; exact i21.up (by omega) (by simp [BM])
  have E22 : CE E M22 := by rw [h22]; exact E21.up (by intro h; rcases h with h | h | h | h | h <;> omega)
  have K22 : M22 k1 = M k1 := by rw [h22, up2_n (by omega), K21]
  have F22 : FrJ (fun k j => k = 14 ∨ k = 13) M M22 := by rw [h22]; exact F21.up (Or.inl rfl)
  have f19 : x19 = M k1 37 := by rw [e19, K18]
  refine gX12_bitsBy i22 E22 (by omega) ?_
  intro _
  refine gJ6_bitCount ?_
  intro _ M25 h25
  have i25 : IM b M25 := by rw [h25]; exact i22.up (by omega) (by simp [BM])
  have E25 : CE E M25 := by rw [h25]; exact E22.up (by intro h; rcases h with h | h | h | h | h <;> omega)
  have F25 : FrJ (fun k j => k = 14 ∨ k = 13) M M25 := by rw [h25]; exact F22.up (Or.inl rfl)
  have he : ∀ j, 0 ≤ j → j < 7 → M25 14 j = envF E (M k1) p2 j := by
    intro j a q
    have : j = 0 ∨ j = 1 ∨ j = 2 ∨ j = 3 ∨ j = 4 ∨ j = 5 ∨ j = 6 := by omega
    rcases this with rfl | rfl | rfl | rfl | rfl | rfl | rfl
    · rw [h25, up2_j (by decide), h22, up2_j (by decide), h21, up2_j (by decide), h18, up2_j (by decide), h15, up2_j (by decide), h9, up2_j (by decide), h6, up2_s, e5]
      rfl
    · rw [h25, up2_j (by decide), h22, up2_j (by decide), h21, up2_j (by decide), h18, up2_j (by decide), h15, up2_j (by decide), h9, up2_s, K6, f7]
      rfl
    · rw [h25, up2_j (by decide), h22, up2_j (by decide), h21, up2_j (by decide), h18, up2_j (by decide), h15, up2_s, f13]
      rfl
    · rw [h25, up2_j (by decide), h22, up2_j (by decide), h21, up2_j (by decide), h18, up2_s, f16, E15 1 7 cE17, E15 4 _ (cE4 _)]
      rfl
    · rw [h25, up2_j (by decide), h22, up2_j (by decide), h21, up2_s, e20, f19]
      rfl
    · rw [h25, up2_j (by decide), h22, up2_s]
      rfl
    · rw [h25, up2_s, K22]
      rfl
  refine gX12_ruled i25 E25 ?_
  intro M26 i26 f26 _ x27 e27 _ x28 e28 _
  have hw := hE.w hI
  have e : x28 = paF E (M k1) p2 := by
    rw [e28, e27]
    unfold paF
    rw [ruF_cg hw.1 hw.2 he]
  rw [e]
  exact hQ _ i26 (F25.tr (f26.mono (by intro k j h; exact Or.inr h)))
theorem gX12_goal_L27 {k1 : Nat} {p2 p3 b f : Int} {M E : Mem} {Q : Int → Mem → Prop} (hI : IM b M) (hE : CE E M) (hk1 : isN k1) (hf : 0 ≤ f ∧ f < eG E) (hp : 0 ≤ p3 ∧ p3 ≤ 3) (hQ : ∀ z : Int, f ≤ z → z ≤ min (eG E) (f + p3) → (z = f ∨ okF E (M k1) f z) → (∀ x, z < x → x ≤ min (eG E) (f + p3) → ¬ okF E (M k1) f x) → Q z M) : ∀ (n : Nat) (v5 v6 v7 v8 : Int), (f < v8 ∧ v8 ≤ min (eG E) (f + p3) + 1) → (f ≤ v5 ∧ v5 < v8) → (v5 = f ∨ okF E (M k1) f v5) → (∀ x, v5 < x → x < v8 → ¬ okF E (M k1) f x) → ((v6 = 0 ∧ ∀ x, f < x → x < v8 → x < eG E → onF (M k1) (eH E) x < 0) ∨ (v6 = 1 ∧ ∃ x, f < x ∧ x < v8 ∧ 0 ≤ onF (M k1) (eH E) x)) → (iR v7 ∧ ((v7 = 0 ∧ ∀ x, f ≤ x → x < v8 → E 2 x = 0) ∨ (v7 ≠ 0 ∧ ∃ x, f ≤ x ∧ x < v8 ∧ E 2 x ≠ 0))) → 30 - v8 < (n : Int) → qX12_goal_L27 k1 p2 p3 Q n f v5 v6 v7 v8 M := by
  intro n
  induction n with
  | zero => intro v5 v6 v7 v8 h8 h5 hb hx h6 h7 hm; have bg := hE.g hI; exact absurd hm (by clear h6 h7; omega)
  | succ n ih =>
    intro v5 v6 v7 v8 h8 h5 hb hx h6 h7 hm
    have bg := hE.g hI
    rw [qX12_goal_L27]
    refine gX12_gate hI hE ?_
    intro _
    refine ⟨⟨by omega, by omega⟩, ?_⟩
    intro x9 e9 _
    refine ⟨⟨by clear h6 h7; omega, by clear h6 h7; omega⟩, ⟨fun c => ⟨⟨by clear h6 h7; omega, by clear h6 h7; omega⟩, hQ _ h5.1 (by clear h6 h7; omega) hb (fun x a q => hx x a (by clear h6 h7; omega))⟩, fun c => ⟨h7.1, ?_⟩⟩⟩
    have hle : v8 ≤ min (eG E) (f + p3) := by clear h6 h7; omega
    -- whether it can stand there
    have fin : ∀ (t0 fr : Int), ((t0 = 0 ∧ ∀ x, f ≤ x → x ≤ v8 → E 2 x = 0) ∨ (t0 = 1 ∧ ∃ x, f ≤ x ∧ x ≤ v8 ∧ E 2 x ≠ 0)) → ((fr = 1 ∧ (v8 = eG E ∨ onF (M k1) (eH E) v8 < 0)) ∨ (fr = 0 ∧ v8 ≠ eG E ∧ 0 ≤ onF (M k1) (eH E) v8)) → ∀ t : Int, ((okF E (M k1) f v8 ∧ t = v8) ∨ (¬ okF E (M k1) f v8 ∧ t = v5)) → qX12_goal_J113 k1 p2 p3 (qX12_goal_L27 k1 p2 p3 Q n) Q f v6 t0 v8 fr t M := by
      intro t0 fr h0 hfr t ht
      have tb : f ≤ t ∧ t < v8 + 1 := by rcases ht with w | w <;> omega
      have tok : t = f ∨ okF E (M k1) f t := by
        rcases ht with w | w
        · rw [w.2]; exact Or.inr w.1
        · rw [w.2]; exact hb
      have tx : ∀ x, t < x → x < v8 + 1 → ¬ okF E (M k1) f x := by
        intro x a q
        rcases ht with w | w
        · omega
        · by_cases cx : x = v8
          · rw [cx]; exact w.1
          · exact hx x (by omega) (by omega)
      have t7 : iR t0 ∧ ((t0 = 0 ∧ ∀ x, f ≤ x → x < v8 + 1 → E 2 x = 0) ∨ (t0 ≠ 0 ∧ ∃ x, f ≤ x ∧ x < v8 + 1 ∧ E 2 x ≠ 0)) := by
        rcases h0 with w | w
        · exact ⟨⟨by omega, by omega⟩, Or.inl ⟨w.1, fun x a q => w.2 x a (by omega)⟩⟩
        · obtain ⟨x, a, q, u⟩ := w.2
          exact ⟨⟨by omega, by omega⟩, Or.inr ⟨by omega, x, a, by omega, u⟩⟩
      unfold qX12_goal_J113
      refine ⟨by rcases h6 with w | w <;> exact ⟨by omega, by omega⟩, ⟨fun c6 => ?_, fun c6 => ⟨by rcases hfr with w | w <;> exact ⟨by omega, by omega⟩, ⟨fun c9 => ?_, fun c9 => ?_⟩⟩⟩⟩
      · refine ih _ _ _ _ (by omega) tb tok tx (Or.inr ⟨rfl, ?_⟩) t7 (by omega)
        rcases h6 with w | w
        · exact absurd w.1 c6
        · obtain ⟨x, a, q, u⟩ := w.2
          exact ⟨x, a, by omega, u⟩
      · refine ih _ _ _ _ (by omega) tb tok tx (Or.inl ⟨rfl, fun x a q u => ?_⟩) t7 (by omega)
        by_cases cx : x = v8
        · rcases hfr with w | w
          · rcases w.2 with y | y
            · omega
            · rw [cx]; exact y
          · exact absurd w.1 c9
        · rcases h6 with w | w
          · exact w.2 x a (by omega) u
          · omega
      · refine ih _ _ _ _ (by omega) tb tok tx (Or.inr ⟨rfl, v8, by omega, by omega, ?_⟩) t7 (by omega)
        rcases hfr with w | w
        · omega
        · exact w.2.2
    have pass : v6 = 0 ↔ ∀ x, f < x → x < v8 → onF (M k1) (eH E) x < 0 := by
      refine ⟨fun w => ?_, fun w => ?_⟩
      · rcases h6 with y | y
        · exact fun x a q => y.2 x a q (by omega)
        · omega
      · rcases h6 with y | y
        · exact y.1
        · obtain ⟨x, a, q, u⟩ := y.2
          have := w x a q
          omega
    have J89 : ∀ (t0 fr : Int), ((t0 = 0 ∧ ∀ x, f ≤ x → x ≤ v8 → E 2 x = 0) ∨ (t0 = 1 ∧ ∃ x, f ≤ x ∧ x ≤ v8 ∧ E 2 x ≠ 0)) → ((fr = 1 ∧ (v8 = eG E ∨ onF (M k1) (eH E) v8 < 0)) ∨ (fr = 0 ∧ v8 ≠ eG E ∧ 0 ≤ onF (M k1) (eH E) v8)) → qX12_goal_J89 k1 p2 p3 (qX12_goal_L27 k1 p2 p3 Q n) Q f v5 v6 t0 v8 fr M := by
      intro t0 fr h0 hfr
      unfold qX12_goal_J89
      refine ⟨by rcases hfr with w | w <;> exact ⟨by omega, by omega⟩, ⟨fun c1 => ?_, fun c1 => ⟨by rcases h6 with w | w <;> exact ⟨by omega, by omega⟩, ⟨fun c2 => ?_, fun c2 => ⟨by rcases h0 with w | w <;> exact ⟨by omega, by omega⟩, ⟨fun c3 => ?_, fun c3 => ?_⟩⟩⟩⟩⟩⟩
      · unfold qX12_goal_J111
        refine fin _ _ h0 hfr _ (Or.inr ⟨fun ok => ?_, rfl⟩)
        rcases hfr with w | w
        · omega
        · rcases ok.1 with y | y
          · exact w.2.1 y
          · omega
      · unfold qX12_goal_J106
        refine fin _ _ h0 hfr _ (Or.inl ⟨⟨?_, Or.inl (pass.mp c2)⟩, rfl⟩)
        rcases hfr with w | w
        · exact w.2
        · exact absurd w.1 c1
      · unfold qX12_goal_J111
        refine fin _ _ h0 hfr _ (Or.inr ⟨fun ok => ?_, rfl⟩)
        rcases ok.2 with y | y
        · exact c2 (pass.mpr y)
        · rcases h0 with w | w
          · exact c3 w.1
          · obtain ⟨x, a, q, u⟩ := w.2
            exact u (y x a q)
      · unfold qX12_goal_J106
        refine fin _ _ h0 hfr _ (Or.inl ⟨⟨?_, Or.inr ?_⟩, rfl⟩)
        · rcases hfr with w | w
          · exact w.2
          · exact absurd w.1 c1
        · rcases h0 with w | w
          · exact w.2
          · omega
    have J63 : ∀ t0 : Int, ((t0 = 0 ∧ ∀ x, f ≤ x → x ≤ v8 → E 2 x = 0) ∨ (t0 = 1 ∧ ∃ x, f ≤ x ∧ x ≤ v8 ∧ E 2 x ≠ 0)) → qX12_goal_J63 k1 p2 p3 (qX12_goal_L27 k1 p2 p3 Q n) Q f v5 v6 v8 t0 M := by
      intro t0 h0
      unfold qX12_goal_J63
      refine gX12_gate hI hE ?_
      intro _
      refine ⟨⟨by omega, by omega⟩, ⟨fun c1 => ?_, fun c1 => ?_⟩⟩
      · unfold qX12_goal_J84
        exact J89 _ _ h0 (Or.inl ⟨rfl, Or.inl c1⟩)
      · refine gX12_onCell hI hE ?_
        intro _
        refine ⟨fun c2 => J89 _ _ h0 (Or.inr ⟨rfl, c1, c2⟩), fun c2 => ?_⟩
        unfold qX12_goal_J84
        exact J89 _ _ h0 (Or.inl ⟨rfl, Or.inr (by omega)⟩)
    have J58 : (∃ x, f ≤ x ∧ x ≤ v8 ∧ E 2 x ≠ 0) → qX12_goal_J58 k1 p2 p3 (qX12_goal_L27 k1 p2 p3 Q n) Q f v5 v6 v8 M := by
      intro h
      unfold qX12_goal_J58
      exact J63 _ (Or.inr ⟨rfl, h⟩)
    refine ⟨fun c7 => J58 ?_, fun c7 => ⟨by clear h6 h7; omega, by clear h6 h7; omega, ?_⟩⟩
    · rcases h7.2 with w | w
      · exact absurd w.1 c7
      · obtain ⟨x, a, q, u⟩ := w.2
        exact ⟨x, a, by omega, u⟩
    · intro x32 e32 _
      have f32 : x32 = E 2 v8 := by rw [e32]; exact hE 2 _ (cE2 _)
      refine ⟨fun c8 => J63 _ (Or.inl ⟨rfl, fun x a q => ?_⟩), fun c8 => J58 ⟨v8, by omega, by omega, by rw [← f32]; exact c8⟩⟩
      by_cases cx : x = v8
      · rw [cx, ← f32]; exact c8
      · rcases h7.2 with w | w
        · exact w.2 x a (by omega)
        · exact absurd c7 w.1
theorem gX12_goal {k1 : Nat} {p2 p3 b : Int} {M E : Mem} {Q : Int → Mem → Prop} (hI : IM b M) (hE : CE E M) (hk1 : isN k1) (hp2 : 0 ≤ p2 ∧ p2 ≤ 5) (hf : 0 ≤ M k1 p2 ∧ M k1 p2 < eG E) (hp : 0 ≤ p3 ∧ p3 ≤ 3) (hQ : Q (goF E (M k1) p2 p3) M) : qX12_goal k1 p2 p3 M Q := by
  have bg := hE.g hI
  unfold qX12_goal
  refine ⟨by omega, by omega, ?_⟩
  intro x3 e3 _
  rw [← e3] at hf
  refine ⟨by omega, by omega, ?_⟩
  intro x6 e6 r6
  have f6 : x6 = E 2 x3 := by rw [e6]; exact hE 2 _ (cE2 _)
  refine ⟨31, gX12_goal_L27 hI hE hk1 hf hp ?_ _ _ _ _ _ (by omega) (by omega) (Or.inl rfl) (fun x a q => by omega) (Or.inl ⟨rfl, fun x a q => by omega⟩) ⟨r6, ?_⟩ (by omega)⟩
  · intro z z0 z1 zo zx
    have e : goF E (M k1) p2 p3 = z := by
      unfold goF
      rw [← e3]
      refine gdF_u ⟨⟨z0, by omega⟩, zo, fun x a q => zx x a (by omega)⟩
    rw [← e]
    exact hQ
  · by_cases c : x6 = 0
    · exact Or.inl ⟨c, fun x a q => by rw [show x = x3 from by omega, ← f6]; exact c⟩
    · exact Or.inr ⟨c, x3, by omega, by omega, by rw [← f6]; exact c⟩
