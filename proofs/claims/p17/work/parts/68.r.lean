-- how many cells are free
theorem frF_c {c : Int → Int} {H : Nat} {g v : Int} : ∀ (n : Nat) (m : Int), 0 ≤ m → v + m ≤ g → (∀ x, v < x → x ≤ v + m → x = g ∨ onF c H x < 0) → g - v - m < (n : Int) → 0 ≤ frF c H g v n m ∧ v + frF c H g v n m ≤ g ∧ (∀ x, v < x → x ≤ v + frF c H g v n m → x = g ∨ onF c H x < 0) ∧ (v + frF c H g v n m = g ∨ 0 ≤ onF c H (v + frF c H g v n m + 1) ∧ v + frF c H g v n m + 1 ≠ g) := by
  intro n
  induction n with
  | zero => intro m h0 h1 h2 hm; exact absurd hm (by omega)
  | succ n ih =>
    intro m h0 h1 h2 hm
    unfold frF
    by_cases c1 : g ≤ v + m
    · rw [if_pos c1]; exact ⟨h0, h1, h2, Or.inl (by omega)⟩
    · rw [if_neg c1]
      by_cases c2 : v + m + 1 = g
      · rw [if_pos c2]
        refine ih (m + 1) (by omega) (by omega) (fun x a q => ?_) (by omega)
        by_cases cx : x = v + m + 1
        · exact Or.inl (by omega)
        · exact h2 x a (by omega)
      · rw [if_neg c2]
        by_cases c3 : 0 ≤ onF c H (v + m + 1)
        · rw [if_pos c3]; exact ⟨h0, h1, h2, Or.inr ⟨c3, c2⟩⟩
        · rw [if_neg c3]
          refine ih (m + 1) (by omega) (by omega) (fun x a q => ?_) (by omega)
          by_cases cx : x = v + m + 1
          · exact Or.inr (by rw [cx]; omega)
          · exact h2 x a (by omega)
theorem gX6_freeAhead_L15 {k0 : Nat} {p1 p2 f : Int} {Q : Int → Mem → Prop} {M E : Mem} {r : Int → Int} (hS : STR E M) (hC : SC E M k0 r) (hW : WR E r) (hf : 0 ≤ f ∧ f < eG E) (hQ : Q (frF r (eH E) (eG E) f 31 0) M) : ∀ (n : Nat) (v4 v5 : Int), (0 ≤ v4 ∧ v4 ≤ eG E - f) → (v4 = eG E - f ∨ ∃ o, 0 ≤ o ∧ o < v5 ∧ r o = f + v4 + 1) → (∀ o, 0 ≤ o → o < v5 → f < r o → v4 ≤ r o - f - 1) → (0 ≤ v5 ∧ v5 ≤ E 1 4) → E 1 4 - v5 < (n : Int) → qX6_freeAhead_L15 k0 p1 p2 Q n f v4 v5 M := by
  intro n
  induction n with
  | zero => intro v4 v5 h4 he ha hv hm; exact absurd hm (by omega)
  | succ n ih =>
    intro v4 v5 h4 he ha hv hm
    have bH := hS.h
    have b4 := hS.2.2.2.2.2.2.1
    have bg := hS.g
    rw [qX6_freeAhead_L15]
    intro x4 e4 _
    have f4 : x4 = E 1 4 := by rw [e4]; exact hC.1
    refine ⟨⟨by omega, by omega⟩, ⟨fun c => ⟨⟨by omega, by omega⟩, ?_⟩, fun c => ⟨by omega, by omega, ?_⟩⟩⟩
    · have F := frF_c (c := r) (H := eH E) (g := eG E) (v := f) 31 0 (by omega) (by omega) (fun x a q => by omega) (by omega)
      have e : v4 = frF r (eH E) (eG E) f 31 0 := by
        rcases Int.lt_trichotomy v4 (frF r (eH E) (eG E) f 31 0) with w | w | w
        · exfalso
          rcases he with h | ⟨o, o0, o1, o2⟩
          · omega
          · have wo := hW.2.1 o o0 (by omega)
            rcases F.2.2.1 (f + v4 + 1) (by omega) (by omega) with q | q
            · omega
            · exact onF_n q o o0 (by omega) o2
        · exact w
        · exfalso
          rcases F.2.2.2 with q | q
          · omega
          · have oc := onF_c q.1
            have ob := onF_b r (eH E) (f + frF r (eH E) (eG E) f 31 0 + 1)
            have := ha _ q.1 (by omega) (by rw [oc]; omega)
            rw [oc] at this
            omega
      rw [e]
      exact hQ
    · intro x10 e10 _
      have f10 : x10 = r v5 := by rw [e10]; exact hC.2.2.1 v5 (by omega) (by omega)
      have w5 := hW.2.1 v5 hv.1 (by omega)
      rw [← f10] at w5
      have he' : v4 = eG E - f ∨ ∃ o, 0 ≤ o ∧ o < v5 + 1 ∧ r o = f + v4 + 1 := by
        rcases he with h | ⟨o, o0, o1, o2⟩
        · exact Or.inl h
        · exact Or.inr ⟨o, o0, by omega, o2⟩
      have ha' : (f < x10 → v4 ≤ x10 - f - 1) → ∀ o, 0 ≤ o → o < v5 + 1 → f < r o → v4 ≤ r o - f - 1 := by
        intro hx o o0 o1 o2
        by_cases co : o = v5
        · rw [co, ← f10] at o2 ⊢; exact hx o2
        · exact ha o o0 (by omega) o2
      refine ⟨⟨by omega, by omega⟩, ⟨fun c2 => ih _ _ h4 he' (ha' (fun q => by omega)) (by omega) (by omega), fun c2 => ⟨⟨by omega, by omega⟩, ⟨fun c3 => ih _ _ h4 he' (ha' (fun q => by omega)) (by omega) (by omega), fun c3 => ?_⟩⟩⟩⟩
      refine ih _ _ (by omega) (Or.inr ⟨v5, hv.1, by omega, by omega⟩) (fun o o0 o1 o2 => ?_) (by omega) (by omega)
      by_cases co : o = v5
      · rw [co]; omega
      · have := ha o o0 (by omega) o2
        omega
theorem gX6_freeAhead {k0 : Nat} {p1 p2 : Int} {Q : Int → Mem → Prop} {M E : Mem} {r : Int → Int} (hS : STR E M) (hC : SC E M k0 r) (hW : WR E r) (hp : 0 ≤ p1 ∧ p1 < E 1 4) (hr : 0 ≤ r p1) (hp2 : p2 = eG E) (hQ : Q (frF r (eH E) (eG E) (r p1) 31 0) M) : qX6_freeAhead k0 p1 p2 M Q := by
  have b4 := hS.2.2.2.2.2.2.1
  have w := hW.2.1 p1 hp.1 hp.2
  unfold qX6_freeAhead
  refine ⟨by omega, by omega, ?_⟩
  intro x3 e3 _
  have f3 : x3 = r p1 := by rw [e3]; exact hC.2.2.1 p1 (by omega) (by omega)
  rw [f3, hp2]
  exact ⟨7, gX6_freeAhead_L15 hS hC hW (by omega) hQ _ _ _ (by omega) (Or.inl rfl) (fun o o0 o1 => by omega) (by omega) (by omega)⟩
theorem gX6_bitsOf_L5 {k0 k1 : Nat} {p2 : Int} {Q : Int → Mem → Prop} {M E : Mem} (hS : STR E M) (h7 : M k0 7 = E 1 5) (hQ : Q (bitF (M k1) p2 (eO E)) M) : ∀ (n : Nat) (v3 v4 : Int), v3 = bitF (M k1) p2 v4.toNat → (0 ≤ v4 ∧ v4 ≤ E 1 5) → E 1 5 - v4 < (n : Int) → qX6_bitsOf_L5 k0 k1 p2 Q n v3 v4 M := by
  intro n
  induction n with
  | zero => intro v3 v4 h3 hv hm; exact absurd hm (by omega)
  | succ n ih =>
    intro v3 v4 h3 hv hm
    have bO := hS.o
    have b5 := hS.2.2.2.2.2.2.2.1
    have r3 := bitF_R (M k1) p2 v4.toNat
    rw [← h3] at r3
    rw [qX6_bitsOf_L5]
    intro x1 e1 _
    refine ⟨⟨by omega, by omega⟩, ⟨fun c => ⟨r3, ?_⟩, fun c => ⟨by omega, by omega, ?_⟩⟩⟩
    · rw [h3, show v4.toNat = eO E from by omega]
      exact hQ
    · intro x7 e7 _
      have hs := bitF_s (f := M k1) (x := p2) hv.1
      refine ⟨fun c2 => ?_, fun c2 => ?_⟩
      · intro x9 e9 _
        refine ih _ _ ?_ (by omega) (by omega)
        rw [hs, if_neg (by rw [← e7]; exact c2), e9, h3]
      · intro x10 e10 _ x11 e11 _
        refine ih _ _ ?_ (by omega) (by omega)
        rw [hs, if_pos (by rw [← e7]; exact c2), e11, e10, h3]
theorem gX6_bitsOf {k0 k1 : Nat} {p2 : Int} {Q : Int → Mem → Prop} {M E : Mem} (hS : STR E M) (h7 : M k0 7 = E 1 5) (hQ : Q (bitF (M k1) p2 (eO E)) M) : qX6_bitsOf k0 k1 p2 M Q := by
  have b5 := hS.2.2.2.2.2.2.2.1
  unfold qX6_bitsOf
  exact ⟨9, gX6_bitsOf_L5 hS h7 hQ _ _ _ rfl (by omega) (by omega)⟩
theorem gX8_isCorner {p1 : Int} {Q : Int → Mem → Prop} {M E : Mem} (hS : STR E M) (hp : 0 ≤ p1 ∧ p1 < E 1 3) (hQ : Q (if E 2 p1 = 0 then 0 else 1) M) : qX8_isCorner p1 M Q := by
  have b3 := hS.2.1
  unfold qX8_isCorner
  intro x1 e1 _ x2 e2 _ x3 e3 _
  have k := hS.2.2.1 p1.toNat (by omega)
  rw [show ((p1.toNat : Nat) : Int) = p1 from by omega] at k
  rw [e2, bit1 (by omega), e1] at e3
  refine ⟨fun c => ?_, fun c => ?_⟩
  · have h : ¬ bt (iI (M 158 2)) p1.toNat = true := fun q => c (by rw [e3, if_pos q])
    rw [if_pos (by
      by_cases z : E 2 p1 = 0
      · exact z
      · exact absurd (k.mpr z) h)] at hQ
    exact hQ
  · have h : bt (iI (M 158 2)) p1.toNat = true := by
      by_cases q : bt (iI (M 158 2)) p1.toNat = true
      · exact q
      · rw [if_neg q] at e3; omega
    rw [if_neg (k.mp h)] at hQ
    exact hQ
theorem gX8_weatherAt {p1 : Int} {Q : Int → Mem → Prop} {M E : Mem} (hS : STR E M) (hp : 0 ≤ p1 ∧ p1 ≤ 2147483647) (hQ : Q (E 4 (rmI p1 (E 1 7))) M) : qX8_weatherAt p1 M Q := by
  have h7 := hS.2.2.2.1
  have b7 := hS.2.2.2.2.1
  have b3 := rmI_b (a := p1) (b := E 1 7) hp ⟨by omega, by omega⟩
  unfold qX8_weatherAt
  intro x1 e1 _
  refine ⟨fun c => by omega, fun _ => ⟨fun _ => ?_, fun c => by omega⟩⟩
  intro x4 e4 _
  refine ⟨by omega, ?_⟩
  intro x6 e6 _
  rw [e4, h7] at e6
  refine ⟨by omega, by omega, ?_⟩
  intro x9 e9 _
  rw [e9, e6, hS.2.2.2.2.2.1 _ (by omega) (by omega)]
  exact hQ
theorem gX2_uses {k0 : Nat} {p1 : Int} {Q : Int → Mem → Prop} {M : Mem} (hp : 0 ≤ p1 ∧ p1 ≤ 6) (hQ : ∀ z : Int, (z = 1 ∧ bt (iI (M k0 5)) p1.toNat = true ∨ z = 0 ∧ ¬ bt (iI (M k0 5)) p1.toNat = true) → Q z M) : qX2_uses k0 p1 M Q := by
  unfold qX2_uses
  intro x1 e1 _ x2 e2 _ x3 e3 _
  rw [e2, bit1 (by omega), e1] at e3
  refine ⟨fun c => hQ _ (Or.inr ⟨rfl, fun q => c (by rw [e3, if_pos q])⟩), fun c => hQ _ (Or.inl ⟨rfl, ?_⟩)⟩
  by_cases q : bt (iI (M k0 5)) p1.toNat = true
  · exact q
  · rw [if_neg q] at e3; omega
/-- what the letters stand for is told, where they are used -/
def OBS (E M : Mem) (kl : Nat) (e : Int → Int) : Prop := ∀ j, 0 ≤ j → j < 7 → bt (iI (M kl 5)) j.toNat = true → M (kl + 4) j = e j
theorem gX2_observe {k0 k1 : Nat} {p3 : Int} {Q : Mem → Prop} {M E : Mem} {r : Int → Int} (hI : IX M) (hk0 : isL k0) (hk1 : isS k1) (hS : STR E M) (hC : SC E M k1 r) (hW : WR E r) (hp : 0 ≤ p3 ∧ p3 < E 1 4) (hr : 0 ≤ r p3) (h37 : r 37 ≤ 2147483647) (hQ : ∀ M' : Mem, IX M' → Ks (fun k j => k = k0 + 4) M M' → OBS E M' k0 (envF E r p3) → Q M') : qX2_observe k0 k1 p3 M Q := by
  have el : k0 = 187 ∨ k0 = 192 := hk0
  have es : 0 < k1 ∧ k1 < 155 ∧ (k1 - 1) % 7 = 0 := hk1
  have b4 := hS.2.2.2.2.2.2.1
  have wp := hW.2.1 p3 hp.1 hp.2
  have bg := hS.g
  have b3 := hS.2.1
  have w37 := hW.2.2.2.2
  have c3 : ∀ M' : Mem, Ks (fun k j => k = k0 + 4) M M' → M' (k1 + 1) p3 = r p3 := fun M' f => by rw [f (k1 + 1) p3 (by omega)]; exact hC.2.2.1 p3 (by omega) (by omega)
  have fS : ∀ M' : Mem, Ks (fun k j => k = k0 + 4) M M' → STR E M' := fun M' f => hS.fr (f 158 1 (by omega)) (f 158 2 (by omega)) (f 158 3 (by omega)) (fun j => f 159 j (by omega))
  have fC : ∀ M' : Mem, Ks (fun k j => k = k0 + 4) M M' → SC E M' k1 r := fun M' f => hC.fr (fun i j hi => f (k1 + i) j (by omega))
  have J128 : ∀ (t0 : Int) (M' : Mem), iR t0 → IX M' → Ks (fun k j => k = k0 + 4) M M' → (bt (iI (M k0 5)) 6 = true → t0 = envF E r p3 6) → (∀ j, 0 ≤ j → j < 6 → bt (iI (M k0 5)) j.toNat = true → M' (k0 + 4) j = envF E r p3 j) → qX2_observe_J128 k0 k1 p3 Q t0 6 M' := by
    intro t0 M' rt i' f' h6 ho
    unfold qX2_observe_J128
    refine ⟨by decide, by decide, rt, ?_⟩
    intro M32 h32
    refine hQ _ (by rw [h32]; exact i'.up (isL.nsp4 hk0) (bx_lf4 hk0)) (by rw [h32]; exact f'.wr rfl) (fun j a q u => ?_)
    rw [h32, up2_n (by omega), f' k0 5 (by omega)] at u
    by_cases cj : j = 6
    · rw [cj, h32, up2_s]; exact h6 (by rw [cj] at u; exact u)
    · rw [h32, up2_j cj]; exact ho j a (by omega) u
  have J62 : ∀ (t0 : Int) (M' : Mem), iR t0 → IX M' → Ks (fun k j => k = k0 + 4) M M' → t0 = envF E r p3 2 → (∀ j, 0 ≤ j → j < 2 → bt (iI (M k0 5)) j.toNat = true → M' (k0 + 4) j = envF E r p3 j) → qX2_observe_J62 k0 k1 p3 Q t0 2 M' := by
    intro t0 M' rt i' f' h2 ho
    unfold qX2_observe_J62
    refine ⟨by decide, by decide, rt, ?_⟩
    intro M19 h19 x20 e20 r20
    have i19 : IX M19 := by rw [h19]; exact i'.up (isL.nsp4 hk0) (bx_lf4 hk0)
    have f19 : Ks (fun k j => k = k0 + 4) M M19 := by rw [h19]; exact f'.wr rfl
    have g20 : x20 = r 37 := by rw [e20]; exact (fC _ f19).2.2.2.2.2.2.2.2.2.1
    refine gX8_weatherAt (fS _ f19) (by omega) ?_
    intro _ M22 h22 x23 e23 _ x24 e24 _ M25 h25 M26 h26
    have i22 : IX M22 := by rw [h22]; exact i19.up (isL.nsp4 hk0) (bx_lf4 hk0)
    have f22 : Ks (fun k j => k = k0 + 4) M M22 := by rw [h22]; exact f19.wr rfl
    have g23 : x23 = r 37 := by rw [e23]; exact (fC _ f22).2.2.2.2.2.2.2.2.2.1
    have i25 : IX M25 := by rw [h25]; exact i22.up (isL.nsp4 hk0) (bx_lf4 hk0)
    have f25 : Ks (fun k j => k = k0 + 4) M M25 := by rw [h25]; exact f22.wr rfl
    have i26 : IX M26 := by rw [h26]; exact i25.up (isL.nsp4 hk0) (bx_lf4 hk0)
    have f26 : Ks (fun k j => k = k0 + 4) M M26 := by rw [h26]; exact f25.wr rfl
    have ho26 : ∀ j, 0 ≤ j → j < 6 → bt (iI (M k0 5)) j.toNat = true → M26 (k0 + 4) j = envF E r p3 j := by
      intro j a q u
      have : j = 5 ∨ j = 4 ∨ j = 3 ∨ j = 2 ∨ j < 2 := by omega
      rcases this with rfl | rfl | rfl | rfl | w
      · rw [h26, up2_s]; rfl
      · rw [h26, up2_j (by decide), h25, up2_s, e24, g23]; rfl
      · rw [h26, up2_j (by decide), h25, up2_j (by decide), h22, up2_s, g20]; rfl
      · rw [h26, up2_j (by decide), h25, up2_j (by decide), h22, up2_j (by decide), h19, up2_s, h2]
      · rw [h26, up2_j (by omega), h25, up2_j (by omega), h22, up2_j (by omega), h19, up2_j (by omega)]
        exact ho j a w u
    refine gX2_uses (p1 := 6) (by decide) ?_
    intro x27 p27 _ _
    rw [f26 k0 5 (by omega)] at p27
    refine ⟨fun c => ?_, fun c => ?_⟩
    · exact J128 _ _ (by decide) i26 f26 (fun q => by
        rcases p27 with w | w
        · omega
        · exact absurd q w.2) ho26
    · refine gX6_bitsOf (fS _ f26) (fC _ f26).2.1 ?_
      intro _
      refine gJ6_bitCount ?_
      intro r34
      refine J128 _ _ r34 i26 f26 (fun _ => ?_) ho26
      have b5 := hS.2.2.2.2.2.2.2.1
      have bO := hS.o
      show bcF (bitF (M26 (k1 + 5)) p3 (eO E)) = bcF (bitF (fun m => r (21 + m)) p3 (eO E))
      rw [bitF_cg (g := fun m => r (21 + m)) (fun i a q => (fC _ f26).2.2.2.2.2.2.2.1 i a (by omega))]
  have J38 : ∀ (t0 : Int) (M' : Mem), iR t0 → IX M' → Ks (fun k j => k = k0 + 4) M M' → (bt (iI (M k0 5)) 1 = true → t0 = envF E r p3 1) → M' (k0 + 4) 0 = r p3 → qX2_observe_J38 k0 k1 p3 Q t0 1 M' := by
    intro t0 M' rt i' f' h1 h0
    unfold qX2_observe_J38
    refine ⟨by decide, by decide, rt, ?_⟩
    intro M10 h10
    have i10 : IX M10 := by rw [h10]; exact i'.up (isL.nsp4 hk0) (bx_lf4 hk0)
    have f10 : Ks (fun k j => k = k0 + 4) M M10 := by rw [h10]; exact f'.wr rfl
    have ho : ∀ j, 0 ≤ j → j < 2 → bt (iI (M k0 5)) j.toNat = true → M10 (k0 + 4) j = envF E r p3 j := by
      intro j a q u
      have : j = 0 ∨ j = 1 := by omega
      rcases this with rfl | rfl
      · rw [h10, up2_j (by decide), h0]; rfl
      · rw [h10, up2_s]; exact h1 u
    refine ⟨by omega, by omega, ?_⟩
    intro x13 e13 _
    have g13 : x13 = r p3 := by rw [e13]; exact c3 _ f10
    refine gX8_isCorner (fS _ f10) (by show 0 ≤ x13 ∧ x13 < E 1 3; have : eG E = E 1 3 - 1 := rfl; omega) ?_
    intro _ _
    rw [g13]
    refine ⟨fun c => J62 _ _ (by decide) i10 f10 ?_ ho, fun c => J62 _ _ (by decide) i10 f10 ?_ ho⟩
    · show (0 : Int) = if E 2 (r p3) = 0 then 0 else 1
      exact c.symm
    · show (1 : Int) = if E 2 (r p3) = 0 then 0 else 1
      split
      · rename_i z
        rw [if_pos z] at c
        exact absurd rfl c
      · rfl
  unfold qX2_observe
  refine ⟨by omega, by omega, ?_⟩
  intro x3 e3 _ M4 h4
  have g3 : x3 = r p3 := by rw [e3]; exact c3 _ Ks.rf
  have i4 : IX M4 := by rw [h4]; exact hI.up (isL.nsp4 hk0) (bx_lf4 hk0)
  have f4 : Ks (fun k j => k = k0 + 4) M M4 := by rw [h4]; exact Ks.rf.wr rfl
  have h0 : M4 (k0 + 4) 0 = r p3 := by rw [h4, up2_s, g3]
  refine gX2_uses (p1 := 1) (by decide) ?_
  intro x5 p5 _ _
  rw [f4 k0 5 (by omega)] at p5
  refine ⟨fun c => ?_, fun c => ?_⟩
  · exact J38 _ _ (by decide) i4 f4 (fun q => by
      rcases p5 with w | w
      · omega
      · exact absurd q w.2) h0
  · refine gX8_gate i4 (fS _ f4) ?_
    intro _
    refine gX6_freeAhead (fS _ f4) (fC _ f4) hW hp hr rfl ?_
    intro r36
    exact J38 _ _ r36 i4 f4 (fun _ => rfl) h0
