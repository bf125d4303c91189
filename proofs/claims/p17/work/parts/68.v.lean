-- the class's step
theorem gX6_foremostBelow_L7 {k0 : Nat} {p1 : Int} {Q : Int → Mem → Prop} {M E : Mem} {r : Int → Int} (hS : STR E M) (hC : SC E M k0 r) (hW : WR E r) (hQ : ∀ z : Int, (z = -1 ∧ (∀ h, 0 ≤ h → h < E 1 4 → 0 ≤ r h → ¬ r h < p1)) ∨ ((0 ≤ z ∧ z < E 1 4) ∧ 0 ≤ r z ∧ r z < p1 ∧ ∀ h, 0 ≤ h → h < E 1 4 → r h < p1 → r h ≤ r z) → Q z M) : ∀ (n : Nat) (v2 v3 v4 : Int), (v2 = -1 ∧ v3 = -1 ∧ (∀ h, 0 ≤ h → h < v4 → 0 ≤ r h → ¬ r h < p1)) ∨ ((0 ≤ v2 ∧ v2 < v4) ∧ v3 = r v2 ∧ 0 ≤ v3 ∧ v3 < p1 ∧ ∀ h, 0 ≤ h → h < v4 → r h < p1 → r h ≤ v3) → (0 ≤ v4 ∧ v4 ≤ E 1 4) → E 1 4 - v4 < (n : Int) → qX6_foremostBelow_L7 k0 p1 Q n v2 v3 v4 M := by
  intro n
  induction n with
  | zero => intro v2 v3 v4 hs hv hm; exact absurd hm (by omega)
  | succ n ih =>
    intro v2 v3 v4 hs hv hm
    have b4 := hS.2.2.2.2.2.2.1
    have bg := hS.g
    have b3 : -1 ≤ v3 ∧ v3 ≤ 29 ∧ -1 ≤ v2 ∧ v2 ≤ 5 := by
      rcases hs with h | h
      · omega
      · have := hW.2.1 v2 h.1.1 (by omega)
        omega
    rw [qX6_foremostBelow_L7]
    intro x1 e1 _
    have f1 : x1 = E 1 4 := by rw [e1]; exact hC.1
    refine ⟨⟨by omega, by omega⟩, ⟨fun c => ⟨⟨by omega, by omega⟩, hQ _ ?_⟩, fun c => ⟨by omega, by omega, ?_⟩⟩⟩
    · rcases hs with h | h
      · exact Or.inl ⟨h.1, fun i a q w => h.2.2 i a (by omega) w⟩
      · refine Or.inr ⟨by omega, by omega, by omega, fun i a q w => ?_⟩
        have := h.2.2.2.2 i a (by omega) w
        omega
    · intro x7 e7 _
      have f7 : x7 = r v4 := by rw [e7]; exact hC.2.2.1 v4 (by omega) (by omega)
      have w4 := hW.2.1 v4 hv.1 (by omega)
      have SK : (r v4 < p1 → r v4 ≤ v3) → qX6_foremostBelow_L7 k0 p1 Q n v2 v3 (v4 + 1) M := by
        intro hk
        refine ih _ _ _ ?_ (by omega) (by omega)
        rcases hs with h | h
        · refine Or.inl ⟨h.1, h.2.1, fun i a q w u => ?_⟩
          by_cases ci : i = v4
          · rw [ci] at w u
            have := hk u
            omega
          · exact h.2.2 i a (by omega) w u
        · refine Or.inr ⟨by omega, h.2.1, h.2.2.1, h.2.2.2.1, fun i a q w => ?_⟩
          by_cases ci : i = v4
          · rw [ci] at w ⊢; exact hk w
          · exact h.2.2.2.2 i a (by omega) w
      refine ⟨fun c2 => SK (fun q => by omega), fun c2 => ?_⟩
      intro x9 e9 _
      have f9 : x9 = r v4 := by rw [e9, ← e7, f7]
      refine ⟨⟨by omega, by omega⟩, ⟨fun c3 => SK (fun _ => by omega), fun c3 => ?_⟩⟩
      intro x12 e12 _
      have f12 : x12 = r v4 := by rw [e12, ← e7, f7]
      refine ih _ _ _ (Or.inr ⟨by omega, f12, by omega, by omega, fun i a q w => ?_⟩) (by omega) (by omega)
      by_cases ci : i = v4
      · rw [ci]; omega
      · rcases hs with h | h
        · rcases Int.lt_or_le (r i) 0 with u | u
          · omega
          · exact absurd w (h.2.2 i a (by omega) u)
        · have := h.2.2.2.2 i a (by omega) w
          omega
theorem gX6_foremostBelow {k0 : Nat} {p1 : Int} {Q : Int → Mem → Prop} {M E : Mem} {r : Int → Int} (hS : STR E M) (hC : SC E M k0 r) (hW : WR E r) (hQ : ∀ z : Int, (z = -1 ∧ (∀ h, 0 ≤ h → h < E 1 4 → 0 ≤ r h → ¬ r h < p1)) ∨ ((0 ≤ z ∧ z < E 1 4) ∧ 0 ≤ r z ∧ r z < p1 ∧ ∀ h, 0 ≤ h → h < E 1 4 → r h < p1 → r h ≤ r z) → Q z M) : qX6_foremostBelow k0 p1 M Q := by
  have b4 := hS.2.2.2.2.2.2.1
  unfold qX6_foremostBelow
  exact ⟨7, gX6_foremostBelow_L7 hS hC hW hQ _ _ _ _ (Or.inl ⟨rfl, rfl, fun h a q => by omega⟩) (by omega) (by omega)⟩
-- the line, from the foremost on
theorem lnL_0 {r : Int → Int} {H : Nat} (c : Nat) (h : ∀ i : Int, 0 ≤ i → i < H → 0 ≤ r i → ¬ r i < c) : lnL r H c = [] := by
  induction c with
  | zero => rfl
  | succ c ih =>
    unfold lnL
    have : onF r H c = -1 := onF_z (fun i a q w => h i a q (by omega) (by omega))
    rw [this, if_neg (by decide)]
    exact ih (fun i a q w u => h i a q w (by omega))
theorem lnL_f {r : Int → Int} {H : Nat} {h : Int} (hd : DST r H) (h0 : 0 ≤ h ∧ h < H) (hr : 0 ≤ r h) (c : Nat) (hc : r h < c) (hmax : ∀ i : Int, 0 ≤ i → i < H → r i < c → r i ≤ r h) : lnL r H c = h :: lnL r H (r h).toNat := by
  induction c with
  | zero => omega
  | succ c ih =>
    show (if 0 ≤ onF r H c then onF r H c :: lnL r H c else lnL r H c) = _
    by_cases e : r h = c
    · have o : onF r H c = h := onF_u hd h0.1 h0.2 e (by omega)
      rw [o, if_pos h0.1, show (r h).toNat = c from by omega]
    · have o : onF r H c = -1 := onF_z (fun i a q w => by have := hmax i a q (by omega); omega)
      rw [o, if_neg (by decide)]
      exact ih (by omega) (fun i a q w => hmax i a q (by omega))
theorem lnL_cg {r r' : Int → Int} {H : Nat} (c : Nat) (h : ∀ v : Int, 0 ≤ v → v < c → onF r H v = onF r' H v) : lnL r H c = lnL r' H c := by
  induction c with
  | zero => rfl
  | succ c ih =>
    unfold lnL
    rw [h c (by omega) (by omega), ih (fun v a q => h v a (by omega))]
theorem mhF_h {E : Mem} {r : Int → Int} {h : Int} (hh : 0 ≤ h ∧ h < 6) (hf : 0 ≤ r h ∧ r h < eG E) : r h ≤ mhF E r h h ∨ mhF E r h h = -1 := by
  have g := goF_b hf
  unfold mhF
  split
  · exact Or.inl (Int.le_refl _)
  · split
    · rw [upS]; exact Or.inr rfl
    · rw [upS]; exact Or.inl g.1.1
/-- how many stand below v -/
def tB (r : Int → Int) (H v h : Int) : Int := if h < H ∧ 0 ≤ r h ∧ r h < v then 1 else 0
def sB (r : Int → Int) (H v : Int) : Int := tB r H v 0 + tB r H v 1 + tB r H v 2 + tB r H v 3 + tB r H v 4 + tB r H v 5
theorem tB_b (r : Int → Int) (H v h : Int) : 0 ≤ tB r H v h ∧ tB r H v h ≤ 1 := by
  unfold tB
  split <;> omega
theorem tB_m {r r' : Int → Int} {H v v' h : Int} (hr : 0 ≤ r' h → r' h < v' → 0 ≤ r h ∧ r h < v) : tB r' H v' h ≤ tB r H v h := by
  unfold tB
  by_cases c : h < H ∧ 0 ≤ r' h ∧ r' h < v'
  · rw [if_pos c, if_pos ⟨c.1, hr c.2.1 c.2.2⟩]; exact Int.le_refl _
  · rw [if_neg c]; split <;> decide
theorem sB_s {E : Mem} {r : Int → Int} {h v : Int} (hE : EBx E) (hh : 0 ≤ h ∧ h < E 1 4) (hf : 0 ≤ r h ∧ r h < eG E) (hv : r h < v) : sB (mhF E r h) (E 1 4) (r h) + 1 ≤ sB r (E 1 4) v := by
  have e4 := hE.2.1
  have oth : ∀ i, 0 ≤ i → i < 6 → i ≠ h → tB (mhF E r h) (E 1 4) (r h) i ≤ tB r (E 1 4) v i := fun i a q w => tB_m (fun u1 u2 => by
    rw [mhF_o w (by omega) (by omega)] at u1 u2
    omega)
  have hh0 : tB (mhF E r h) (E 1 4) (r h) h = 0 := by
    unfold tB
    rw [if_neg]
    intro w
    rcases mhF_h ⟨hh.1, by omega⟩ hf with u | u <;> omega
  have hh1 : tB r (E 1 4) v h = 1 := by
    unfold tB
    rw [if_pos ⟨hh.2, hf.1, hv⟩]
  unfold sB
  have : h = 0 ∨ h = 1 ∨ h = 2 ∨ h = 3 ∨ h = 4 ∨ h = 5 := by omega
  rcases this with rfl | rfl | rfl | rfl | rfl | rfl
  · have a1 := oth 1 (by omega) (by omega) (by omega)
    have a2 := oth 2 (by omega) (by omega) (by omega)
    have a3 := oth 3 (by omega) (by omega) (by omega)
    have a4 := oth 4 (by omega) (by omega) (by omega)
    have a5 := oth 5 (by omega) (by omega) (by omega)
    omega
  · have a1 := oth 0 (by omega) (by omega) (by omega)
    have a2 := oth 2 (by omega) (by omega) (by omega)
    have a3 := oth 3 (by omega) (by omega) (by omega)
    have a4 := oth 4 (by omega) (by omega) (by omega)
    have a5 := oth 5 (by omega) (by omega) (by omega)
    omega
  · have a1 := oth 0 (by omega) (by omega) (by omega)
    have a2 := oth 1 (by omega) (by omega) (by omega)
    have a3 := oth 3 (by omega) (by omega) (by omega)
    have a4 := oth 4 (by omega) (by omega) (by omega)
    have a5 := oth 5 (by omega) (by omega) (by omega)
    omega
  · have a1 := oth 0 (by omega) (by omega) (by omega)
    have a2 := oth 1 (by omega) (by omega) (by omega)
    have a3 := oth 2 (by omega) (by omega) (by omega)
    have a4 := oth 4 (by omega) (by omega) (by omega)
    have a5 := oth 5 (by omega) (by omega) (by omega)
    omega
  · have a1 := oth 0 (by omega) (by omega) (by omega)
    have a2 := oth 1 (by omega) (by omega) (by omega)
    have a3 := oth 2 (by omega) (by omega) (by omega)
    have a4 := oth 3 (by omega) (by omega) (by omega)
    have a5 := oth 5 (by omega) (by omega) (by omega)
    omega
  · have a1 := oth 0 (by omega) (by omega) (by omega)
    have a2 := oth 1 (by omega) (by omega) (by omega)
    have a3 := oth 2 (by omega) (by omega) (by omega)
    have a4 := oth 3 (by omega) (by omega) (by omega)
    have a5 := oth 4 (by omega) (by omega) (by omega)
    omega
theorem sB_0 {r : Int → Int} {H v : Int} (h : sB r H v ≤ 0) (hH : H ≤ 6) : ∀ i : Int, 0 ≤ i → i < H → 0 ≤ r i → ¬ r i < v := by
  intro i a q w u
  have b0 := tB_b r H v 0
  have b1 := tB_b r H v 1
  have b2 := tB_b r H v 2
  have b3 := tB_b r H v 3
  have b4 := tB_b r H v 4
  have b5 := tB_b r H v 5
  have h1 : tB r H v i = 1 := by unfold tB; rw [if_pos ⟨q, w, u⟩]
  unfold sB at h
  have : i = 0 ∨ i = 1 ∨ i = 2 ∨ i = 3 ∨ i = 4 ∨ i = 5 := by omega
  rcases this with rfl | rfl | rfl | rfl | rfl | rfl <;> omega
abbrev kAd (k1 k2 k : Nat) (j : Int) : Prop := k = k2 + 3 ∨ k = k2 + 4 ∨ k = 160 ∨ k = 161 ∨ k = 162 ∨ k = k1 + 1 ∨ k = k1 + 2 ∨ k = k1 + 3 ∨ k = k1 + 5 ∨ k = k1 + 6 ∨ (k = k1 ∧ (j = 8 ∨ j = 9 ∨ j = 10))
theorem gX10_advance_L16 {k1 k2 : Nat} {X36 X61 Q : Mem → Prop} {M0 E : Mem} {r0 T : Int → Int} (hk1 : isS k1) (hk2 : isL k2) (hS0 : STR E M0) (hL0 : LAW E M0 k2) (hw : WFC (E 11) (E 1 24)) (h37 : r0 37 ≤ 2147483647) (hX : ∀ M' : Mem, IX M' → Ks (kAd k1 k2) M0 M' → SC E M' k1 T → WR E T → T 37 = r0 37 → (M' 160 5 = 0 → M0 160 5 = 0 ∧ T = r0) → X36 M' ∧ X61 M') : ∀ (n : Nat) (v3 v4 : Int) (M : Mem) (r : Int → Int), IX M → Ks (kAd k1 k2) M0 M → SC E M k1 r → WR E r → r 37 = r0 37 → (M 160 5 = 0 → M0 160 5 = 0 ∧ r = r0) → hsF E (lnL r (eH E) v3.toNat) r = T → (0 ≤ v3 ∧ v3 ≤ 30) → (0 ≤ v4 ∧ v4 ≤ 6) → sB r (E 1 4) v3 ≤ 6 - v4 → 6 - v4 < (n : Int) → qX10_advance_L16 k1 k2 X36 X61 Q n v3 v4 M := by
  intro n
  induction n with
  | zero => intro v3 v4 M r hI hF hC hW hr7 hst hT h3 h4 hb hm; exact absurd hm (by omega)
  | succ n ih =>
    intro v3 v4 M r hI hF hC hW hr7 hst hT h3 h4 hb hm
    have el : k2 = 187 ∨ k2 = 192 := hk2
    have es : 0 < k1 ∧ k1 < 155 ∧ (k1 - 1) % 7 = 0 := hk1
    have hS : STR E M := hS0.fr (hF 158 1 (by unfold kAd; omega)) (hF 158 2 (by unfold kAd; omega)) (hF 158 3 (by unfold kAd; omega)) (fun j => hF 159 j (by unfold kAd; omega))
    have hL : LAW E M k2 := hL0.fr (hF k2 4 (by unfold kAd; omega)) (hF k2 5 (by unfold kAd; omega)) (fun j => hF _ j (by unfold kAd; omega)) (fun j => hF _ j (by unfold kAd; omega))
    have eb := hS.eb
    have ef := eb.f
    have b4 := hS.2.2.2.2.2.2.1
    have bg := hS.g
    have none : (∀ h, 0 ≤ h → h < E 1 4 → 0 ≤ r h → ¬ r h < v3) → T = r := by
      intro h
      rw [← hT, lnL_0 v3.toNat (fun i a q w => by have := h i a (by omega) w; omega)]
      rfl
    have done : T = r → X36 M ∧ X61 M := fun e => hX M hI hF (by rw [e]; exact hC) (by rw [e]; exact hW) (by rw [e]; exact hr7) (fun q => by rw [e]; exact hst q)
    rw [qX10_advance_L16]
    refine ⟨⟨by omega, by omega⟩, ⟨fun c => (done (none (sB_0 (by omega) (by omega)))).2, fun c => ⟨⟨by omega, by omega⟩, ?_⟩⟩⟩
    refine gX6_foremostBelow hS hC hW ?_
    intro x6 p6 _
    refine ⟨fun c2 => ⟨by omega, by omega, ?_⟩, fun c2 => ?_⟩
    · intro x10 e10 _
      obtain ⟨z0, z1, z2, z3⟩ : (0 ≤ x6 ∧ x6 < E 1 4) ∧ 0 ≤ r x6 ∧ r x6 < v3 ∧ ∀ h, 0 ≤ h → h < E 1 4 → r h < v3 → r h ≤ r x6 := by
        rcases p6 with q | q
        · exact absurd q.1 c2
        · exact q
      have f10 : x10 = r x6 := by rw [e10]; exact hC.2.2.1 x6 z0.1 (by omega)
      have w6 := hW.2.1 x6 z0.1 z0.2
      have hf : 0 ≤ r x6 ∧ r x6 < eG E := by omega
      refine gX10_moveHearse hI hk1 hk2 hS hL hw hC hW z0 z1 (by omega) ?_
      intro M11 i11 F11 C11 st11
      refine ih _ _ M11 (mhF E r x6) i11 (hF.tr (F11.mono (by intro k j h; unfold kAd; omega))) C11 (hW.mh eb z0 z1) (by rw [mhF_o (by omega) (by omega) (by omega)]; exact hr7) (fun q => ?_) ?_ (by omega) (by omega) ?_ (by omega)
      · obtain ⟨q1, q2⟩ := st11 q
        rw [q2]
        exact hst q1
      · have hd : DST r (eH E : Nat) := by rw [ef.1]; exact hW.1
        rw [lnL_f hd ⟨z0.1, by omega⟩ z1 v3.toNat (by omega) (fun i a q w => z3 i a (by omega) (by omega))] at hT
        rw [f10, ← hT]
        show _ = hsF E (lnL r (eH E) (r x6).toNat) (mhF E r x6)
        rw [lnL_cg (r := mhF E r x6) (r' := r) (r x6).toNat (fun v a q => onF_cg (fun i a2 q2 => ?_))]
        by_cases ci : i = x6
        · rw [ci]
          rcases mhF_h ⟨z0.1, by omega⟩ hf with u | u <;> omega
        · rw [mhF_o ci (by omega) (by omega)]
      · have := sB_s eb z0 hf z2
        rw [f10]
        omega
    · rcases p6 with q | q
      · exact (done (none q.2)).1
      · omega
theorem gX10_advance_L64 {k1 k2 : Nat} {Q : Mem → Prop} {M0 E : Mem} {r0 A : Int → Int} (hk1 : isS k1) (hk2 : isL k2) (hS0 : STR E M0) (h37 : r0 37 ≤ 2000000000) (hQ : ∀ M' : Mem, IX M' → Ks (kAd k1 k2) M0 M' → SC E M' k1 (up (msF E (eO E) A) 37 (msF E (eO E) A 37 + 1)) → WR E (up (msF E (eO E) A) 37 (msF E (eO E) A 37 + 1)) → (M' 160 5 = 0 → M0 160 5 = 0 ∧ msF E (eO E) A = r0) → Q M') : ∀ (n : Nat) (v4 : Int) (M : Mem), IX M → Ks (kAd k1 k2) M0 M → SC E M k1 (msF E v4.toNat A) → WR E (msF E v4.toNat A) → msF E v4.toNat A 37 = r0 37 → (M 160 5 = 0 → M0 160 5 = 0 ∧ msF E v4.toNat A = r0) → (0 ≤ v4 ∧ v4 ≤ E 1 5) → E 1 5 - v4 < (n : Int) → qX10_advance_L64 k1 k2 Q n v4 M := by
  intro n
  induction n with
  | zero => intro v4 M hI hF hC hW hr7 hst hv hm; exact absurd hm (by omega)
  | succ n ih =>
    intro v4 M hI hF hC hW hr7 hst hv hm
    have el : k2 = 187 ∨ k2 = 192 := hk2
    have es : 0 < k1 ∧ k1 < 155 ∧ (k1 - 1) % 7 = 0 := hk1
    have hS : STR E M := hS0.fr (hF 158 1 (by unfold kAd; omega)) (hF 158 2 (by unfold kAd; omega)) (hF 158 3 (by unfold kAd; omega)) (fun j => hF 159 j (by unfold kAd; omega))
    have eb := hS.eb
    have ef := eb.f
    have b5 := hS.2.2.2.2.2.2.2.1
    have hs := msF_s (E := E) (r := A) hv.1
    rw [qX10_advance_L64]
    intro x13 e13 _
    have f13 : x13 = E 1 5 := by rw [e13]; exact hC.2.1
    refine ⟨⟨by omega, by omega⟩, ⟨fun c => ?_, fun c => ?_⟩⟩
    · have ev : v4.toNat = eO E := by omega
      rw [ev] at hC hW hr7 hst
      intro x16 e16 _ x17 e17 _ M18 h18
      have f16 : x16 = msF E (eO E) A 37 := by rw [e16]; exact hC.2.2.2.2.2.2.2.2.2.1
      have w37 := hW.2.2.2.2
      have f17 : x17 = msF E (eO E) A 37 + 1 := by rw [e17, f16]; exact w32_id ⟨by omega, by omega⟩
      refine hQ _ (by rw [h18]; exact hI.up (isS.nsp hk1 0 (by decide)) (bx_sf0 hk1 (by decide) (by decide))) (by rw [h18]; exact hF.wr (by unfold kAd; omega)) (by rw [h18, f17]; exact hC.stp eb) ?_ (fun q => ?_)
      · have ebh := eb.2.1
        have ebo := eb.2.2
        refine ⟨fun i j a q b q2 u w => ?_, fun i a q => ?_, fun i a q => ?_, ?_, by rw [upS]; omega⟩
        · rw [up_j (by omega), up_j (by omega)] at u
          rw [up_j (by omega)] at w
          exact hW.1 i j a q b q2 u w
        · rw [up_j (by omega), up_j (by omega)]; exact hW.2.1 i a q
        · rw [up_j (by omega), up_j (by omega), up_j (by omega)]; exact hW.2.2.1 i a q
        · rw [up_j (by decide), hW.2.2.2.1]
          exact arF_cg (fun i a q => by rw [up_j (by omega)])
      · rw [h18, up2_n (by omega)] at q
        exact hst q
    · refine gX6_hasEnded (p1 := v4) ⟨by omega, by omega⟩ ?_
      intro x19 p19 _ _
      have g29 : M (k1 + 6) v4 = msF E v4.toNat A (29 + v4) := hC.2.2.2.2.2.2.2.2.1 v4 hv.1 (by omega)
      rw [g29] at p19
      have wm := hW.2.2.1 v4 hv.1 (by omega)
      refine ⟨fun c2 => ?_, fun c2 => ?_⟩
      · have e : msF E (v4 + 1).toNat A = msF E v4.toNat A := by rw [hs, if_pos (by omega)]
        exact ih _ M hI hF (by rw [e]; exact hC) (by rw [e]; exact hW) (by rw [e]; exact hr7) (by rw [e]; exact hst) (by omega) (by omega)
      · have e : msF E (v4 + 1).toNat A = mmF E (msF E v4.toNat A) v4 := by rw [hs, if_neg (by omega)]
        refine gX10_moveMourner hI hk1 hS hC hW ⟨hv.1, by omega⟩ (by omega) ?_
        intro M21 i21 F21 C21 st21
        refine ih _ M21 i21 (hF.tr (F21.mono (by intro k j h; unfold kAd; omega))) (by rw [e]; exact C21) (by rw [e]; exact hW.mm eb ⟨hv.1, by omega⟩) (by rw [e, mmF_o ⟨by omega, by omega, by omega⟩]; exact hr7) (fun q => ?_) (by omega) (by omega)
        obtain ⟨q1, q2⟩ := st21 q
        rw [e, q2]
        exact hst q1
theorem gX10_advance {k1 k2 : Nat} {Q : Mem → Prop} {M E : Mem} {r : Int → Int} (hI : IX M) (hk1 : isS k1) (hk2 : isL k2) (hS : STR E M) (hL : LAW E M k2) (hw : WFC (E 11) (E 1 24)) (hC : SC E M k1 r) (hW : WR E r) (h37 : r 37 ≤ 2000000000) (hQ : ∀ M' : Mem, IX M' → Ks (kAd k1 k2) M M' → SC E M' k1 (stF E r) → WR E (stF E r) → (M' 160 5 = 0 → stF E r = up r 37 (r 37 + 1)) → Q M') : qX10_advance k1 k2 M Q := by
  have el : k2 = 187 ∨ k2 = 192 := hk2
  have es : 0 < k1 ∧ k1 < 155 ∧ (k1 - 1) % 7 = 0 := hk1
  have eb := hS.eb
  have ef := eb.f
  have b3 := hS.2.1
  have b5 := hS.2.2.2.2.2.2.2.1
  unfold qX10_advance
  intro M1 h1 x2 e2 _
  have i1 : IX M1 := by rw [h1]; exact hI.up (by decide) (by simp [BX])
  have F1 : Ks (kAd k1 k2) M M1 := by rw [h1]; exact Ks.rf.wr (by unfold kAd; omega)
  have S1 : STR E M1 := hS.fr (F1 158 1 (by unfold kAd; omega)) (F1 158 2 (by unfold kAd; omega)) (F1 158 3 (by unfold kAd; omega)) (fun j => F1 159 j (by unfold kAd; omega))
  have L1 : LAW E M1 k2 := hL.fr (F1 k2 4 (by unfold kAd; omega)) (F1 k2 5 (by unfold kAd; omega)) (fun j => F1 _ j (by unfold kAd; omega)) (fun j => F1 _ j (by unfold kAd; omega))
  have C1 : SC E M1 k1 r := by rw [h1]; exact hC.fr (fun i j hi => by rw [up2_n (by omega)])
  have f2 : x2 = E 1 3 := by rw [e2]; exact S1.1
  have g0 : onF r (eH E) (eG E) < 0 := by
    rcases Int.lt_or_le (onF r (eH E) (eG E)) 0 with w | w
    · exact w
    · exfalso
      have ob := onF_b r (eH E) (eG E)
      have oc := onF_c w
      have := hW.2.1 _ w (by omega)
      omega
  have hln : lnL r (eH E) x2.toNat = lnL r (eH E) (eG E).toNat := by
    have := lnL_s (r := r) (H := eH E) (c := eG E) (by omega)
    rw [if_neg (by omega), show (eG E + 1).toNat = x2.toNat from by omega] at this
    exact this
  have sb6 : sB r (E 1 4) x2 ≤ 6 := by
    have b0 := tB_b r (E 1 4) x2 0
    have b1 := tB_b r (E 1 4) x2 1
    have b2 := tB_b r (E 1 4) x2 2
    have b3 := tB_b r (E 1 4) x2 3
    have b4 := tB_b r (E 1 4) x2 4
    have b5 := tB_b r (E 1 4) x2 5
    unfold sB
    omega
  refine ⟨7, gX10_advance_L16 (M0 := M1) (r0 := r) (T := hsF E (lnL r (eH E) (eG E).toNat) r) hk1 hk2 S1 L1 hw (by omega) ?_ _ _ _ _ r i1 Ks.rf C1 hW rfl (fun q => ⟨q, rfl⟩) (by rw [hln]) (by omega) (by omega) (by omega) (by omega)⟩
  intro M2 i2 F2 C2 W2 t37 st2
  have S2 : STR E M2 := S1.fr (F2 158 1 (by unfold kAd; omega)) (F2 158 2 (by unfold kAd; omega)) (F2 158 3 (by unfold kAd; omega)) (fun j => F2 159 j (by unfold kAd; omega))
  have go : qX10_advance_L64 k1 k2 Q 9 0 M2 := by
    refine gX10_advance_L64 (M0 := M2) (r0 := hsF E (lnL r (eH E) (eG E).toNat) r) (A := hsF E (lnL r (eH E) (eG E).toNat) r) hk1 hk2 S2 (by omega) ?_ _ _ _ i2 Ks.rf C2 W2 rfl (fun q => ⟨q, rfl⟩) (by omega) (by omega)
    intro M3 i3 F3 C3 W3 st3
    refine hQ _ i3 ((F1.tr F2).tr F3) C3 W3 (fun q => ?_)
    obtain ⟨q1, q2⟩ := st3 q
    obtain ⟨q3, q4⟩ := st2 q1
    show up (msF E (eO E) (hsF E (lnL r (eH E) (eG E).toNat) r)) 37 (msF E (eO E) (hsF E (lnL r (eH E) (eG E).toNat) r) 37 + 1) = _
    rw [q2, q4]
  exact ⟨⟨9, go⟩, ⟨9, go⟩⟩
