/-! WHERE THEY WAIT -/
/-- the waits of one hearse, of those in a line, of a step, of n steps -/
noncomputable def wtF (E : Mem) (r : Int → Int) (x : Int) (w : Int → Int) : Int → Int := if goF E r x (paF E r x) = r x then up w (r x) (w32 (w (r x) + 1)) else w
noncomputable def wsF (E : Mem) : List Int → (Int → Int) → (Int → Int) → Int → Int
  | [], _, w => w
  | h :: t, r, w => wsF E t (mhF E r h) (wtF E r h w)
noncomputable def wtS (E : Mem) (r w : Int → Int) : Int → Int := wsF E (lnL r (eH E) (eG E).toNat) r w
noncomputable def wiF (E : Mem) : Nat → (Int → Int) → Int → Int
  | 0, _ => fun _ => 0
  | n + 1, r => wtS E (itF E n r) (wiF E n r)
def eqW (a b : Int → Int) : Prop := ∀ j : Int, 0 ≤ j → j < 30 → a j = b j
theorem fwX10_advance_L64 {k1 : Nat} {k2 : Nat} {Q Q' : Mem → Prop} {M0 : Mem} (hQ : ∀ (M' : Mem), Ks (fun k j => k = 160 ∨ k = 162 ∨ (k = k1 ∧ (j = 8 ∨ j = 9 ∨ j = 10)) ∨ k = k1 + 1 ∨ k = k1 + 2 ∨ k = k1 + 3 ∨ k = k1 + 5 ∨ k = k1 + 6 ∨ k = k2 + 3 ∨ k = k2 + 4) M0 M' → Q M' → Q' M') : ∀ (n : Nat) (v4 : Int) (M : Mem), Ks (fun k j => k = 160 ∨ k = 162 ∨ (k = k1 ∧ (j = 8 ∨ j = 9 ∨ j = 10)) ∨ k = k1 + 1 ∨ k = k1 + 2 ∨ k = k1 + 3 ∨ k = k1 + 5 ∨ k = k1 + 6 ∨ k = k2 + 3 ∨ k = k2 + 4) M0 M → qX10_advance_L64 k1 k2 Q n v4 M → qX10_advance_L64 k1 k2 Q' n v4 M := by
  intro n
  induction n with
  | zero => intro v4 M _ h; exact h.elim
  | succ n ih =>
    intro v4 M hF h
    rw [qX10_advance_L64] at h
    rw [qX10_advance_L64]
    intro x13_1 g2 g3
    have h1 := h x13_1 g2 g3
    obtain ⟨v4, h4⟩ := h1
    refine ⟨v4, ?_⟩
    obtain ⟨h5, h6⟩ := h4
    refine ⟨?_, ?_⟩
    · intro g7
      have h8 := h5 g7
      intro x16_9 g10 g11
      have h9 := h8 x16_9 g10 g11
      intro x17_12 g13 g14
      have h12 := h9 x17_12 g13 g14
      intro M18_15 eM18_15
      have h15 := h12 M18_15 eM18_15
      have F15 : Ks (fun k j => k = 160 ∨ k = 162 ∨ (k = k1 ∧ (j = 8 ∨ j = 9 ∨ j = 10)) ∨ k = k1 + 1 ∨ k = k1 + 2 ∨ k = k1 + 3 ∨ k = k1 + 5 ∨ k = k1 + 6 ∨ k = k2 + 3 ∨ k = k2 + 4) M0 M18_15 := by rw [eM18_15]; exact (hF).wr (by omega)
      exact hQ _ F15 h15
    · intro g16
      have h17 := h6 g16
      refine fmX6_hasEnded h17 ?_
      intro x19_19 M19_20 f18 h18
      have F18 : Ks (fun k j => k = 160 ∨ k = 162 ∨ (k = k1 ∧ (j = 8 ∨ j = 9 ∨ j = 10)) ∨ k = k1 + 1 ∨ k = k1 + 2 ∨ k = k1 + 3 ∨ k = k1 + 5 ∨ k = k1 + 6 ∨ k = k2 + 3 ∨ k = k2 + 4) M0 M19_20 := (hF).tr (f18.mono (by intro k j h; first | exact False.elim h | omega))
      intro g21 g22
      have h23 := h18 g21 g22
      obtain ⟨h24, h25⟩ := h23
      refine ⟨?_, ?_⟩
      · intro g26
        have h27 := h24 g26
        exact ih _ _ F18 h27
      · intro g28
        have h29 := h25 g28
        refine fmX10_moveMourner h29 ?_
        intro M21_31 f30 h30
        have F30 : Ks (fun k j => k = 160 ∨ k = 162 ∨ (k = k1 ∧ (j = 8 ∨ j = 9 ∨ j = 10)) ∨ k = k1 + 1 ∨ k = k1 + 2 ∨ k = k1 + 3 ∨ k = k1 + 5 ∨ k = k1 + 6 ∨ k = k2 + 3 ∨ k = k2 + 4) M0 M21_31 := (F18).tr (f30.mono (by intro k j h; first | exact False.elim h | omega))
        exact ih _ _ F30 h30
theorem fwX12_stepGoes_L34 {k1 : Nat} {X62 X62' : Mem → Prop} {Q Q' : Mem → Prop} {M0 : Mem} (hQ : ∀ (M' : Mem), Ks (fun k j => k = 17 ∨ (k = 1 ∧ j = 31) ∨ k = k1) M0 M' → Q M' → Q' M') (hX62 : ∀ (M' : Mem), Ks (fun k j => k = 17 ∨ (k = 1 ∧ j = 31) ∨ k = k1) M0 M' → X62 M' → X62' M') : ∀ (n : Nat) (v2 : Int) (M : Mem), Ks (fun k j => k = 17 ∨ (k = 1 ∧ j = 31) ∨ k = k1) M0 M → qX12_stepGoes_L34 k1 X62 Q n v2 M → qX12_stepGoes_L34 k1 X62' Q' n v2 M := by
  intro n
  induction n with
  | zero => intro v2 M _ h; exact h.elim
  | succ n ih =>
    intro v2 M hF h
    rw [qX12_stepGoes_L34] at h
    rw [qX12_stepGoes_L34]
    intro x10_1 g2 g3
    have h1 := h x10_1 g2 g3
    obtain ⟨v4, h4⟩ := h1
    refine ⟨v4, ?_⟩
    obtain ⟨h5, h6⟩ := h4
    refine ⟨?_, ?_⟩
    · intro g7
      have h8 := h5 g7
      exact hX62 _ hF h8
    · intro g9
      have h10 := h6 g9
      refine fmX12_isEnded h10 ?_
      intro x13_12 M13_13 f11 h11
      have F11 : Ks (fun k j => k = 17 ∨ (k = 1 ∧ j = 31) ∨ k = k1) M0 M13_13 := (hF).tr (f11.mono (by intro k j h; first | exact False.elim h | omega))
      intro g14 g15
      have h16 := h11 g14 g15
      obtain ⟨h17, h18⟩ := h16
      refine ⟨?_, ?_⟩
      · intro g19
        have h20 := h17 g19
        exact ih _ _ F11 h20
      · intro g21
        have h22 := h18 g21
        refine fmX12_mournerGoes h22 ?_
        intro M15_24 f23 h23
        have F23 : Ks (fun k j => k = 17 ∨ (k = 1 ∧ j = 31) ∨ k = k1) M0 M15_24 := (F11).tr (f23.mono (by intro k j h; first | exact False.elim h | omega))
        exact ih _ _ F23 h23
theorem gX10_moveHearseW {k1 k2 : Nat} {p3 : Int} {Q : Mem → Prop} {M E : Mem} {r w : Int → Int} (hI : IX M) (hE30 : eqW (M 161) w) (hk1 : isS k1) (hk2 : isL k2) (hS : STR E M) (hL : LAW E M k2) (hw : WFC (E 11) (E 1 24)) (hC : SC E M k1 r) (hW : WR E r) (hp : 0 ≤ p3 ∧ p3 < E 1 4) (hr : 0 ≤ r p3) (h37 : r 37 ≤ 2147483647) (hQ : ∀ M' : Mem, IX M' → Ks (fun k j => k = k2 + 3 ∨ k = k2 + 4 ∨ k = 160 ∨ k = 161 ∨ k = k1 + 1 ∨ k = k1 + 2 ∨ (k = k1 ∧ j = 8)) M M' → SC E M' k1 (mhF E r p3) → eqW (M' 161) (wtF E r p3 w) → (M' 160 5 = 0 → M 160 5 = 0 ∧ mhF E r p3 = r) → Q M') : qX10_moveHearse k1 k2 p3 M Q := by
  have el : k2 = 187 ∨ k2 = 192 := hk2
  have es : 0 < k1 ∧ k1 < 155 ∧ (k1 - 1) % 7 = 0 := hk1
  have b4 := hS.2.2.2.2.2.2.1
  have eb := hS.eb
  have wp := hW.2.1 p3 hp.1 hp.2
  have bg := hS.g
  have hf : 0 ≤ r p3 ∧ r p3 < eG E := by omega
  have gb := goF_b hf
  have ab12 := arF_b r (eH E)
  have ef := eb.f
  unfold qX10_moveHearse
  refine ⟨by omega, by omega, ?_⟩
  intro x3 e3 _
  have f3 : x3 = r p3 := by rw [e3]; exact hC.2.2.1 p3 (by omega) (by omega)
  refine gX2_observe hI hk2 hk1 hS hC hW hp hr h37 ?_
  intro M4 i4 f4 o4
  have S4 : STR E M4 := hS.fr (f4 158 1 (by omega)) (f4 158 2 (by omega)) (f4 158 3 (by omega)) (fun j => f4 159 j (by omega))
  have C4 : SC E M4 k1 r := hC.fr (fun i j hi => f4 (k1 + i) j (by omega))
  have L4 : LAW E M4 k2 := hL.fr (f4 k2 4 (by omega)) (f4 k2 5 (by omega)) (fun j => f4 _ j (by omega)) (fun j => f4 _ j (by omega))
  refine gX6_takenCells S4 C4 hW ?_
  intro x5 t5 _
  refine gX2_pace i4 hk2 L4 hw o4 ?_
  intro M6 i6 f6 _
  have S6 : STR E M6 := S4.fr (f6 158 1 (by omega)) (f6 158 2 (by omega)) (f6 158 3 (by omega)) (fun j => f6 159 j (by omega))
  have C6 : SC E M6 k1 r := C4.fr (fun i j hi => f6 (k1 + i) j (by omega))
  have F6 : Ks (fun k j => k = k2 + 3 ∨ k = k2 + 4 ∨ k = 160 ∨ k = 161 ∨ k = k1 + 1 ∨ k = k1 + 2 ∨ (k = k1 ∧ j = 8)) M M6 := (f4.mono (by intro k j h; omega)).tr (f6.mono (by intro k j h; omega))
  have g160 : M6 160 5 = M 160 5 := by rw [f6 160 5 (by omega), f4 160 5 (by omega)]
  have g161 : ∀ j, M6 161 j = M 161 j := fun j => by rw [f6 161 j (by omega), f4 161 j (by omega)]
  have ep : max 0 (min 3 (ruF E (envF E r p3))) = paF E r p3 := rfl
  rw [ep, f3]
  have bp : 0 ≤ paF E r p3 ∧ paF E r p3 ≤ 3 := by unfold paF; omega
  refine gX10_goal i6 S6 hW t5 hf bp ?_
  intro _
  refine ⟨fun c => ?_, fun c => ?_⟩
  · have c1 : ¬ goF E r p3 (paF E r p3) = r p3 := fun q => c (by rw [if_pos q])
    rw [if_neg c1]
    intro M9 h9
    have i9 : IX M9 := by rw [h9]; exact i6.up (by decide) (by simp [BX])
    have F9 : Ks (fun k j => k = k2 + 3 ∨ k = k2 + 4 ∨ k = 160 ∨ k = 161 ∨ k = k1 + 1 ∨ k = k1 + 2 ∨ (k = k1 ∧ j = 8)) M M9 := by rw [h9]; exact F6.wr (by omega)
    have S9 : STR E M9 := hS.fr (F9 158 1 (by omega)) (F9 158 2 (by omega)) (F9 158 3 (by omega)) (fun j => F9 159 j (by omega))
    have C9 : SC E M9 k1 r := by rw [h9]; exact C6.fr (fun i j hi => by rw [up2_n (by omega)])
    have s9 : M9 160 5 = 1 := by rw [h9, up2_s]
    refine gX8_gate i9 S9 ?_
    intro _
    refine ⟨fun c2 => ?_, fun c2 => ?_⟩
    · intro M12 h12
      refine hQ _ (by rw [h12]; exact i9.up (isS.nsp hk1 1 (by decide)) ((bx_s1 hk1).mpr ⟨by omega, by omega⟩)) (by rw [h12]; exact F9.wr (by omega)) ?_ ?_ (fun q => ?_)
      · rw [h12]
        have e : mhF E r p3 = up r p3 (goF E r p3 (paF E r p3)) := by unfold mhF; rw [if_neg c1, if_neg c2]
        rw [e]
        exact C9.cell ⟨by omega, by omega⟩
      · intro j p q
        rw [h12, up2_n (by omega), h9, up2_n (by decide), g161]
        unfold wtF
        rw [if_neg c1]
        exact hE30 j p q
      · rw [h12, up2_n (by omega), s9] at q
        omega
    · unfold qX6_arrive
      intro x1 e1 _ x2 e2 _ M3 h3 x4 e4 _
      have g1 : x1 = r 12 := by rw [e1]; exact C9.2.2.2.2.1
      have g2 : x2 = w32 (r 12 + 1) := by rw [e2, g1]
      have g4 : x4 = x2 := by rw [e4, h3, up2_s]
      have i3 : IX M3 := by rw [h3]; exact i9.up (isS.nsp hk1 0 (by decide)) (bx_sf0 hk1 (by decide) (by decide))
      refine ⟨by omega, by omega, ?_⟩
      intro M7 h7 M8 h8
      have i7 : IX M7 := by rw [h7]; exact i3.up (isS.nsp hk1 2 (by decide)) (bx_sf2 hk1)
      refine hQ _ (by rw [h8]; exact i7.up (isS.nsp hk1 1 (by decide)) ((bx_s1 hk1).mpr (by decide))) (by rw [h8, h7, h3]; exact ((F9.wr (by omega)).wr (by omega)).wr (by omega)) ?_ ?_ (fun q => ?_)
      · have e : mhF E r p3 = up (up (up r 12 (w32 (r 12 + 1))) (6 + p3) (w32 (r 12 + 1))) p3 (-1) := by unfold mhF; rw [if_neg c1, if_pos c2]
        rw [e, h8, h7, h3, g4, g2]
        exact C9.arr ⟨by omega, by omega⟩
      · intro j p q
        rw [h8, up2_n (by omega), h7, up2_n (by omega), h3, up2_n (by omega), h9, up2_n (by decide), g161]
        unfold wtF
        rw [if_neg c1]
        exact hE30 j p q
      · rw [h8, up2_n (by omega), h7, up2_n (by omega), h3, up2_n (by omega), s9] at q
        omega
  · have c1 : goF E r p3 (paF E r p3) = r p3 := by
      by_cases q : goF E r p3 (paF E r p3) = r p3
      · exact q
      · rw [if_neg q] at c; omega
    have e : mhF E r p3 = r := by unfold mhF; rw [if_pos c1]
    intro x14 _ _ x15 _ _ M16 h16
    have i16 : IX M16 := by rw [h16]; exact i6.up (by decide) (by simp [BX])
    refine ⟨by omega, by omega, ?_⟩
    intro x19 e19 _ x20 e20 _ M21 h21
    refine hQ _ (by rw [h21]; exact i16.up (by decide) (by simp [BX])) (by rw [h21, h16]; exact (F6.wr (by omega)).wr (by omega)) ?_ ?_ (fun q => ?_)
    · rw [e, h21, h16]
      exact C6.fr (fun i j hi => by rw [up2_n (by omega), up2_n (by omega)])
    · intro j p q
      unfold wtF
      rw [if_pos c1, h21, up2_up]
      by_cases ej : j = r p3
      · rw [ej, upS, upS, e20, e19, h16, up2_n (by decide), g161, hE30 _ (by omega) (by omega)]
      · rw [up_j ej, up_j ej, h16, up2_n (by decide), g161]
        exact hE30 j p q
    · rw [h21, up2_n (by decide), h16, up2_j (by decide), g160] at q
      exact ⟨q, e⟩
theorem gX10_advance_L16W {k1 k2 : Nat} {X36 X61 Q : Mem → Prop} {M0 E : Mem} {r0 T TW : Int → Int} (hk1 : isS k1) (hk2 : isL k2) (hS0 : STR E M0) (hL0 : LAW E M0 k2) (hw : WFC (E 11) (E 1 24)) (h37 : r0 37 ≤ 2147483647) (hX : ∀ M' : Mem, IX M' → Ks (kAd k1 k2) M0 M' → SC E M' k1 T → eqW (M' 161) TW → WR E T → T 37 = r0 37 → (M' 160 5 = 0 → M0 160 5 = 0 ∧ T = r0) → X36 M' ∧ X61 M') : ∀ (n : Nat) (v3 v4 : Int) (M : Mem) (r w : Int → Int), IX M → Ks (kAd k1 k2) M0 M → SC E M k1 r → WR E r → r 37 = r0 37 → (M 160 5 = 0 → M0 160 5 = 0 ∧ r = r0) → hsF E (lnL r (eH E) v3.toNat) r = T → eqW (M 161) w → wsF E (lnL r (eH E) v3.toNat) r w = TW → (0 ≤ v3 ∧ v3 ≤ 30) → (0 ≤ v4 ∧ v4 ≤ 6) → sB r (E 1 4) v3 ≤ 6 - v4 → 6 - v4 < (n : Int) → qX10_advance_L16 k1 k2 X36 X61 Q n v3 v4 M := by
  intro n
  induction n with
  | zero => intro v3 v4 M r w hI hF hC hW hr7 hst hT hW1 hTW h3 h4 hb hm; exact absurd hm (by omega)
  | succ n ih =>
    intro v3 v4 M r w hI hF hC hW hr7 hst hT hW1 hTW h3 h4 hb hm
    have el : k2 = 187 ∨ k2 = 192 := hk2
    have es : 0 < k1 ∧ k1 < 155 ∧ (k1 - 1) % 7 = 0 := hk1
    have hS : STR E M := hS0.fr (hF 158 1 (by unfold kAd; omega)) (hF 158 2 (by unfold kAd; omega)) (hF 158 3 (by unfold kAd; omega)) (fun j => hF 159 j (by unfold kAd; omega))
    have hL : LAW E M k2 := hL0.fr (hF k2 4 (by unfold kAd; omega)) (hF k2 5 (by unfold kAd; omega)) (fun j => hF _ j (by unfold kAd; omega)) (fun j => hF _ j (by unfold kAd; omega))
    have eb := hS.eb
    have ef := eb.f
    have b4 := hS.2.2.2.2.2.2.1
    have bg := hS.g
    have none : (∀ h, 0 ≤ h → h < E 1 4 → 0 ≤ r h → ¬ r h < v3) → T = r ∧ TW = w := by
      intro h
      have e0 := lnL_0 (r := r) (H := eH E) v3.toNat (fun i a q w => by have := h i a (by omega) w; omega)
      rw [← hT, ← hTW, e0]
      exact ⟨rfl, rfl⟩
    have done : T = r ∧ TW = w → X36 M ∧ X61 M := fun e => hX M hI hF (by rw [e.1]; exact hC) (by rw [e.2]; exact hW1) (by rw [e.1]; exact hW) (by rw [e.1]; exact hr7) (fun q => by rw [e.1]; exact hst q)
    rw [qX10_advance_L16]
    refine ⟨⟨by omega, by omega⟩, ⟨fun c => (done (none (sB_0 (by omega) (by omega)))).2, fun c => ⟨⟨by omega, by omega⟩, ?_⟩⟩⟩
    refine gX6_foremostBelow hS hC hW ?_
    intro x6 p6 _
    refine ⟨fun c2 => ⟨by omega, by omega, ?_⟩, fun c2 => ?_⟩
    · intro x10 e10 _
      obtain ⟨z0, z1, z2, z3⟩ : (0 ≤ x6 ∧ x6 < E 1 4) ∧ 0 ≤ r x6 ∧ r x6 < v3 ∧ ∀ h, 0 ≤ h → h < E 1 4 → r h < v3 → r h ≤ r x6 := by
        rcases p6 with q | q
        · exact absurd q.1 c2
        · exact q
      have f10 : x10 = r x6 := by rw [e10]; exact hC.2.2.1 x6 z0.1 (by omega)
      have w6 := hW.2.1 x6 z0.1 z0.2
      have hf : 0 ≤ r x6 ∧ r x6 < eG E := by omega
      refine gX10_moveHearseW hI hW1 hk1 hk2 hS hL hw hC hW z0 z1 (by omega) ?_
      intro M11 i11 F11 C11 e11 st11
      have el2 : lnL (mhF E r x6) (eH E) (r x6).toNat = lnL r (eH E) (r x6).toNat := lnL_cg (r := mhF E r x6) (r' := r) (r x6).toNat (fun v a q => onF_cg (fun i a2 q2 => by
        by_cases ci : i = x6
        · rw [ci]
          rcases mhF_h ⟨z0.1, by omega⟩ hf with u | u <;> omega
        · rw [mhF_o ci (by omega) (by omega)]))
      have hd0 : DST r (eH E : Nat) := by rw [ef.1]; exact hW.1
      have el3 := lnL_f hd0 ⟨z0.1, by omega⟩ z1 v3.toNat (by omega) (fun i a q w => z3 i a (by omega) (by omega))
      refine ih _ _ M11 (mhF E r x6) (wtF E r x6 w) i11 (hF.tr (F11.mono (by intro k j h; unfold kAd; omega))) C11 (hW.mh eb z0 z1) (by rw [mhF_o (by omega) (by omega) (by omega)]; exact hr7) (fun q => ?_) ?_ e11 ?_ (by omega) (by omega) ?_ (by omega)
      · obtain ⟨q1, q2⟩ := st11 q
        rw [q2]
        exact hst q1
      · rw [el3] at hT
        rw [f10, ← hT, el2]
        rfl
      · rw [el3] at hTW
        rw [f10, ← hTW, el2]
        rfl
      · have := sB_s eb z0 hf z2
        rw [f10]
        omega
    · rcases p6 with q | q
      · exact (done (none q.2)).1
      · omega
theorem gX10_advanceW {k1 k2 : Nat} {Q : Mem → Prop} {M E : Mem} {r w : Int → Int} (hI : IX M) (hE30 : eqW (M 161) w) (hk1 : isS k1) (hk2 : isL k2) (hS : STR E M) (hL : LAW E M k2) (hw : WFC (E 11) (E 1 24)) (hC : SC E M k1 r) (hW : WR E r) (h37 : r 37 ≤ 2000000000) (hQ : ∀ M' : Mem, IX M' → Ks (kAd k1 k2) M M' → SC E M' k1 (stF E r) → WR E (stF E r) → eqW (M' 161) (wtS E r w) → Q M') : qX10_advance k1 k2 M Q := by
  have el : k2 = 187 ∨ k2 = 192 := hk2
  have es : 0 < k1 ∧ k1 < 155 ∧ (k1 - 1) % 7 = 0 := hk1
  have eb := hS.eb
  have ef := eb.f
  have b3 := hS.2.1
  have b5 := hS.2.2.2.2.2.2.2.1
  unfold qX10_advance
  intro M1 h1 x2 e2 _
  have i1 : IX M1 := by rw [h1]; exact hI.up (by decide) (by simp [BX])
  have F1 : Ks (kAd k1 k2) M M1 := by rw [h1]; exact Ks.rf.wr (by unfold kAd; omega)
  have S1 : STR E M1 := hS.fr (F1 158 1 (by unfold kAd; omega)) (F1 158 2 (by unfold kAd; omega)) (F1 158 3 (by unfold kAd; omega)) (fun j => F1 159 j (by unfold kAd; omega))
  have L1 : LAW E M1 k2 := hL.fr (F1 k2 4 (by unfold kAd; omega)) (F1 k2 5 (by unfold kAd; omega)) (fun j => F1 _ j (by unfold kAd; omega)) (fun j => F1 _ j (by unfold kAd; omega))
  have C1 : SC E M1 k1 r := by rw [h1]; exact hC.fr (fun i j hi => by rw [up2_n (by omega)])
  have f2 : x2 = E 1 3 := by rw [e2]; exact S1.1
  have g0 : onF r (eH E) (eG E) < 0 := by
    rcases Int.lt_or_le (onF r (eH E) (eG E)) 0 with w | w
    · exact w
    · exfalso
      have ob := onF_b r (eH E) (eG E)
      have oc := onF_c w
      have := hW.2.1 _ w (by omega)
      omega
  have hln : lnL r (eH E) x2.toNat = lnL r (eH E) (eG E).toNat := by
    have := lnL_s (r := r) (H := eH E) (c := eG E) (by omega)
    rw [if_neg (by omega), show (eG E + 1).toNat = x2.toNat from by omega] at this
    exact this
  have sb6 : sB r (E 1 4) x2 ≤ 6 := by
    have b0 := tB_b r (E 1 4) x2 0
    have b1 := tB_b r (E 1 4) x2 1
    have b2 := tB_b r (E 1 4) x2 2
    have b3 := tB_b r (E 1 4) x2 3
    have b4 := tB_b r (E 1 4) x2 4
    have b5 := tB_b r (E 1 4) x2 5
    unfold sB
    omega
  refine ⟨7, gX10_advance_L16W (M0 := M1) (r0 := r) (T := hsF E (lnL r (eH E) (eG E).toNat) r) (TW := wtS E r w) hk1 hk2 S1 L1 hw (by omega) ?_ _ _ _ _ r w i1 Ks.rf C1 hW rfl (fun q => ⟨q, rfl⟩) (by rw [hln]) (by rw [h1]; intro j p q; rw [up2_n (by decide)]; exact hE30 j p q) (by rw [hln]; rfl) (by omega) (by omega) (by omega) (by omega)⟩
  intro M2 i2 F2 C2 e2W W2 t37 st2
  have S2 : STR E M2 := S1.fr (F2 158 1 (by unfold kAd; omega)) (F2 158 2 (by unfold kAd; omega)) (F2 158 3 (by unfold kAd; omega)) (fun j => F2 159 j (by unfold kAd; omega))
  have go : qX10_advance_L64 k1 k2 Q 9 0 M2 := by
    refine fwX10_advance_L64 (M0 := M2) (Q := fun M' => IX M' ∧ Ks (kAd k1 k2) M2 M' ∧ SC E M' k1 (stF E r) ∧ WR E (stF E r)) ?_ 9 0 M2 Ks.rf (gX10_advance_L64 (M0 := M2) (r0 := hsF E (lnL r (eH E) (eG E).toNat) r) (A := hsF E (lnL r (eH E) (eG E).toNat) r) hk1 hk2 S2 (by omega) ?_ _ _ _ i2 Ks.rf C2 W2 rfl (fun q => ⟨q, rfl⟩) (by omega) (by omega))
    · intro M3 g3 h3
      obtain ⟨i3, F3, C3, W3⟩ := h3
      refine hQ _ i3 ((F1.tr F2).tr F3) C3 W3 (fun j p q => ?_)
      rw [g3 161 j (by omega)]
      exact e2W j p q
    · intro M3 i3 F3 C3 W3 _
      exact ⟨i3, F3, C3, W3⟩
  exact ⟨⟨9, go⟩, ⟨9, go⟩⟩
theorem gX10_forgetTallies_L12 {X31 Q : Mem → Prop} {M0 : Mem} (hX : ∀ M' : Mem, IX M' → Ks (fun k _ => k = 161) M0 M' → (∀ j, 0 ≤ j → j < 30 → M' 161 j = 0) → X31 M') : ∀ (n : Nat) (v1 : Int) (M : Mem), IX M → Ks (fun k _ => k = 161) M0 M → (0 ≤ v1 ∧ v1 ≤ 30) → (∀ j, 0 ≤ j → j < v1 → M 161 j = 0) → 30 - v1 < (n : Int) → qX10_forgetTallies_L12 X31 Q n v1 M := by
  intro n
  induction n with
  | zero => intro v1 M hI hK hv hz hm; exact absurd hm (by omega)
  | succ n ih =>
    intro v1 M hI hK hv hz hm
    rw [qX10_forgetTallies_L12]
    refine ⟨⟨by omega, by omega⟩, ⟨fun c => hX M hI hK (fun j p q => hz j p (by omega)), fun c => ⟨hv.1, by omega, ?_⟩⟩⟩
    intro M7 h7
    refine ih _ M7 (by rw [h7]; exact hI.up (by decide) (by simp [BX])) (by rw [h7]; exact hK.wr (by omega)) (by omega) (fun j p q => ?_) (by omega)
    by_cases c2 : j = v1
    · rw [c2, h7, up2_s]
    · rw [h7, up2_j c2]
      exact hz j p (by omega)
theorem gX10_forgetTallies_L33 {Q : Mem → Prop} {M0 : Mem} (hQ : ∀ M' : Mem, IX M' → Ks (fun k _ => k = 162) M0 M' → Q M') : ∀ (n : Nat) (v1 : Int) (M : Mem), IX M → Ks (fun k _ => k = 162) M0 M → (0 ≤ v1 ∧ v1 ≤ 8) → 8 - v1 < (n : Int) → qX10_forgetTallies_L33 Q n v1 M := by
  intro n
  induction n with
  | zero => intro v1 M hI hK hv hm; exact absurd hm (by omega)
  | succ n ih =>
    intro v1 M hI hK hv hm
    rw [qX10_forgetTallies_L33]
    refine ⟨⟨by omega, by omega⟩, ⟨fun c => hQ M hI hK, fun c => ⟨hv.1, by omega, ?_⟩⟩⟩
    intro M13 h13
    exact ih _ M13 (by rw [h13]; exact hI.up (by decide) (by simp [BX])) (by rw [h13]; exact hK.wr (by omega)) (by omega) (by omega)
theorem gX10_forgetTallies {M : Mem} {Q : Mem → Prop} (hI : IX M) (hQ : ∀ M' : Mem, IX M' → Ks (fun k _ => 160 ≤ k ∧ k ≤ 162) M M' → (∀ j, 0 ≤ j → j < 30 → M' 161 j = 0) → Q M') : qX10_forgetTallies M Q := by
  unfold qX10_forgetTallies
  intro M1 h1 M2 h2
  have i1 : IX M1 := by rw [h1]; exact hI.up (by decide) (by simp [BX])
  have i2 : IX M2 := by rw [h2]; exact i1.up (by decide) (by simp [BX])
  have k2 : Ks (fun k _ => 160 ≤ k ∧ k ≤ 162) M M2 := by rw [h2, h1]; exact (Ks.rf.wr (by omega)).wr (by omega)
  refine ⟨31, gX10_forgetTallies_L12 (M0 := M2) ?_ 31 0 M2 i2 Ks.rf (by omega) (fun j p q => by omega) (by omega)⟩
  intro M3 i3 k3 z3
  refine ⟨9, gX10_forgetTallies_L33 (M0 := M3) ?_ 9 0 M3 i3 Ks.rf (by omega) (by omega)⟩
  intro M4 i4 k4
  exact hQ M4 i4 ((k2.tr (k3.mono (by intro k j h; omega))).tr (k4.mono (by intro k j h; omega))) (fun j p q => by rw [k4 161 j (by omega)]; exact z3 j p q)
theorem gX10_walk_L7W {k1 k2 : Nat} {p3 : Int} {Q : Mem → Prop} {M0 E : Mem} {r : Int → Int} (hk1 : isS k1) (hk2 : isL k2) (hS : STR E M0) (hL : LAW E M0 k2) (hw : WFC (E 11) (E 1 24)) (h37 : r 37 ≤ 1999999000) (hp : p3 ≤ 200) (hQ : ∀ M' : Mem, IX M' → Ks (kAd k1 k2) M0 M' → SC E M' k1 (itF E p3.toNat r) → WR E (itF E p3.toNat r) → eqW (M' 161) (wiF E p3.toNat r) → Q M') : ∀ (n : Nat) (v4 : Int) (M : Mem), IX M → Ks (kAd k1 k2) M0 M → SC E M k1 (itF E v4.toNat r) → WR E (itF E v4.toNat r) → eqW (M 161) (wiF E v4.toNat r) → (0 ≤ v4 ∧ (v4 ≤ p3 ∨ v4 = 0)) → 200 - v4 < (n : Int) → qX10_walk_L7 k1 k2 p3 Q n v4 M := by
  intro n
  induction n with
  | zero => intro v4 M hI hK hC hW hE30 hv hm; exact absurd hm (by omega)
  | succ n ih =>
    intro v4 M hI hK hC hW hE30 hv hm
    have el : k2 = 187 ∨ k2 = 192 := hk2
    have es : 0 < k1 ∧ k1 < 155 ∧ (k1 - 1) % 7 = 0 := hk1
    rw [qX10_walk_L7]
    refine ⟨⟨by omega, by omega⟩, ⟨fun c => ?_, fun c => ?_⟩⟩
    · rw [show v4.toNat = p3.toNat from by omega] at hC hW hE30
      exact hQ _ hI hK hC hW hE30
    have S1 : STR E M := hS.fr (hK 158 1 (by unfold kAd; omega)) (hK 158 2 (by unfold kAd; omega)) (hK 158 3 (by unfold kAd; omega)) (fun j => hK 159 j (by unfold kAd; omega))
    have L1 : LAW E M k2 := hL.fr (hK k2 4 (by unfold kAd; omega)) (hK k2 5 (by unfold kAd; omega)) (fun j => hK _ j (by unfold kAd; omega)) (fun j => hK _ j (by unfold kAd; omega))
    have q37 := itF_37 (r := r) hS.eb v4.toNat
    refine gX10_advanceW hI hE30 hk1 hk2 S1 L1 hw hC hW (by omega) ?_
    intro M' i' k' c' w' e'
    rw [← itF_s hv.1] at c' w'
    refine ih _ _ i' (hK.tr k') c' w' ?_ (by omega) (by omega)
    rw [show (v4 + 1).toNat = v4.toNat + 1 from by omega]
    exact e'
theorem gX10_walkW {k1 k2 : Nat} {p3 : Int} {Q : Mem → Prop} {M E : Mem} {r : Int → Int} (hI : IX M) (hk1 : isS k1) (hk2 : isL k2) (hS : STR E M) (hL : LAW E M k2) (hw : WFC (E 11) (E 1 24)) (hC : SC E M k1 r) (hW : WR E r) (h37 : r 37 ≤ 1999999000) (hp : p3 ≤ 200) (hQ : ∀ M' : Mem, IX M' → Ks (kAd k1 k2) M M' → SC E M' k1 (itF E p3.toNat r) → WR E (itF E p3.toNat r) → eqW (M' 161) (wiF E p3.toNat r) → Q M') : qX10_walk k1 k2 p3 M Q := by
  have el : k2 = 187 ∨ k2 = 192 := hk2
  have es : 0 < k1 ∧ k1 < 155 ∧ (k1 - 1) % 7 = 0 := hk1
  unfold qX10_walk
  refine gX10_forgetTallies hI ?_
  intro M1 i1 k1' z1
  have K1 : Ks (kAd k1 k2) M M1 := k1'.mono (by intro k j h; unfold kAd; omega)
  have S1 : STR E M1 := hS.fr (K1 158 1 (by unfold kAd; omega)) (K1 158 2 (by unfold kAd; omega)) (K1 158 3 (by unfold kAd; omega)) (fun j => K1 159 j (by unfold kAd; omega))
  have L1 : LAW E M1 k2 := hL.fr (K1 k2 4 (by unfold kAd; omega)) (K1 k2 5 (by unfold kAd; omega)) (fun j => K1 _ j (by unfold kAd; omega)) (fun j => K1 _ j (by unfold kAd; omega))
  have C1 : SC E M1 k1 r := hC.fr (fun i j hi => k1' _ j (by omega))
  refine ⟨201, gX10_walk_L7W (M0 := M1) (r := r) hk1 hk2 S1 L1 hw h37 hp ?_ _ _ _ i1 Ks.rf C1 hW (fun j p q => z1 j p q) (by omega) (by omega)⟩
  intro M' i' k' c' w' e'
  exact hQ _ i' (K1.tr k') c' w' e'
-- the reference
theorem gX12_hearseGoesW {k1 : Nat} {p2 b : Int} {M E : Mem} {w : Int → Int} {Q : Mem → Prop} (hI : IM b M) (hE30 : eqW (M 16) w) (hE : CE E M) (hk1 : isN k1) (hp : 0 ≤ p2 ∧ p2 ≤ 5) (hf : 0 ≤ M k1 p2 ∧ M k1 p2 < eG E) (hQ : ∀ M' : Mem, IM b M' → FrJ (fun k j => k = k1 ∨ k = 14 ∨ k = 13 ∨ (k = 1 ∧ j = 30) ∨ k = 16) M M' → M' k1 = mhF E (M k1) p2 → eqW (M' 16) (wtF E (M k1) p2 w) → Q M') : qX12_hearseGoes k1 p2 M Q := by
  have hk : k1 = 5 ∨ k1 = 6 := hk1
  have bg := hE.g hI
  unfold qX12_hearseGoes
  refine gX12_paceOf hI hE hk1 ⟨hp.1, hp.2, hf.1⟩ ?_
  intro M1 i1 f1 _
  have g16 : ∀ j, M1 16 j = M 16 j := fun j => f1 16 j (by omega)
  have K1 : M1 k1 = M k1 := funext fun j => f1 k1 j (by omega)
  have E1 : CE E M1 := hE.fr f1 (by intro k j h; rcases h with h | h | h | h | h <;> omega)
  have F1 : FrJ (fun k j => k = k1 ∨ k = 14 ∨ k = 13 ∨ (k = 1 ∧ j = 30) ∨ k = 16) M M1 := f1.mono (by intro k j h; omega)
  have bp : 0 ≤ paF E (M k1) p2 ∧ paF E (M k1) p2 ≤ 3 := by unfold paF; omega
  refine gX12_goal (p2 := p2) i1 E1 hk1 hp (by rw [K1]; exact hf) bp ?_
  rw [K1]
  intro _
  have gb := gdF_c (okF E (M k1) (M k1 p2)) (M k1 p2) (min (eG E) (M k1 p2 + paF E (M k1) p2) - M k1 p2).toNat
  have gl : M k1 p2 ≤ goF E (M k1) p2 (paF E (M k1) p2) ∧ goF E (M k1) p2 (paF E (M k1) p2) ≤ eG E := by
    have h1 := gb.1
    show M k1 p2 ≤ gdF _ _ _ ∧ gdF _ _ _ ≤ eG E
    omega
  refine ⟨by omega, by omega, ?_⟩
  intro x5 e5 _
  have f5 : x5 = M k1 p2 := e5
  refine ⟨fun c => ?_, fun c => ?_⟩
  · rw [f5] at c
    refine gX12_gate i1 E1 ?_
    intro _
    refine ⟨fun c2 => ?_, fun c2 => ?_⟩
    · intro M9 h9
      refine hQ _ (by rw [h9]; exact i1.up (by omega) ((bm_n hk1).mpr ⟨by omega, by omega, by omega, by omega⟩)) (by rw [h9]; exact F1.up (Or.inl rfl)) ?_ ?_
      · rw [h9, up2_up, K1]
        unfold mhF
        rw [if_neg c, if_neg c2]
      · intro j p q
        rw [h9, up2_n (by omega), g16]
        unfold wtF
        rw [if_neg c]
        exact hE30 j p q
    · intro x10 e10 _ x11 e11 r11 M12 h12 x13 e13 _
      have f10 : x10 = M k1 12 := by rw [e10, K1]
      have f13 : x13 = x11 := by rw [e13, h12, up2_s]
      have i12 : IM b M12 := by rw [h12]; exact i1.up (by omega) ((bm_n hk1).mpr ⟨by omega, by omega, by omega, by omega⟩)
      refine ⟨by omega, by omega, ?_⟩
      intro M16 h16 M17 h17
      have i16 : IM b M16 := by rw [h16]; exact i12.up (by omega) ((bm_n hk1).mpr ⟨by omega, by omega, by omega, by omega⟩)
      refine hQ _ (by rw [h17]; exact i16.up (by omega) ((bm_n hk1).mpr ⟨by omega, by omega, by omega, by omega⟩)) (by rw [h17, h16, h12]; exact ((F1.up (Or.inl rfl)).up (Or.inl rfl)).up (Or.inl rfl)) ?_ ?_
      · rw [h17, up2_up, h16, up2_up, h12, up2_up, K1, f13, e11, f10]
        unfold mhF
        rw [if_neg c, if_pos c2]
      · intro j p q
        rw [h17, up2_n (by omega), h16, up2_n (by omega), h12, up2_n (by omega), g16]
        unfold wtF
        rw [if_neg c]
        exact hE30 j p q
  · rw [f5] at c
    intro x18 _ _ x19 _ _ M20 h20
    have i20 : IM b M20 := by rw [h20]; exact i1.up (by omega) (by simp [BM])
    refine ⟨by omega, by omega, ?_⟩
    intro x23 e23 _ x24 e24 _ M25 h25
    refine hQ _ (by rw [h25]; exact i20.up (by omega) (by simp [BM])) (by rw [h25, h20]; exact (F1.up (by omega)).up (by omega)) ?_ ?_
    · rw [h25, up2_n (by omega), h20, up2_n (by omega), K1]
      unfold mhF
      rw [if_pos c]
    · intro j p q
      unfold wtF
      rw [if_pos c, h25, up2_up, c]
      by_cases ej : j = M k1 p2
      · rw [ej, upS, upS, e24, e23, c, h20, up2_n (by decide), g16, hE30 _ (by omega) (by omega)]
      · rw [up_j ej, up_j ej, h20, up2_n (by decide), g16]
        exact hE30 j p q
theorem gX12_stepGoes_L7W {k1 : Nat} {b : Int} {E : Mem} {X32 Q : Mem → Prop} {A AW : Int → Int} (hk1 : isN k1) (hX : ∀ M' : Mem, IM b M' → CE E M' → M' k1 = A → eqW (M' 16) AW → X32 M') : ∀ (n : Nat) (v2 : Int) (M : Mem) (l : List Int) (w : Int → Int), IM b M → CE E M → LL M v2 l → VL (eG E) (M k1) l → hsF E l (M k1) = A → eqW (M 16) w → wsF E l (M k1) w = AW → (0 ≤ v2 ∧ v2 + l.length ≤ 6) → 6 - v2 < (n : Int) → qX12_stepGoes_L7 k1 X32 Q n v2 M := by
  intro n
  induction n with
  | zero => intro v2 M l w hI hE hL hV hA hE30 hAW hv hm; exact absurd hm (by omega)
  | succ n ih =>
    intro v2 M l w hI hE hL hV hA hE30 hAW hv hm
    have hk : k1 = 5 ∨ k1 = 6 := hk1
    rw [qX12_stepGoes_L7]
    intro x2 e2 _
    have f2 : x2 = v2 + l.length := by rw [e2]; exact hL.1
    refine ⟨⟨by omega, by omega⟩, ⟨fun c => ?_, fun c => ⟨by omega, by omega, ?_⟩⟩⟩
    · cases l with
      | nil => exact hX _ hI hE hA (by rw [← hAW]; exact hE30)
      | cons h t => simp at f2; omega
    · intro x7 e7 _
      cases l with
      | nil => simp at f2; omega
      | cons h t =>
        obtain ⟨h1, h2, h3⟩ := hV
        have f7 : x7 = h := by
          have := hL.2 0 (by simp)
          rw [show v2 + ((0 : Nat) : Int) = v2 from by omega] at this
          rw [e7, this]
          rfl
        rw [f7]
        refine gX12_hearseGoesW hI hE30 hE hk1 ⟨h1.1, h1.2.1⟩ h1.2.2 ?_
        intro M8 i8 F8 K8 e8
        have E8 : CE E M8 := hE.fr F8 (by intro k j h; rcases h with h | h | h | h | h <;> omega)
        refine ih _ _ t (wtF E (M k1) h w) i8 E8 ⟨?_, fun j hj => ?_⟩ ?_ (by rw [K8]; exact hA) e8 (by rw [K8]; exact hAW) (by simp at hv; omega) (by omega)
        · rw [F8 1 35 (by omega), hL.1]
          simp
          omega
        · rw [F8 18 _ (by omega)]
          have := hL.2 (j + 1) (by simp; omega)
          rw [show v2 + ((j + 1 : Nat) : Int) = v2 + 1 + j from by omega] at this
          rw [this]
          rfl
        · refine h3.cg (fun x hx => ?_)
          have hi := h3.i x hx
          rw [K8]
          exact mhF_o (h2 x hx) (by omega) (by omega)
theorem gX12_stepGoesW {k1 : Nat} {b : Int} {M E : Mem} {w : Int → Int} {Q : Mem → Prop} (hI : IM b M) (hE30 : eqW (M 16) w) (hE : CE E M) (hb : b + 1 ≤ 2000000000) (hk1 : isN k1) (hQ : ∀ M' : Mem, IM (b + 1) M' → CE E M' → M' k1 = stF E (M k1) → eqW (M' 16) (wtS E (M k1) w) → Q M') : qX12_stepGoes k1 M Q := by
  have hk : k1 = 5 ∨ k1 = 6 := hk1
  have bH := hE.h hI
  have bO := hE.o hI
  have bg := hE.g hI
  unfold qX12_stepGoes
  refine gX12_laysLine hI hE hk1 ?_
  intro M1 i1 F1 L1 hl6
  have E1 : CE E M1 := hE.fr F1 (by intro k j h; rcases h with h | h | h | h | h <;> omega)
  have K1 : M1 k1 = M k1 := funext fun j => F1 k1 j (by omega)
  refine ⟨7, gX12_stepGoes_L7W (A := hsF E (lnL (M k1) (eH E) (eG E).toNat) (M k1)) (AW := wtS E (M k1) w) hk1 ?_ _ _ _ (lnL (M k1) (eH E) (eG E).toNat) w i1 E1 L1 (by rw [K1]; exact lnL_VL (by omega) _ (by omega)) (by rw [K1]) (fun j p q => by rw [F1 16 j (by omega)]; exact hE30 j p q) (by rw [K1]; rfl) (by omega) (by omega)⟩
  intro M2 i2 E2 K2 e2
  refine ⟨9, fwX12_stepGoes_L34 (M0 := M2) (X62 := fun M3 => IM b M3 ∧ CE E M3 ∧ M3 k1 = msF E (eO E) (hsF E (lnL (M k1) (eH E) (eG E).toNat) (M k1))) (Q := Q) (fun _ _ h => h) ?_ 9 0 M2 Ks.rf (gX12_stepGoes_L34 (r := hsF E (lnL (M k1) (eH E) (eG E).toNat) (M k1)) hk1 (fun M3 a c d => ⟨a, c, d⟩) _ _ _ i2 E2 (by rw [K2]; rfl) (by omega) (by omega))⟩
  intro M3 g3 h3
  obtain ⟨i3, E3, K3⟩ := h3
  intro x17 e17 _
  have b17 : 0 ≤ x17 ∧ x17 ≤ b := by rw [e17]; exact ((bm_n hk1).mp (i3.bx _ _)).2.2.2 rfl
  refine ⟨⟨by omega, by omega⟩, ?_⟩
  intro M19 h19
  refine hQ _ ?_ ?_ ?_ ?_
  · rw [h19]
    exact (i3.mono (by omega)).up (by omega) ((bm_n hk1).mpr ⟨by omega, by omega, by omega, by omega⟩)
  · rw [h19]
    exact E3.up (by intro h; rcases h with h | h | h | h | h <;> omega)
  · rw [h19, up2_up, e17, K3]
    rfl
  · intro j p q
    rw [h19, up2_n (by omega), g3 16 j (by omega)]
    exact e2 j p q
theorem gX12_goesOn_L12W {k1 : Nat} {p2 b : Int} {X31 Q : Mem → Prop} {M0 : Mem} (hX : ∀ M' : Mem, IM b M' → FrJ (fun k _ => k = 16) M0 M' → (∀ j, 0 ≤ j → j < 30 → M' 16 j = 0) → X31 M') : ∀ (n : Nat) (v3 : Int) (M : Mem), IM b M → FrJ (fun k _ => k = 16) M0 M → (0 ≤ v3 ∧ v3 ≤ 30) → (∀ j, 0 ≤ j → j < v3 → M 16 j = 0) → 30 - v3 < (n : Int) → qX12_goesOn_L12 k1 p2 X31 Q n v3 M := by
  intro n
  induction n with
  | zero => intro v3 M hI hK hv hz hm; exact absurd hm (by omega)
  | succ n ih =>
    intro v3 M hI hK hv hz hm
    rw [qX12_goesOn_L12]
    refine ⟨⟨by omega, by omega⟩, ⟨fun c => hX M hI hK (fun j p q => hz j p (by omega)), fun c => ⟨hv.1, by omega, ?_⟩⟩⟩
    intro M7 h7
    refine ih _ M7 (by rw [h7]; exact hI.up (by omega) (by simp [BM])) (by rw [h7]; exact hK.up (by omega)) (by omega) (fun j p q => ?_) (by omega)
    by_cases c2 : j = v3
    · rw [c2, h7, up2_s]
    · rw [h7, up2_j c2]
      exact hz j p (by omega)
theorem gX12_goesOn_L33W {k1 : Nat} {p2 b : Int} {X52 Q : Mem → Prop} {M0 : Mem} (hX : ∀ M' : Mem, IM b M' → FrJ (fun k _ => k = 17) M0 M' → X52 M') : ∀ (n : Nat) (v3 : Int) (M : Mem), IM b M → FrJ (fun k _ => k = 17) M0 M → (0 ≤ v3 ∧ v3 ≤ 8) → 8 - v3 < (n : Int) → qX12_goesOn_L33 k1 p2 X52 Q n v3 M := by
  intro n
  induction n with
  | zero => intro v3 M hI hK hv hm; exact absurd hm (by omega)
  | succ n ih =>
    intro v3 M hI hK hv hm
    rw [qX12_goesOn_L33]
    refine ⟨⟨by omega, by omega⟩, ⟨fun c => hX M hI hK, fun c => ⟨hv.1, by omega, ?_⟩⟩⟩
    intro M13 h13
    exact ih _ M13 (by rw [h13]; exact hI.up (by omega) (by simp [BM])) (by rw [h13]; exact hK.up (by omega)) (by omega) (by omega)
theorem gX12_goesOn_L54W {k1 : Nat} {p2 b : Int} {E : Mem} {r : Int → Int} {Q : Mem → Prop} (hk1 : isN k1) (hb : b + 200 ≤ 2000000000) (hp : p2 ≤ 200) (hQ : ∀ M' : Mem, IM (b + 200) M' → CE E M' → M' k1 = itF E p2.toNat r → eqW (M' 16) (wiF E p2.toNat r) → Q M') : ∀ (n : Nat) (v3 : Int) (M : Mem), IM (b + v3) M → CE E M → M k1 = itF E v3.toNat r → eqW (M 16) (wiF E v3.toNat r) → (0 ≤ v3 ∧ (v3 ≤ p2 ∨ v3 = 0)) → 200 - v3 < (n : Int) → qX12_goesOn_L54 k1 p2 Q n v3 M := by
  intro n
  induction n with
  | zero => intro v3 M hI hE hr he hv hm; exact absurd hm (by omega)
  | succ n ih =>
    intro v3 M hI hE hr he hv hm
    rw [qX12_goesOn_L54]
    refine ⟨⟨by omega, by omega⟩, ⟨fun c => hQ _ (hI.mono (by omega)) hE (by rw [hr, show v3.toNat = p2.toNat from by omega]) (by rw [show p2.toNat = v3.toNat from by omega]; exact he), fun c => ?_⟩⟩
    refine gX12_stepGoesW hI he hE (by omega) hk1 ?_
    intro M' i' E' k' e'
    refine ih _ _ (i'.mono (by omega)) E' (by rw [k', hr, itF_s hv.1]) ?_ (by omega) (by omega)
    rw [show (v3 + 1).toNat = v3.toNat + 1 from by omega]
    rw [hr] at e'
    exact e'
theorem gX12_goesOnW {k1 : Nat} {p2 b : Int} {M E : Mem} {Q : Mem → Prop} (hI : IM b M) (hE : CE E M) (hb : b + 200 ≤ 2000000000) (hk1 : isN k1) (hp : p2 ≤ 200) (hQ : ∀ M' : Mem, IM (b + 200) M' → CE E M' → M' k1 = itF E p2.toNat (M k1) → eqW (M' 16) (wiF E p2.toNat (M k1)) → Q M') : qX12_goesOn k1 p2 M Q := by
  have hk : k1 = 5 ∨ k1 = 6 := hk1
  unfold qX12_goesOn
  intro M1 h1 M2 h2
  have i1 : IM b M1 := by rw [h1]; exact hI.up (by omega) (by simp [BM])
  have i2 : IM b M2 := by rw [h2]; exact i1.up (by omega) (by simp [BM])
  have F2 : FrJ (fun k j => (k = 1 ∧ (j = 30 ∨ j = 31)) ∨ k = 16 ∨ k = 17) M M2 := by rw [h2, h1]; exact (FrJ.rf.up (by omega)).up (by omega)
  refine ⟨31, gX12_goesOn_L12W (b := b) (M0 := M2) ?_ _ _ _ i2 FrJ.rf (by omega) (fun j p q => by omega) (by omega)⟩
  intro M3 i3 F3 z3
  refine ⟨9, gX12_goesOn_L33W (b := b) (M0 := M3) ?_ _ _ _ i3 FrJ.rf (by omega) (by omega)⟩
  intro M4 i4 F4
  have G4 : FrJ (fun k j => (k = 1 ∧ (j = 30 ∨ j = 31)) ∨ k = 16 ∨ k = 17) M M4 := fun k j h => by rw [F4 k j (by omega), F3 k j (by omega)]; exact F2 k j h
  have E4 : CE E M4 := hE.fr G4 (by intro k j h; rcases h with h | h | h | h | h <;> omega)
  have K4 : M4 k1 = M k1 := funext fun j => G4 k1 j (by omega)
  exact ⟨201, gX12_goesOn_L54W (b := b) (r := M k1) hk1 hb hp hQ _ _ _ (i4.mono (by omega)) E4 (by rw [K4]; rfl) (fun j p q => by rw [F4 16 j (by omega)]; exact z3 j p q) (by omega) (by omega)⟩
/-- where they wait the most: the first such cell -/
def jmF (w : Int → Int) (c : Int) : Nat → Int → Int → Int
  | 0, best, _ => best
  | n + 1, best, v => if c ≤ v then best else if w v ≤ w best then jmF w c n best (v + 1) else jmF w c n v (v + 1)
noncomputable def jmA (E : Mem) (r : Int → Int) (n : Int) : Int := if 1 ≤ n ∧ n ≤ 60 then jmF (wiF E n.toNat r) (E 1 3) 30 0 1 else -1
theorem gX11_jam_L44 {p1 T c : Int} {X84 : Int → Mem → Prop} {Q : Int → Mem → Prop} {M : Mem} {w : Int → Int} (hE30 : eqW (M 161) w) (hc : M 158 1 = c) (hc2 : 4 ≤ c ∧ c ≤ 30) (hX : (0 ≤ T ∧ T ≤ 29) → X84 T M) : ∀ (n : Nat) (v2 v3 : Int), jmF w c n v2 v3 = T → (0 ≤ v2 ∧ v2 ≤ 29) → (0 ≤ v3 ∧ v3 ≤ c ∧ c ≤ v3 + n) → qX11_jam_L44 p1 X84 Q (n + 1) v2 v3 M := by
  intro n
  induction n with
  | zero =>
    intro v2 v3 hT h2 h3
    rw [qX11_jam_L44]
    intro x6 e6 r6
    refine ⟨?_, ⟨fun d => ?_, fun d => by omega⟩⟩
    · exact ⟨by omega, by omega⟩
    · have : v2 = T := hT
      rw [this]
      exact hX (by omega)
  | succ n ih =>
    intro v2 v3 hT h2 h3
    unfold jmF at hT
    rw [qX11_jam_L44]
    intro x6 e6 _
    refine ⟨?_, ⟨fun d => ?_, fun d => ⟨h3.1, by omega, ?_⟩⟩⟩
    · exact ⟨by omega, by omega⟩
    · rw [if_pos (by omega)] at hT
      rw [hT]
      exact hX (by omega)
    · rw [if_neg (by omega)] at hT
      intro x11 e11 _
      refine ⟨h2.1, by omega, ?_⟩
      intro x14 e14 _
      rw [hE30 v3 h3.1 (by omega)] at e11
      rw [hE30 v2 h2.1 (by omega)] at e14
      refine ⟨fun d2 => ?_, fun d2 => ?_⟩
      · rw [if_pos (by omega)] at hT
        exact ih _ _ hT h2 (by omega)
      · rw [if_neg (by omega)] at hT
        exact ih _ _ hT (by omega) (by omega)
theorem gX11_jam {p1 : Int} {M E : Mem} {l : Nat} {r : Int → Int} {Q : Int → Mem → Prop} (h : TB E M l) (hC : SC E M 1 r) (hW : WR E r) (h37 : r 37 ≤ 1999999000) (hQ : ∀ M' : Mem, IX M' → Q (jmA E r p1) M') : qX11_jam p1 M Q := by
  have hl := h.2.2.1
  have hE := h.2.2.2.1.eb
  have b3 := hE.1
  unfold jmA at hQ
  unfold qX11_jam
  refine ⟨fun c => by have := hQ M h.1; rw [if_neg (by omega)] at this; exact this, fun c => ⟨fun c2 => ?_, fun c2 => by have := hQ M h.1; rw [if_neg (by omega)] at this; exact this⟩⟩
  rw [if_pos (by omega)] at hQ
  refine trC h hC h.1 Ks.rf ?_
  intro M3 i3 k3 c3
  refine ⟨i3.l16, ?_⟩
  rw [h.l k3]
  refine gX10_walkW i3 (show isS 8 by decide) hl (h.S k3) (h.L k3) h.2.2.2.2.2.1 c3 hW h37 (by omega) ?_
  intro M5 i5 k5 c5 w5 e5
  have S5 : STR E M5 := h.S (k3.tr (k5.mono (by intro k j q; omega)))
  refine ⟨31, gX11_jam_L44 (T := jmF (wiF E p1.toNat r) (E 1 3) 30 0 1) e5 S5.1 b3 ?_ 30 0 1 rfl (by decide) (by omega)⟩
  intro hT
  refine ⟨hT.1, by omega, ?_⟩
  intro x19 _ _ x20 _ _
  refine tell2 i5 ?_
  intro M21 i21 _
  exact ⟨⟨by omega, by omega⟩, hQ M21 i21⟩
theorem gX12_jam_L36 {p1 T c b : Int} {X71 : Int → Mem → Prop} {Q : Int → Mem → Prop} {M : Mem} {w : Int → Int} (hE30 : eqW (M 16) w) (hc : M 1 3 = c) (hc2 : 4 ≤ c ∧ c ≤ 30) (hX : (0 ≤ T ∧ T ≤ 29) → X71 T M) : ∀ (n : Nat) (v2 v3 : Int), jmF w c n v2 v3 = T → (0 ≤ v2 ∧ v2 ≤ 29) → (0 ≤ v3 ∧ v3 ≤ c ∧ c ≤ v3 + n) → qX12_jam_L36 p1 X71 Q (n + 1) v2 v3 M := by
  intro n
  induction n with
  | zero =>
    intro v2 v3 hT h2 h3
    rw [qX12_jam_L36]
    intro x6 e6 r6
    refine ⟨⟨by omega, by omega⟩, ⟨fun d => ?_, fun d => by omega⟩⟩
    have : v2 = T := hT
    rw [this]
    exact hX (by omega)
  | succ n ih =>
    intro v2 v3 hT h2 h3
    unfold jmF at hT
    rw [qX12_jam_L36]
    intro x6 e6 _
    refine ⟨⟨by omega, by omega⟩, ⟨fun d => ?_, fun d => ⟨h3.1, by omega, ?_⟩⟩⟩
    · rw [if_pos (by omega)] at hT
      rw [hT]
      exact hX (by omega)
    · rw [if_neg (by omega)] at hT
      intro x11 e11 _
      refine ⟨h2.1, by omega, ?_⟩
      intro x14 e14 _
      rw [hE30 v3 h3.1 (by omega)] at e11
      rw [hE30 v2 h2.1 (by omega)] at e14
      refine ⟨fun d2 => ?_, fun d2 => ?_⟩
      · rw [if_pos (by omega)] at hT
        exact ih _ _ hT h2 (by omega)
      · rw [if_neg (by omega)] at hT
        exact ih _ _ hT (by omega) (by omega)
theorem gX12_jam {p1 b : Int} {M E : Mem} {Q : Int → Mem → Prop} (hI : IM b M) (hE : CE E M) (hb : b + 200 ≤ 2000000000) (hQ : ∀ M' : Mem, IM (b + 200) M' → Q (jmA E (cr (M 5) (M 6)) p1) M') : qX12_jam p1 M Q := by
  have E0 := hE.eb hI
  have b3 := E0.1
  unfold jmA at hQ
  unfold qX12_jam
  intro M1 h1
  obtain ⟨i1, E1, k5, k6, _⟩ := th0 hI hE h1
  refine sX12_in (p0 := p1) (p2 := 1) (p4 := 60) i1 ?_
  intro x2 p2 _ _
  refine ⟨fun c => ?_, fun c => by have := hQ M1 (i1.mono (by omega)); rw [if_neg (by omega)] at this; exact this⟩
  have hp : 1 ≤ p1 ∧ p1 ≤ 60 := by omega
  rw [if_pos hp] at hQ
  refine cpM (b := b) (E := E) (r5 := M 5) (g := M 6) ⟨i1, E1, k5, by rw [k6]; exact fun _ _ => rfl⟩ ?_
  intro M4 t4 e4
  refine gX12_goesOnW t4.1 t4.2.1 hb (Or.inr rfl) (by omega) ?_
  intro M5 i5 E5 _ e5
  rw [e4] at e5
  refine ⟨32, gX12_jam_L36 (b := b) (T := jmF (wiF E p1.toNat (cr (M 5) (M 6))) (E 1 3) 30 0 1) e5 (E5 1 3 cE13) b3 ?_ 31 0 0 (by rw [jmF, if_neg (by omega), if_pos (Int.le_refl _)]; rfl) (by decide) (by omega)⟩
  intro hT M17 h17
  have i17 : IM (b + 200) M17 := by rw [h17]; exact i5.up (by omega) (bm_c1_1.mpr (by decide))
  have t17 : M17 1 1 = 0 := by rw [h17, up2_s]
  refine ⟨hT.1, by omega, ?_⟩
  intro x20 _ _
  refine entC i17 (by omega) ?_
  intro M21 i21 _ t21 x22 _ _
  refine entC i21 (by omega) ?_
  intro M23 i23 _ _
  exact ⟨⟨by omega, by omega⟩, hQ M23 i23⟩
