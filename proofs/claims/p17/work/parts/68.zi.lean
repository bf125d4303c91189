/-! WEATHER: what is written -/
theorem gX8_takeWeather_L10 {Q : Mem → Prop} {M0 : Mem} (hl : M0 158 3 = M0 156 1 ∧ M0 158 3 ≤ 20) (hQ : ∀ M' : Mem, IX M' → Ks (fun k _ => k = 159) M0 M' → (∀ i, 0 ≤ i → i < M0 158 3 → M' 159 i = M0 157 i - 48) → Q M') : ∀ (n : Nat) (v2 : Int) (M : Mem), IX M → Ks (fun k _ => k = 159) M0 M → (∀ i, 0 ≤ i → i < v2 → M 159 i = M0 157 i - 48) → (0 ≤ v2 ∧ v2 ≤ M0 158 3) → M0 158 3 - v2 < (n : Int) → qX8_takeWeather_L10 Q n v2 M := by
  intro n
  induction n with
  | zero => intro v2 M hI hK hs hv hm; exact absurd hm (by omega)
  | succ n ih =>
    intro v2 M hI hK hs hv hm
    have g3 : M 158 3 = M0 158 3 := hK 158 3 (by omega)
    have g1 : M 156 1 = M0 156 1 := hK 156 1 (by omega)
    rw [qX8_takeWeather_L10]
    intro x3 e3 _
    refine ⟨⟨by omega, by omega⟩, ⟨fun c => hQ M hI hK (fun i a q => hs i a (by omega)), fun c => ?_⟩⟩
    unfold qX9_signAt
    refine ⟨fun c2 => by omega, fun _ => ?_⟩
    intro x2 e2 _
    refine ⟨fun c3 => by omega, fun _ => ⟨by omega, by omega, ?_⟩⟩
    intro x6 e6 _ _
    have b6 : 0 ≤ x6 ∧ x6 ≤ 255 := by rw [e6]; exact bx_c157.mp (hI.bx _ _)
    have f6 : x6 = M0 157 v2 := by rw [e6]; exact hK 157 v2 (by omega)
    refine ⟨by omega, by omega, ⟨by omega, by omega⟩, ?_⟩
    intro M10 h10
    refine ih _ M10 (by rw [h10]; exact hI.up (by decide) (by simp [BX])) (by rw [h10]; exact hK.wr rfl) (fun i a q => ?_) (by omega) (by omega)
    rw [h10]
    by_cases ci : i = v2
    · rw [ci, up2_s, f6]
    · rw [up2_j ci]; exact hs i a (by omega)
theorem gX8_takeWeather {M : Mem} {Q : Mem → Prop} (hI : IX M) (hl : 0 ≤ M 156 1 ∧ M 156 1 ≤ 20) (hQ : ∀ M' : Mem, IX M' → Ks (fun k j => k = 159 ∨ (k = 158 ∧ j = 3)) M M' → M' 158 3 = M 156 1 → (∀ i, 0 ≤ i → i < M 156 1 → M' 159 i = M 157 i - 48) → Q M') : qX8_takeWeather M Q := by
  unfold qX8_takeWeather
  intro x1 e1 _ M2 h2
  have i2 : IX M2 := by rw [h2]; exact hI.up (by decide) (bx_c158_3.mpr ⟨by omega, by omega⟩)
  have K2 : Ks (fun k j => k = 159 ∨ (k = 158 ∧ j = 3)) M M2 := by rw [h2]; exact Ks.rf.wr (Or.inr ⟨rfl, rfl⟩)
  have g3 : M2 158 3 = M 156 1 := by rw [h2, up2_s, e1]
  have g1 : M2 156 1 = M 156 1 := K2 156 1 (by omega)
  have g157 : M2 157 = M 157 := funext fun j => K2 157 j (by omega)
  refine ⟨21, gX8_takeWeather_L10 (M0 := M2) ⟨by omega, by omega⟩ ?_ _ _ _ i2 Ks.rf (fun i a q => by omega) (by omega) (by omega)⟩
  intro M' i' k' b'
  rw [g3, g157] at b'
  exact hQ M' i' (K2.tr (k'.mono (fun k j h => Or.inl h))) (by rw [k' 158 3 (by omega)]; exact g3) b'
theorem gX11_weatherC {M : Mem} {Q : Int → Mem → Prop} (hI : IX M) (hQ : ∀ (q : Int) (M' : Mem), IX M' → WV (M 157) (M 156 1) q → M' 156 1 = 0 → (q = M 156 1 ∧ 1 ≤ q → Ks (fun k j => k = 156 ∨ k = 159 ∨ (k = 158 ∧ j = 3)) M M' ∧ M' 158 3 = M 156 1 ∧ ∀ i, 0 ≤ i → i < M 156 1 → M' 159 i = M 157 i - 48) → (¬ (q = M 156 1 ∧ 1 ≤ q) → Ks (fun k j => k = 156 ∧ j = 1) M M') → Q (wvz (M 156 1) q) M') : qX11_weather M Q := by
  have bL := bx_c156_1.mp (hI.bx 156 1)
  have J29b : ∀ (q x2 : Int), WV (M 157) (M 156 1) q → ¬ (q = M 156 1 ∧ 1 ≤ q) → qX11_weather_J29 Q q x2 M := by
    intro q x2 hq hn
    have b := hq.1
    unfold qX11_weather_J29 qX9_clear
    intro M4 h4
    have i4 : IX M4 := by rw [h4]; exact hI.up (by decide) (bx_c156_1.mpr (by decide))
    refine ⟨⟨by omega, by omega⟩, ⟨fun c => ⟨⟨by omega, by omega⟩, ?_⟩, fun c => by omega⟩⟩
    have := hQ q M4 i4 hq (by rw [h4, up2_s]) (fun w => absurd w hn) (fun _ => by rw [h4]; exact Ks.rf.wr ⟨rfl, rfl⟩)
    unfold wvz at this
    rw [if_neg hn] at this
    exact this
  unfold qX11_weather qX11_weatherFault
  refine ⟨21, gX11_weatherFault_L2 hI ?_ ?_ _ _ (by omega) (fun i a q => by omega) (by omega)⟩
  · intro hq
    have b := hq.1
    unfold qX9_isEmpty
    intro x9 e9 _
    refine ⟨fun c => ?_, fun c => ?_⟩
    · intro _ _
      refine ⟨fun _ => ?_, fun h => absurd rfl h⟩
      intro _ x2 e2 _
      refine ⟨fun h => absurd rfl h, fun _ => ?_⟩
      refine gX8_takeWeather hI (by omega) ?_
      intro M9 i9 k9 a9 b9
      unfold qX11_weather_J29 qX9_clear
      intro M4 h4
      have i4 : IX M4 := by rw [h4]; exact i9.up (by decide) (bx_c156_1.mpr (by decide))
      refine ⟨⟨by decide, by decide⟩, ⟨fun h => absurd rfl h, fun _ => ⟨⟨by omega, by omega⟩, ?_⟩⟩⟩
      have := hQ _ M4 i4 hq (by rw [h4, up2_s]) (fun _ => ⟨?_, by rw [h4, up2_n (by decide)]; exact a9, fun i a q => by rw [h4, up2_n (by decide)]; exact b9 i a q⟩) (fun w => absurd ⟨rfl, by omega⟩ w)
      · unfold wvz at this
        rw [if_pos ⟨rfl, by omega⟩] at this
        rw [e2]
        exact this
      · rw [h4]
        exact (k9.mono (by intro k j h; omega)).wr (by omega)
    · intro _ _
      refine ⟨fun h => absurd h (by decide), fun _ => ?_⟩
      intro _ x2 e2 _
      refine ⟨fun h => J29b _ _ (by rw [show (0 : Int) = M 156 1 from by omega]; exact hq) (by omega), fun h => absurd h (by decide)⟩
  · intro q hl hq
    have b := hq.1
    intro _ x2 e2 _
    exact ⟨fun h => J29b _ _ hq (by omega), fun h => by omega⟩
abbrev kLw (k : Nat) (j : Int) : Prop := k = 10 ∨ (k = 1 ∧ j = 15)
theorem gX12_weather_L14C {X44 : Int → Mem → Prop} {Q : Int → Mem → Prop} {b : Int} {M0 : Mem} {len : Int} (hl : 0 ≤ len ∧ len ≤ 80) (hX : ∀ (q : Int) (M' : Mem), IM b M' → FrJ kLw M0 M' → WV (M0 7) len q → M' 1 15 = q → M' 1 16 = len → (∀ i, 0 ≤ i → i < q → M' 10 i = M0 7 i - 48) → X44 q M') : ∀ (n : Nat) (v1 : Int) (M : Mem), IM b M → FrJ kLw M0 M → (∀ i, 0 ≤ i → i < v1 → M 10 i = M0 7 i - 48) → (∀ j, M 7 j = M0 7 j) → M 1 15 = v1 → M 1 16 = len → (0 ≤ v1 ∧ v1 ≤ 20 ∧ v1 ≤ len) → (∀ i, 0 ≤ i → i < v1 → vW (M0 7 i)) → 20 - v1 < (n : Int) → qX12_weather_L14 X44 Q n v1 M := by
  intro n
  induction n with
  | zero => intro v1 M hI hF h10 h7 h15 h16 hv ha hm; exact absurd hm (by omega)
  | succ n ih =>
    intro v1 M hI hF h10 h7 h15 h16 hv ha hm
    rw [qX12_weather_L14]
    refine ⟨⟨by omega, by omega⟩, ⟨fun c => hX _ _ hI hF ⟨by omega, ha, Or.inr (Or.inl (by omega))⟩ h15 h16 h10, fun c => ?_⟩⟩
    refine sX12_isDigit hI ?_
    intro x5 p5 _ _
    have e7 : M 7 (M 1 15) = M0 7 v1 := by rw [h15, h7]
    rw [e7, h15, h16] at p5
    refine ⟨fun c2 => hX _ _ hI hF ⟨by omega, ha, ?_⟩ h15 h16 h10, fun c2 => ?_⟩
    · by_cases cl : v1 = len
      · exact Or.inl cl
      · refine Or.inr (Or.inr (fun w => p5.2.1 c2 ⟨by omega, by omega, w.1, w.2⟩))
    · have d5 := p5.1 (by omega)
      refine gX12_number (p1 := 1) hI (by omega) ?_
      intro x7 M7 i7 f7 p7 _
      refine ⟨by omega, by omega, ?_⟩
      intro M10 hE
      have i10 : IM b M10 := by rw [hE]; exact i7.up (by omega) (by simp [BM])
      have z7 : x7 = M0 7 v1 - 48 := by
        rcases p7 with ⟨_, _, w⟩ | ⟨k, hk, _, _, _, _, w⟩
        · exact absurd ⟨by omega, by rw [h15, h7]; exact ⟨d5.2.2.1, d5.2.2.2⟩⟩ w
        · have k1 : k = 1 := by omega
          rw [w, k1, h15]
          show 10 * 0 + M 7 (v1 + ((0 : Nat) : Int)) - 48 = M0 7 v1 - 48
          rw [h7, show v1 + ((0 : Nat) : Int) = v1 from by omega]
          omega
      have F10 : FrJ kLw M0 M10 := by rw [hE]; exact (hF.tr (f7.mono (fun k j h => Or.inr h))).up (Or.inl rfl)
      have a7 : M7 1 15 = v1 + 1 := by
        rcases p7 with ⟨_, _, w⟩ | ⟨k, hk, w, _⟩
        · exact absurd ⟨by omega, by rw [h15, h7]; exact ⟨d5.2.2.1, d5.2.2.2⟩⟩ w
        · omega
      refine ih _ _ i10 F10 (fun i a q => ?_) (fun j => by rw [hE, up2_n (by decide), f7 7 j (by omega), h7]) (by rw [hE, up2_n (by decide), a7]) (by rw [hE, up2_n (by decide), f7 1 16 (by omega), h16]) (by omega) (fun i a q => ?_) (by omega)
      · rw [hE]
        by_cases ci : i = v1
        · rw [ci, up2_s, z7]
        · rw [up2_j ci, f7 10 i (by omega)]; exact h10 i a (by omega)
      by_cases ci : i = v1
      · rw [ci]; exact ⟨d5.2.2.1, d5.2.2.2⟩
      · exact ha i a (by omega)
theorem gX12_weather_L73C {Q : Int → Mem → Prop} {b v1 : Int} {M0 : Mem} (hv1 : 1 ≤ v1 ∧ v1 ≤ 20) (hQ : ∀ M' : Mem, IM b M' → FrJ (fun k _ => k = 4) M0 M' → (∀ i, 0 ≤ i → i < v1 → M' 4 i = M0 10 i) → Q v1 M') : ∀ (n : Nat) (v2 : Int) (M : Mem), IM b M → FrJ (fun k _ => k = 4) M0 M → (∀ i, 0 ≤ i → i < v2 → M 4 i = M0 10 i) → (0 ≤ v2 ∧ v2 ≤ v1) → 20 - v2 < (n : Int) → qX12_weather_L73 Q n v1 v2 M := by
  intro n
  induction n with
  | zero => intro v2 M hI hF hs hv hm; exact absurd hm (by omega)
  | succ n ih =>
    intro v2 M hI hF hs hv hm
    rw [qX12_weather_L73]
    refine ⟨⟨by omega, by omega⟩, ⟨by omega, by omega⟩, ⟨fun c => hQ M hI hF (fun i a q => hs i a (by omega)), fun c => ⟨by omega, by omega, ?_⟩⟩⟩
    intro x25 e25 _ M26 h26
    refine ih _ M26 (by rw [h26]; exact hI.up (by omega) (by simp [BM])) (by rw [h26]; exact hF.up rfl) (fun i a q => ?_) (by omega) (by omega)
    rw [h26]
    by_cases ci : i = v2
    · rw [ci, up2_s, e25]
      exact hF 10 v2 (by omega)
    · rw [up2_j ci]; exact hs i a (by omega)
theorem gX12_weatherC {b : Int} {M : Mem} {Q : Int → Mem → Prop} (hI : IM b M) (hQ : ∀ (q : Int) (M' : Mem), IM b M' → WV (M 7) (M 1 14) q → M' 1 14 = 0 → (q = M 1 14 ∧ 1 ≤ q → FrJ (fun k j => k = 4 ∨ k = 10 ∨ (k = 1 ∧ (j = 0 ∨ j = 7 ∨ j = 14 ∨ j = 15 ∨ j = 16 ∨ j = 17))) M M' ∧ M' 1 7 = M 1 14 ∧ ∀ i, 0 ≤ i → i < M 1 14 → M' 4 i = M 7 i - 48) → (¬ (q = M 1 14 ∧ 1 ≤ q) → FrJ (fun k j => k = 10 ∨ (k = 1 ∧ (j = 0 ∨ j = 14 ∨ j = 15 ∨ j = 16 ∨ j = 17))) M M') → Q (wvz (M 1 14) q) M') : qX12_weather M Q := by
  have bL := bm_c1_14.mp (hI.bx 1 14)
  unfold qX12_weather
  intro M1 h1
  have i1 : IM b M1 := by rw [h1]; exact hI.up (by omega) (by simp [BM])
  have l1 : M1 1 14 = M 1 14 := by rw [h1, up2_j (by decide)]
  have F1 : FrJ (fun k j => k = 10 ∨ (k = 1 ∧ (j = 0 ∨ j = 14 ∨ j = 15 ∨ j = 16 ∨ j = 17))) M M1 := by rw [h1]; exact FrJ.rf.up (by omega)
  refine gX12_begins (p1 := 80) i1 (by omega) ?_
  intro M2 i2 f2 a15 a16 _ a14 _
  rw [l1] at a16
  have F2 : FrJ (fun k j => k = 10 ∨ (k = 1 ∧ (j = 0 ∨ j = 14 ∨ j = 15 ∨ j = 16 ∨ j = 17))) M M2 := F1.tr (f2.mono (by intro k j h; omega))
  have e7 : M2 7 = M 7 := funext fun j => F2 7 j (by omega)
  refine ⟨21, gX12_weather_L14C (b := b) (M0 := M2) (len := M 1 14) bL ?_ _ _ _ i2 FrJ.rf (fun i a w => by omega) (fun j => rfl) a15 (by omega) (by omega) (fun i a q => by omega) (by omega)⟩
  intro q M' i' f' hq k15 k16 h10
  rw [e7] at hq h10
  have hb' := hq.1
  have F' : FrJ (fun k j => k = 10 ∨ (k = 1 ∧ (j = 0 ∨ j = 14 ∨ j = 15 ∨ j = 16 ∨ j = 17))) M M' := F2.tr (f'.mono (by intro k j h; omega))
  have m14 : M' 1 14 = 0 := by rw [f' 1 14 (by omega)]; exact a14
  have BAD : ¬ (q = M 1 14 ∧ 1 ≤ q) → Q (-1 - q) M' := by
    intro hn
    have := hQ q M' i' hq m14 (fun w => absurd w hn) (fun _ => F')
    unfold wvz at this
    rw [if_neg hn] at this
    exact this
  show qX12_weather_J44 Q q M'
  unfold qX12_weather_J44
  refine ⟨⟨by omega, by omega⟩, ⟨fun c => ?_, fun c => ?_⟩⟩
  · intro x14 e14 _
    refine ⟨⟨by omega, by omega⟩, ?_⟩
    rw [show x14 = q from by omega]
    exact BAD (by omega)
  · intro x16 e16 _ x17 e17 _
    refine ⟨fun c2 => ?_, fun c2 => ?_⟩
    · intro M19 h19
      have i19 : IM b M19 := by rw [h19]; exact i'.up (by omega) (bm_c1_7.mpr ⟨by omega, by omega⟩)
      refine ⟨21, gX12_weather_L73C (b := b) (M0 := M19) (by omega) ?_ _ _ _ i19 FrJ.rf (fun i a w => by omega) (by omega) (by omega)⟩
      intro M'' i'' f'' c''
      have F19 : FrJ (fun k j => k = 4 ∨ k = 10 ∨ (k = 1 ∧ (j = 0 ∨ j = 7 ∨ j = 14 ∨ j = 15 ∨ j = 16 ∨ j = 17))) M M19 := by rw [h19]; exact (F'.mono (by intro k j h; omega)).up (by omega)
      have := hQ q M'' i'' hq ?_ (fun _ => ⟨F19.tr (f''.mono (fun k j h => Or.inl h)), ?_, fun i a w => ?_⟩) (fun w => absurd ⟨by omega, by omega⟩ w)
      · unfold wvz at this
        rw [if_pos ⟨by omega, by omega⟩] at this
        exact this
      · rw [f'' 1 14 (by omega), h19, up2_j (by decide)]
        exact m14
      · rw [f'' 1 7 (by omega), h19, up2_s]
        omega
      · rw [c'' i a (by omega), h19, up2_n (by decide)]
        exact h10 i a (by omega)
    · intro x28 e28 _
      refine ⟨⟨by omega, by omega⟩, ?_⟩
      rw [show x28 = q from by omega]
      exact BAD (by omega)
/-- the weather is told anew -/
theorem STA.weather {E E' MX MM MX' MM' : Mem} {len : Int} {f : Int → Int} (h : STA E MX MM) (hE : EBx E) (hI : IX MX) (hl : 1 ≤ len ∧ len ≤ 20) (e : ∀ (k : Nat) (j : Int), k ≠ 4 → ¬ (k = 1 ∧ j = 7) → E' k j = E k j) (e7 : E' 1 7 = len) (r4 : ∀ i, 0 ≤ i → i < len → E' 4 i = f i - 48) (kx : Ks (fun k j => k = 156 ∨ k = 159 ∨ (k = 158 ∧ j = 3)) MX MX') (x3 : MX' 158 3 = len) (x159 : ∀ i, 0 ≤ i → i < len → MX' 159 i = f i - 48) (km : FrJ (fun k j => k = 4 ∨ k = 10 ∨ (k = 1 ∧ (j = 0 ∨ j = 7 ∨ j = 14 ∨ j = 15 ∨ j = 16 ∨ j = 17))) MM MM') : STA E' MX' MM' := by
  obtain ⟨a, b, c, d, g, k⟩ := h
  have e13 : E' 1 3 = E 1 3 := e 1 3 (by decide) (by omega)
  have e14 : E' 1 4 = E 1 4 := e 1 4 (by decide) (by omega)
  have e15 : E' 1 5 = E 1 5 := e 1 5 (by decide) (by omega)
  have e124 : E' 1 24 = E 1 24 := e 1 24 (by decide) (by omega)
  have r2 : E' 2 = E 2 := funext fun j => e 2 j (by decide) (by omega)
  have r3 : E' 3 = E 3 := funext fun j => e 3 j (by decide) (by omega)
  have r11 : E' 11 = E 11 := funext fun j => e 11 j (by decide) (by omega)
  have eo : eO E' = eO E := by show (E' 1 5).toNat = (E 1 5).toNat; rw [e15]
  have eh : eH E' = eH E := by show (E' 1 4).toNat = (E 1 4).toNat; rw [e14]
  have eg : eG E' = eG E := by show E' 1 3 - 1 = E 1 3 - 1; rw [e13]
  have SCe : ∀ (M : Mem) (k0 : Nat) (r : Int → Int), SC E M k0 r → SC E' M k0 r := by
    intro M k0 r h
    unfold SC at h ⊢
    rw [e14, e15, r3, eo]
    exact h
  have WRe : ∀ r : Int → Int, WR E r → WR E' r := by
    intro r h
    unfold WR at h ⊢
    rw [e14, e15, eg, eh]
    exact h
  have k5 : MM' 5 = MM 5 := funext fun j => km 5 j (by omega)
  refine ⟨?_, ?_, ?_, ?_, ?_, ?_⟩
  · obtain ⟨a1, a2, a3, a4, a5, a6, a7, a8, a9⟩ := a
    unfold STR
    rw [e13, e14, e15, e7, r2, r3, kx 158 1 (by omega), kx 158 2 (by omega)]
    exact ⟨a1, a2, a3, x3, hl, fun j p q => by rw [x159 j p q, r4 j p q], a7, a8, a9⟩
  · have b' := b.kx (MX' := MX') hI (kx _ _ (by omega)) (fun k j q => kx k j (by omega))
    unfold LAW at b' ⊢
    rw [e124, r11]
    exact b'
  · rw [k5]
    exact SCe _ _ _ (c.fr (fun t j ht => kx _ j (by omega)))
  · rw [k5]
    exact WRe _ d
  · have g' := g.fr (MX' := MX') (MM' := MM') hE (fun k j q => kx k j (by omega)) (km 1 28 (by omega)) (fun j _ _ => km 15 j (by omega)) (bx_c163_1.mp (hI.bx 163 1))
    exact ⟨g'.1, fun i p q => ⟨SCe _ _ _ (g'.2 i p q).1, WRe _ (g'.2 i p q).2⟩⟩
  · have k' := k.fr (MX' := MX') (MM' := MM') (fun k j q => kx k j (by omega)) (fun k j q => km k j (by omega))
    intro i p q
    obtain ⟨u, v⟩ := k' i p q
    rw [e14, e15]
    exact ⟨u, fun w => ⟨(v w).1, (v w).2.1, fun w2 => ⟨SCe _ _ _ ((v w).2.2.1 w2).1, WRe _ ((v w).2.2.1 w2).2⟩, (v w).2.2.2⟩⟩
