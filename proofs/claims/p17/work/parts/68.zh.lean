/-! AVENUE, WEATHER: what is written -/
theorem gX8_become_L15 {Q : Mem → Prop} {M0 : Mem} (hl : M0 158 1 = M0 156 1 ∧ M0 158 1 ≤ 30) (hQ : ∀ M' : Mem, IX M' → Ks (fun k j => k = 158 ∧ j = 2) M0 M' → (∀ c : Nat, c < 32 → (bt (iI (M' 158 2)) c = true ↔ (c : Int) < M0 158 1 ∧ M0 157 c = 99)) → Q M') : ∀ (n : Nat) (v2 : Int) (M : Mem), IX M → Ks (fun k j => k = 158 ∧ j = 2) M0 M → (∀ c : Nat, c < 32 → (bt (iI (M 158 2)) c = true ↔ (c : Int) < v2 ∧ M0 157 c = 99)) → (0 ≤ v2 ∧ v2 ≤ M0 158 1) → M0 158 1 - v2 < (n : Int) → qX8_become_L15 Q n v2 M := by
  intro n
  induction n with
  | zero => intro v2 M hI hK hs hv hm; exact absurd hm (by omega)
  | succ n ih =>
    intro v2 M hI hK hs hv hm
    have g1 : M 158 1 = M0 158 1 := hK 158 1 (by omega)
    have g156 : M 156 1 = M0 156 1 := hK 156 1 (by omega)
    rw [qX8_become_L15]
    intro x4 e4 _
    refine ⟨⟨by omega, by omega⟩, ⟨fun c => ?_, fun c => ?_⟩⟩
    · have ev : v2 = M0 158 1 := by omega
      rw [ev] at hs
      exact hQ M hI hK hs
    intro x7 e7 _
    unfold qX9_signAt
    refine ⟨fun c2 => by omega, fun _ => ?_⟩
    intro x2 e2 _
    refine ⟨fun c3 => by omega, fun _ => ⟨by omega, by omega, ?_⟩⟩
    intro x6 e6 _ _
    have f6 : x6 = M0 157 v2 := by rw [e6]; exact hK 157 v2 (by omega)
    have J : ∀ t0 : Int, (x6 = 99 ∧ t0 = slI 1 v2 ∨ x6 ≠ 99 ∧ t0 = 0) → qX8_become_J45 (qX8_become_L15 Q n) Q v2 t0 x7 M := by
      intro t0 ht
      unfold qX8_become_J45
      intro x10 e10 _ M11 h11
      refine ih _ M11 (by rw [h11]; exact hI.up (by decide) (by simp [BX])) (by rw [h11]; exact hK.wr ⟨rfl, rfl⟩) (fun c hc => ?_) (by omega) (by omega)
      rw [h11, up2_s, e10, bt_oI, e7]
      have old := hs c hc
      have new : bt (iI t0) c = true ↔ (c : Int) = v2 ∧ M0 157 c = 99 := by
        rcases ht with ⟨q1, q2⟩ | ⟨q1, q2⟩
        · rw [q2, bt_sl1 (by omega) hc, decide_eq_true_iff]
          refine ⟨fun w => ⟨w, ?_⟩, fun w => w.1⟩
          rw [w, ← f6]
          exact q1
        · rw [q2, show iI 0 = (0 : Int32) from rfl, b_0]
          refine ⟨fun w => absurd w (by decide), fun w => ?_⟩
          exfalso
          apply q1
          rw [f6, ← w.1]
          exact w.2
      rw [Bool.or_eq_true, old, new]
      constructor
      · rintro (w | w)
        · exact ⟨by omega, w.2⟩
        · exact ⟨by omega, w.2⟩
      · intro w
        by_cases cc : (c : Int) = v2
        · exact Or.inr ⟨cc, w.2⟩
        · exact Or.inl ⟨by omega, w.2⟩
    refine ⟨fun c4 => J 0 (Or.inr ⟨c4, rfl⟩), fun c4 => ?_⟩
    intro x12 e12 _
    exact J x12 (Or.inl ⟨c4, e12⟩)
theorem gX8_become {M : Mem} {Q : Mem → Prop} (hI : IX M) (hl : 4 ≤ M 156 1 ∧ M 156 1 ≤ 30) (hQ : ∀ M' : Mem, IX M' → Ks (fun k j => k = 158 ∧ (j = 1 ∨ j = 2)) M M' → M' 158 1 = M 156 1 → (∀ c : Nat, c < 32 → (bt (iI (M' 158 2)) c = true ↔ (c : Int) < M 156 1 ∧ M 157 c = 99)) → Q M') : qX8_become M Q := by
  unfold qX8_become
  intro x1 e1 _ M2 h2 M3 h3
  have i2 : IX M2 := by rw [h2]; exact hI.up (by decide) (bx_c158_1.mpr ⟨by omega, by omega⟩)
  have i3 : IX M3 := by rw [h3]; exact i2.up (by decide) (by simp [BX])
  have K3 : Ks (fun k j => k = 158 ∧ (j = 1 ∨ j = 2)) M M3 := by rw [h3, h2]; exact (Ks.rf.wr ⟨rfl, Or.inl rfl⟩).wr ⟨rfl, Or.inr rfl⟩
  have g1 : M3 158 1 = M 156 1 := by rw [h3, up2_j (by decide), h2, up2_s, e1]
  have g156 : M3 156 1 = M 156 1 := K3 156 1 (by omega)
  have g157 : M3 157 = M 157 := funext fun j => K3 157 j (by omega)
  refine ⟨31, gX8_become_L15 (M0 := M3) ⟨by omega, by omega⟩ ?_ _ _ _ i3 Ks.rf (fun c hc => ?_) (by omega) (by omega)⟩
  · intro M' i' k' b'
    rw [g1, g157] at b'
    exact hQ M' i' (K3.tr (k'.mono (fun k j h => ⟨h.1, Or.inr h.2⟩))) (by rw [k' 158 1 (by omega)]; exact g1) b'
  · rw [h3, up2_s, show iI 0 = (0 : Int32) from rfl, b_0]
    exact ⟨fun w => absurd w (by decide), fun w => by omega⟩
theorem gX11_forgetKept_L2 {Q : Mem → Prop} {M0 : Mem} (hQ : ∀ M' : Mem, IX M' → Ks (fun k _ => k = 166) M0 M' → (∀ i, 0 ≤ i → i < 3 → M' 166 i = 0) → Q M') : ∀ (n : Nat) (v1 : Int) (M : Mem), IX M → Ks (fun k _ => k = 166) M0 M → (∀ i, 0 ≤ i → i < v1 → M 166 i = 0) → (0 ≤ v1 ∧ v1 ≤ 3) → 3 - v1 < (n : Int) → qX11_forgetKept_L2 Q n v1 M := by
  intro n
  induction n with
  | zero => intro v1 M hI hK hs hv hm; exact absurd hm (by omega)
  | succ n ih =>
    intro v1 M hI hK hs hv hm
    rw [qX11_forgetKept_L2]
    refine ⟨⟨by omega, by omega⟩, ⟨fun c => hQ M hI hK (fun i a q => hs i a (by omega)), fun c => ⟨by omega, by omega, ?_⟩⟩⟩
    intro M5 h5
    refine ih _ M5 (by rw [h5]; exact hI.up (by decide) (by simp [BX])) (by rw [h5]; exact hK.wr rfl) (fun i a q => ?_) (by omega) (by omega)
    rw [h5]
    by_cases ci : i = v1
    · rw [ci, up2_s]
    · rw [up2_j ci]; exact hs i a (by omega)
abbrev kAv (k : Nat) (j : Int) : Prop := k = 1 ∨ k = 156 ∨ (k = 158 ∧ (j = 1 ∨ j = 2)) ∨ (k = 163 ∧ j = 2) ∨ k = 166
theorem gX11_avenueC {M : Mem} {Q : Int → Mem → Prop} (hI : IX M) (hQ : ∀ (q : Int) (M' : Mem), IX M' → AV (M 157) (M 156 1) q → M' 156 1 = 0 → (q = M 156 1 ∧ 4 ≤ q → Ks kAv M M' ∧ M' 158 1 = M 156 1 ∧ (∀ c : Nat, c < 32 → (bt (iI (M' 158 2)) c = true ↔ (c : Int) < M 156 1 ∧ M 157 c = 99)) ∧ M' 163 2 = 0 ∧ (∀ i, 0 ≤ i → i < 3 → M' 166 i = 0) ∧ M' 1 6 = 0 ∧ M' 1 7 = 0 ∧ M' 1 8 = 0 ∧ M' 1 9 = 0 ∧ M' 1 10 = 0) → (¬ (q = M 156 1 ∧ 4 ≤ q) → Ks (fun k j => k = 156 ∧ j = 1) M M') → Q (avz (M 156 1) q) M') : qX11_avenue M Q := by
  have bL := bx_c156_1.mp (hI.bx 156 1)
  have J47b : ∀ (q x2 : Int), AV (M 157) (M 156 1) q → ¬ (q = M 156 1 ∧ 4 ≤ q) → qX11_avenue_J47 Q q x2 M := by
    intro q x2 hq hn
    have b := hq.1
    unfold qX11_avenue_J47 qX9_clear
    intro M4 h4
    have i4 : IX M4 := by rw [h4]; exact hI.up (by decide) (bx_c156_1.mpr (by decide))
    refine ⟨⟨by omega, by omega⟩, ⟨fun c => ⟨⟨by omega, by omega⟩, ?_⟩, fun c => by omega⟩⟩
    have := hQ q M4 i4 hq (by rw [h4, up2_s]) (fun w => absurd w hn) (fun _ => by rw [h4]; exact Ks.rf.wr ⟨rfl, rfl⟩)
    unfold avz at this
    rw [if_neg hn] at this
    exact this
  unfold qX11_avenue qX11_avenueFault
  refine ⟨31, gX11_avenueFault_L2 hI ?_ ?_ _ _ (by omega) (fun i a q => by omega) (by omega)⟩
  · intro hq
    intro x9 e9 _
    refine ⟨fun c => ?_, fun c => ?_⟩
    · intro _ x2 e2 _
      refine ⟨fun h => absurd rfl h, fun _ => ?_⟩
      have b := hq.1
      refine gX8_become hI ⟨by omega, by omega⟩ ?_
      intro M9 i9 k9 a9 b9
      unfold qX6_clear
      intro N1 g1 N2 g2 N3 g3 N4 g4 N5 g5
      have is1 : isS 1 := by decide
      have j1 : IX N1 := by rw [g1]; exact i9.up (is1.nsp 0 (by decide)) ((bx_s0_6 is1).mpr (by decide))
      have j2 : IX N2 := by rw [g2]; exact j1.up (is1.nsp 0 (by decide)) ((bx_s0_7 is1).mpr (by decide))
      have j3 : IX N3 := by rw [g3]; exact j2.up (is1.nsp 0 (by decide)) (bx_sf0 is1 (by decide) (by decide))
      have j4 : IX N4 := by rw [g4]; exact j3.up (is1.nsp 0 (by decide)) (bx_sf0 is1 (by decide) (by decide))
      have j5 : IX N5 := by rw [g5]; exact j4.up (is1.nsp 0 (by decide)) (bx_sf0 is1 (by decide) (by decide))
      unfold qX1_clear
      intro N6 g6
      have j6 : IX N6 := by rw [g6]; exact j5.up (by decide) (bx_c163_2.mpr (by decide))
      have K6 : Ks kAv M N6 := by
        rw [g6, g5, g4, g3, g2, g1]
        exact ((((((k9.mono (by intro k j h; omega)).wr (by omega)).wr (by omega)).wr (by omega)).wr (by omega)).wr (by omega)).wr (by omega)
      have c6 : N6 1 6 = 0 := by rw [g6, up2_n (by decide), g5, up2_j (by decide), g4, up2_j (by decide), g3, up2_j (by decide), g2, up2_j (by decide), g1, up2_s]
      have c7 : N6 1 7 = 0 := by rw [g6, up2_n (by decide), g5, up2_j (by decide), g4, up2_j (by decide), g3, up2_j (by decide), g2, up2_s]
      have c8 : N6 1 8 = 0 := by rw [g6, up2_n (by decide), g5, up2_j (by decide), g4, up2_j (by decide), g3, up2_s]
      have c9 : N6 1 9 = 0 := by rw [g6, up2_n (by decide), g5, up2_j (by decide), g4, up2_s]
      have c10 : N6 1 10 = 0 := by rw [g6, up2_n (by decide), g5, up2_s]
      have c163 : N6 163 2 = 0 := by rw [g6, up2_s]
      have c158 : ∀ j, N6 158 j = M9 158 j := fun j => by rw [g6, up2_n (by decide), g5, up2_n (by decide), g4, up2_n (by decide), g3, up2_n (by decide), g2, up2_n (by decide), g1, up2_n (by decide)]
      unfold qX11_forgetKept
      refine ⟨4, gX11_forgetKept_L2 (M0 := N6) ?_ _ _ _ j6 Ks.rf (fun i a q => by omega) (by omega) (by omega)⟩
      intro N7 j7 k7 z7
      unfold qX11_avenue_J47 qX9_clear
      intro M4 h4
      have i4 : IX M4 := by rw [h4]; exact j7.up (by decide) (bx_c156_1.mpr (by decide))
      refine ⟨⟨by decide, by decide⟩, ⟨fun h => absurd rfl h, fun _ => ⟨⟨by omega, by omega⟩, ?_⟩⟩⟩
      have H : ∀ (k : Nat) (j : Int), k ≠ 156 → k ≠ 166 → M4 k j = N6 k j := fun k j h1 h2 => by rw [h4, up2_n h1, k7 k j h2]
      have := hQ _ M4 i4 hq (by rw [h4, up2_s]) (fun _ => ⟨?_, by rw [H 158 1 (by decide) (by decide), c158]; exact a9, ?_, by rw [H 163 2 (by decide) (by decide)]; exact c163, fun i a q => by rw [h4, up2_n (by decide)]; exact z7 i a q, by rw [H 1 6 (by decide) (by decide)]; exact c6, by rw [H 1 7 (by decide) (by decide)]; exact c7, by rw [H 1 8 (by decide) (by decide)]; exact c8, by rw [H 1 9 (by decide) (by decide)]; exact c9, by rw [H 1 10 (by decide) (by decide)]; exact c10⟩) (fun w => absurd ⟨rfl, by omega⟩ w)
      · unfold avz at this
        rw [if_pos ⟨rfl, by omega⟩] at this
        rw [e2]
        exact this
      · rw [h4]
        exact (K6.tr (k7.mono (by intro k j h; omega))).wr (by omega)
      · rw [H 158 2 (by decide) (by decide), c158]
        exact b9
    · intro x11 e11 _ _ x2 e2 _
      refine ⟨fun h => J47b _ _ (by rw [e11]; exact hq) (by omega), fun h => by omega⟩
  · intro q hl hq
    have b := hq.1
    intro _ x2 e2 _
    exact ⟨fun h => J47b _ _ hq (by omega), fun h => by omega⟩
abbrev kLa (k : Nat) (j : Int) : Prop := k = 8 ∨ (k = 1 ∧ j = 15)
theorem gX12_avenue_L16C {X69 : Int → Mem → Prop} {Q : Int → Mem → Prop} {b : Int} {M0 : Mem} {len : Int} (hl : 0 ≤ len ∧ len ≤ 80) (hX : ∀ (q : Int) (M' : Mem), IM b M' → FrJ kLa M0 M' → AV (M0 7) len q → M' 1 15 = q → M' 1 16 = len → (∀ i, 0 ≤ i → i < q → (M' 8 i = 0 ↔ M0 7 i ≠ 99)) → X69 q M') : ∀ (n : Nat) (v1 v2 : Int) (M : Mem), IM b M → FrJ kLa M0 M → (∀ i, 0 ≤ i → i < v1 → (M 8 i = 0 ↔ M0 7 i ≠ 99)) → (∀ j, M 7 j = M0 7 j) → M 1 15 = v1 → M 1 16 = len → (0 ≤ v1 ∧ v1 ≤ 30 ∧ v1 ≤ len) → (∀ i, 0 ≤ i → i < v1 → vA (M0 7 i)) → (v2 = 1 ∨ v2 = 0 ∧ (v1 = len ∨ ¬ vA (M0 7 v1))) → 30 - v1 + v2 < (n : Int) → qX12_avenue_L16 X69 Q n v1 v2 M := by
  intro n
  induction n with
  | zero => intro v1 v2 M hI hF h8 h7 h15 h16 hv ha h2 hm; exact absurd hm (by omega)
  | succ n ih =>
    intro v1 v2 M hI hF h8 h7 h15 h16 hv ha h2 hm
    rw [qX12_avenue_L16]
    refine ⟨⟨by omega, by omega⟩, ⟨fun c => ?_, fun c => ⟨⟨by omega, by omega⟩, ⟨fun c2 => ?_, fun c2 => ?_⟩⟩⟩⟩
    · refine hX _ _ hI hF ⟨by omega, ha, ?_⟩ h15 h16 h8
      rcases h2 with h | h
      · omega
      · rcases h.2 with q | q
        · exact Or.inl q
        · exact Or.inr (Or.inr q)
    · exact hX _ _ hI hF ⟨by omega, ha, Or.inr (Or.inl (by omega))⟩ h15 h16 h8
    · have e1 : bS 1 = [46, 99] := rfl
      have hl2 : ((bS 1).length : Int) = 2 := rfl
      refine gX12_takesOf hI (by decide) ?_
      intro x7 M7 i7 f7 p7 _
      have k7 : ∀ j, M7 7 j = M0 7 j := fun j => by rw [f7 7 j (by omega), h7]
      have k16 : M7 1 16 = len := by rw [f7 1 16 (by omega), h16]
      have J : ∀ t0 : Int, (t0 = 1 ∧ 0 ≤ x7 ∨ t0 = 0 ∧ x7 < 0) → qX12_avenue_J42 (qX12_avenue_L16 X69 Q n) X69 Q v1 x7 t0 M7 := by
        intro t0 ht
        unfold qX12_avenue_J42
        have b7 : -1 ≤ x7 ∧ x7 ≤ 1 := by rcases p7 with q | q <;> omega
        have J58 : ∀ s : Int, (s = 0 ∧ x7 ≠ 1 ∨ s = 1 ∧ x7 = 1) → qX12_avenue_J58 (qX12_avenue_L16 X69 Q n) X69 Q v1 t0 s v1 M7 := by
          intro s hs
          unfold qX12_avenue_J58
          refine ⟨by omega, by omega, ⟨by omega, by omega⟩, by omega, ?_⟩
          intro M15 hE
          have i15 : IM b M15 := by rw [hE]; exact i7.up (by omega) (bm_c8.mpr ⟨by omega, by omega⟩)
          refine ⟨⟨by omega, by omega⟩, ?_⟩
          refine sX12_flag (p0 := t0) i15 ?_
          intro x17 p17 _
          have F15 : FrJ kLa M0 M15 := by rw [hE]; exact (hF.tr (f7.mono (fun k j h => Or.inr h))).up (Or.inl rfl)
          have h8' : ∀ i, 0 ≤ i → i < v1 → (M15 8 i = 0 ↔ M0 7 i ≠ 99) := fun i a w => by rw [hE, up2_j (by omega), f7 8 i (by omega)]; exact h8 i a w
          have g7 : ∀ j, M15 7 j = M0 7 j := fun j => by rw [hE, up2_n (by decide), k7]
          have g15 : M15 1 15 = M7 1 15 := by rw [hE, up2_n (by decide)]
          have g16 : M15 1 16 = len := by rw [hE, up2_n (by decide), k16]
          rcases ht with ht | ht
          · rcases p7 with q | q
            · have f17 : x17 = 1 := by omega
              have hv1 : vA (M0 7 v1) := by
                have e := q.2.2.1
                rw [h15, h7] at e
                have : x7 = 0 ∨ x7 = 1 := by omega
                rcases this with c | c
                · rw [c] at e; exact Or.inl e.symm
                · rw [c] at e; exact Or.inr e.symm
              rw [f17, ht.1]
              have e7' := q.2.2.1
              rw [h15, h7] at e7'
              refine ih _ _ _ i15 F15 (fun i a w => ?_) g7 (by omega) g16 (by omega) (fun i a w => ?_) (Or.inl rfl) (by omega)
              · by_cases ci : i = v1
                · rw [ci, hE, up2_s]
                  have : x7 = 0 ∨ x7 = 1 := by omega
                  rcases this with u | u
                  · rw [u] at e7'
                    have e46 : M0 7 v1 = 46 := e7'.symm
                    omega
                  · rw [u] at e7'
                    have e99 : M0 7 v1 = 99 := e7'.symm
                    omega
                · exact h8' i a (by omega)
              by_cases ci : i = v1
              · rw [ci]; exact hv1
              · exact ha i a (by omega)
            · omega
          · rcases p7 with q | q
            · omega
            · have f17 : x17 = 0 := by omega
              rw [f17, ht.1]
              refine ih _ _ _ i15 F15 (fun i a w => h8' i a (by omega)) g7 (by omega) g16 (by omega) (fun i a w => ha i a (by omega)) (Or.inr ⟨rfl, ?_⟩) (by omega)
              rw [show v1 + 0 = v1 from by omega]
              rcases q.2.2 with w | w
              · exact Or.inl (by omega)
              · refine Or.inr (fun hv => ?_)
                rw [← h7, ← h15] at hv
                rcases hv with u | u
                · exact w 0 (by decide) (by decide) (by rw [u]; rfl)
                · exact w 1 (by decide) (by decide) (by rw [u]; rfl)
        exact ⟨⟨by omega, by omega⟩, ⟨fun w => J58 _ (Or.inl ⟨rfl, w⟩), fun w => J58 _ (Or.inr ⟨rfl, w⟩)⟩⟩
      exact ⟨fun c3 => J _ (Or.inr ⟨rfl, c3⟩), fun c3 => J _ (Or.inl ⟨rfl, by omega⟩)⟩
theorem gX12_avenue_L99C {X122 : Int → Mem → Prop} {Q : Int → Mem → Prop} {b v1 : Int} {M0 : Mem} (hv1 : 0 ≤ v1 ∧ v1 ≤ 30) (hX : ∀ M' : Mem, IM b M' → FrJ (fun k _ => k = 2) M0 M' → (∀ i, 0 ≤ i → i < v1 → M' 2 i = M0 8 i) → X122 v1 M') : ∀ (n : Nat) (v3 : Int) (M : Mem), IM b M → FrJ (fun k _ => k = 2) M0 M → (∀ i, 0 ≤ i → i < v3 → M 2 i = M0 8 i) → (0 ≤ v3 ∧ v3 ≤ v1) → 30 - v3 < (n : Int) → qX12_avenue_L99 X122 Q n v1 v3 M := by
  intro n
  induction n with
  | zero => intro v3 M hI hF hs hv hm; exact absurd hm (by omega)
  | succ n ih =>
    intro v3 M hI hF hs hv hm
    rw [qX12_avenue_L99]
    refine ⟨⟨by omega, by omega⟩, ⟨by omega, by omega⟩, ⟨fun c => hX M hI hF (fun i a q => hs i a (by omega)), fun c => ⟨by omega, by omega, ?_⟩⟩⟩
    intro x32 e32 _
    have b32 : 0 ≤ x32 ∧ x32 ≤ 1 := by rw [e32]; exact bm_c8.mp (hI.bx _ _)
    refine ⟨by omega, ?_⟩
    intro M34 h34
    refine ih _ M34 (by rw [h34]; exact hI.up (by omega) (by simp [BM])) (by rw [h34]; exact hF.up rfl) (fun i a q => ?_) (by omega) (by omega)
    rw [h34]
    by_cases ci : i = v3
    · rw [ci, up2_s, e32]
      exact hF 8 v3 (by omega)
    · rw [up2_j ci]; exact hs i a (by omega)
theorem gX12_avenue_L155C {Q : Int → Mem → Prop} {b v1 : Int} {M0 : Mem} (hv1 : 0 ≤ v1 ∧ v1 ≤ 30) (hQ : ∀ M' : Mem, IM b M' → FrJ (fun k _ => k = 29) M0 M' → (∀ i, 0 ≤ i → i < 3 → M' 29 i = 0) → Q v1 M') : ∀ (n : Nat) (v3 : Int) (M : Mem), IM b M → FrJ (fun k _ => k = 29) M0 M → (∀ i, 0 ≤ i → i < v3 → M 29 i = 0) → (0 ≤ v3 ∧ v3 ≤ 3) → 3 - v3 < (n : Int) → qX12_avenue_L155 Q n v1 v3 M := by
  intro n
  induction n with
  | zero => intro v3 M hI hF hs hv hm; exact absurd hm (by omega)
  | succ n ih =>
    intro v3 M hI hF hs hv hm
    rw [qX12_avenue_L155]
    refine ⟨⟨by omega, by omega⟩, ⟨fun c => ⟨⟨by omega, by omega⟩, hQ M hI hF (fun i a q => hs i a (by omega))⟩, fun c => ⟨by omega, by omega, ?_⟩⟩⟩
    intro M46 h46
    refine ih _ M46 (by rw [h46]; exact hI.up (by omega) (by simp [BM])) (by rw [h46]; exact hF.up rfl) (fun i a q => ?_) (by omega) (by omega)
    rw [h46]
    by_cases ci : i = v3
    · rw [ci, up2_s]
    · rw [up2_j ci]; exact hs i a (by omega)
abbrev kAw (k : Nat) (j : Int) : Prop := k = 2 ∨ k = 5 ∨ k = 8 ∨ k = 29 ∨ (k = 1 ∧ (j = 0 ∨ j = 3 ∨ j = 4 ∨ j = 5 ∨ j = 14 ∨ j = 15 ∨ j = 16 ∨ j = 17 ∨ j = 28))
theorem gX12_avenueC {b : Int} {M : Mem} {Q : Int → Mem → Prop} (hI : IM b M) (hb : b + 1 ≤ 2000000000) (hQ : ∀ (q : Int) (M' : Mem), IM (b + 1) M' → AV (M 7) (M 1 14) q → M' 1 14 = 0 → (q = M 1 14 ∧ 4 ≤ q → FrJ kAw M M' ∧ M' 1 3 = M 1 14 ∧ (∀ i, 0 ≤ i → i < M 1 14 → (M' 2 i = 0 ↔ M 7 i ≠ 99)) ∧ M' 1 4 = 0 ∧ M' 1 5 = 0 ∧ M' 5 = up (up (M 5) 12 0) 37 0 ∧ M' 1 28 = 0 ∧ (∀ i, 0 ≤ i → i < 3 → M' 29 i = 0)) → (¬ (q = M 1 14 ∧ 4 ≤ q) → FrJ (fun k j => k = 8 ∨ (k = 1 ∧ (j = 0 ∨ j = 14 ∨ j = 15 ∨ j = 16 ∨ j = 17))) M M') → Q (avz (M 1 14) q) M') : qX12_avenue M Q := by
  have bL := bm_c1_14.mp (hI.bx 1 14)
  have hbn := hI.nn
  unfold qX12_avenue
  intro M1 h1
  have i1 : IM b M1 := by rw [h1]; exact hI.up (by omega) (by simp [BM])
  have l1 : M1 1 14 = M 1 14 := by rw [h1, up2_j (by decide)]
  have F1 : FrJ (fun k j => k = 8 ∨ (k = 1 ∧ (j = 0 ∨ j = 14 ∨ j = 15 ∨ j = 16 ∨ j = 17))) M M1 := by rw [h1]; exact FrJ.rf.up (by omega)
  refine gX12_begins (p1 := 80) i1 (by omega) ?_
  intro M2 i2 f2 a15 a16 _ a14 _
  rw [l1] at a16
  have F2 : FrJ (fun k j => k = 8 ∨ (k = 1 ∧ (j = 0 ∨ j = 14 ∨ j = 15 ∨ j = 16 ∨ j = 17))) M M2 := F1.tr (f2.mono (by intro k j h; omega))
  have g7 : ∀ j, M2 7 j = M 7 j := fun j => F2 7 j (by omega)
  have e7 : M2 7 = M 7 := funext g7
  refine ⟨32, gX12_avenue_L16C (b := b) (M0 := M2) (len := M 1 14) bL ?_ _ _ _ _ i2 FrJ.rf (fun i a w => by omega) (fun j => rfl) a15 (by omega) (by omega) (fun i a w => by omega) (Or.inl rfl) (by omega)⟩
  · intro q M' i' f' hq k15 k16 h8
    rw [e7] at hq h8
    have hb' := hq.1
    have F' : FrJ (fun k j => k = 8 ∨ (k = 1 ∧ (j = 0 ∨ j = 14 ∨ j = 15 ∨ j = 16 ∨ j = 17))) M M' := F2.tr (f'.mono (by intro k j h; omega))
    have m14 : M' 1 14 = 0 := by rw [f' 1 14 (by omega)]; exact a14
    have BAD : ¬ (q = M 1 14 ∧ 4 ≤ q) → Q (-1 - q) M' := by
      intro hn
      have := hQ q M' (i'.mono (by omega)) hq m14 (fun w => absurd w hn) (fun _ => F')
      unfold avz at this
      rw [if_neg hn] at this
      exact this
    show qX12_avenue_J69 Q q M'
    unfold qX12_avenue_J69
    refine ⟨⟨by omega, by omega⟩, ⟨fun c => ?_, fun c => ?_⟩⟩
    · intro x21 e21 _
      refine ⟨⟨by omega, by omega⟩, ?_⟩
      rw [show x21 = q from by omega]
      exact BAD (by omega)
    · intro x23 e23 _ x24 e24 _
      refine ⟨fun c2 => ?_, fun c2 => ?_⟩
      · intro M26 h26
        have i26 : IM (b + 1) M26 := by rw [h26]; exact (i'.mono (by omega)).up (by omega) (bm_c1_3.mpr ⟨by omega, by omega⟩)
        refine ⟨31, gX12_avenue_L99C (b := b + 1) (M0 := M26) (by omega) ?_ _ _ _ i26 FrJ.rf (fun i a w => by omega) (by omega) (by omega)⟩
        intro M35 i35 f35 c35 M36 h36 M37 h37 M38 h38 M39 h39 M40 h40
        have i36 : IM (b + 1) M36 := by rw [h36]; exact i35.up (by omega) (bm_c1_4.mpr (by decide))
        have i37 : IM (b + 1) M37 := by rw [h37]; exact i36.up (by omega) (bm_c1_5.mpr (by decide))
        have i38 : IM (b + 1) M38 := by rw [h38]; exact i37.up (by omega) ((bm_n (Or.inl rfl)).mpr ⟨by omega, by omega, by omega, by omega⟩)
        have i39 : IM (b + 1) M39 := by rw [h39]; exact i38.up (by omega) ((bm_n (Or.inl rfl)).mpr ⟨by omega, by omega, by omega, by omega⟩)
        have i40 : IM (b + 1) M40 := by rw [h40]; exact i39.up (by omega) (bm_c1_28.mpr (by decide))
        refine ⟨4, gX12_avenue_L155C (b := b + 1) (M0 := M40) (by omega) ?_ _ _ _ i40 FrJ.rf (fun i a w => by omega) (by omega) (by omega)⟩
        intro M'' i'' f'' z''
        have G : ∀ (k : Nat) (j : Int), k ≠ 29 → M'' k j = M40 k j := fun k j h => f'' k j h
        have F40 : FrJ kAw M M40 := by
          rw [h40, h39, h38, h37, h36]
          have u26 : FrJ kAw M M26 := by rw [h26]; exact (F'.mono (by intro k j h; omega)).up (by omega)
          exact (((((u26.tr (f35.mono (by intro k j h; omega))).up (by omega)).up (by omega)).up (by omega)).up (by omega)).up (by omega)
        have g5 : M35 5 = M 5 := by
          funext j
          rw [f35 5 j (by omega), h26, up2_n (by decide)]
          exact F' 5 j (by omega)
        have := hQ q M'' i'' hq ?_ (fun _ => ⟨F40.tr (f''.mono (by intro k j h; omega)), ?_, fun i a w => ?_, ?_, ?_, ?_, ?_, z''⟩) (fun w => absurd ⟨by omega, by omega⟩ w)
        · unfold avz at this
          rw [if_pos ⟨by omega, by omega⟩] at this
          exact this
        · rw [G 1 14 (by decide), h40, up2_j (by decide), h39, up2_n (by decide), h38, up2_n (by decide), h37, up2_j (by decide), h36, up2_j (by decide), f35 1 14 (by omega), h26, up2_j (by decide)]
          exact m14
        · rw [G 1 3 (by decide), h40, up2_j (by decide), h39, up2_n (by decide), h38, up2_n (by decide), h37, up2_j (by decide), h36, up2_j (by decide), f35 1 3 (by omega), h26, up2_s]
          omega
        · rw [G 2 i (by decide), h40, up2_n (by decide), h39, up2_n (by decide), h38, up2_n (by decide), h37, up2_n (by decide), h36, up2_n (by decide), c35 i a (by omega), h26, up2_n (by decide)]
          exact h8 i a (by omega)
        · rw [G 1 4 (by decide), h40, up2_j (by decide), h39, up2_n (by decide), h38, up2_n (by decide), h37, up2_j (by decide), h36, up2_s]
        · rw [G 1 5 (by decide), h40, up2_j (by decide), h39, up2_n (by decide), h38, up2_n (by decide), h37, up2_s]
        · have e : M'' 5 = M40 5 := funext fun j => G 5 j (by decide)
          rw [e, h40, up2_n (by decide), h39, up2_up, h38, up2_up, h37, up2_n (by decide), h36, up2_n (by decide), g5]
        · rw [G 1 28 (by decide), h40, up2_s]
      · intro x48 e48 _
        refine ⟨⟨by omega, by omega⟩, ?_⟩
        rw [show x48 = q from by omega]
        exact BAD (by omega)
/-- the street is told anew -/
theorem STA.avenue {E E' MX MM MX' MM' : Mem} {len : Int} {f : Int → Int} (h : STA E MX MM) (hI : IX MX) (hl : 4 ≤ len ∧ len ≤ 30) (e3 : E' 1 3 = len) (e4 : E' 1 4 = 0) (e5 : E' 1 5 = 0) (e7 : E' 1 7 = E 1 7) (e24 : E' 1 24 = E 1 24) (r2 : ∀ i, 0 ≤ i → i < len → (E' 2 i = 0 ↔ f i ≠ 99)) (r3 : E' 3 = E 3) (r4 : E' 4 = E 4) (r11 : E' 11 = E 11) (kx : Ks kAv MX MX') (x1 : MX' 158 1 = len) (x2 : ∀ c : Nat, c < 32 → (bt (iI (MX' 158 2)) c = true ↔ (c : Int) < len ∧ f c = 99)) (x3 : MX' 163 2 = 0) (x4 : ∀ i, 0 ≤ i → i < 3 → MX' 166 i = 0) (c6 : MX' 1 6 = 0) (c7 : MX' 1 7 = 0) (c8 : MX' 1 8 = 0) (c9 : MX' 1 9 = 0) (c10 : MX' 1 10 = 0) (m5 : MM' 5 = up (up (MM 5) 12 0) 37 0) (m28 : MM' 1 28 = 0) (m29 : ∀ i, 0 ≤ i → i < 3 → MM' 29 i = 0) : STA E' MX' MM' := by
  obtain ⟨a, b, c, d, e, g⟩ := h
  have oE : eO E' = 0 := by show (E' 1 5).toNat = 0; rw [e5]; rfl
  have hE' : eH E' = 0 := by show (E' 1 4).toNat = 0; rw [e4]; rfl
  refine ⟨?_, ?_, ?_, ?_, HIS.nil x3 m28, fun i p q => ⟨by rw [x4 i p q, m29 i p q], fun w => absurd (x4 i p q) w⟩⟩
  · obtain ⟨a1, a2, a3, a4, a5, a6, a7, a8, a9⟩ := a
    refine ⟨by rw [x1, e3], by rw [e3]; exact hl, fun cc hc => ?_, ?_, by rw [e7]; exact a5, fun j p q => ?_, by rw [e4]; decide, by rw [e5]; decide, fun m p q => by rw [e5] at q; omega⟩
    · rw [e3] at hc
      rw [x2 cc (by omega), show (E' 2 cc ≠ 0) = ¬ (E' 2 cc = 0) from rfl, r2 cc (by omega) hc]
      constructor
      · intro w u
        exact u w.2
      · intro w
        refine ⟨hc, ?_⟩
        by_cases u : f cc = 99
        · exact u
        · exact absurd u w
    · rw [kx 158 3 (by omega), e7]
      exact a4
    · rw [e7] at q
      rw [r4, kx 159 j (by omega)]
      exact a6 j p q
  · have b' := b.kx (MX' := MX') hI (kx _ _ (by omega)) (fun k j q => kx k j (by omega))
    unfold LAW at b' ⊢
    rw [e24, r11]
    exact b'
  · obtain ⟨a1, a2, a3, a4, a5, a6, a7, a8, a9, a10, a11⟩ := c
    rw [m5]
    refine ⟨by rw [c6, e4], by rw [c7, e5], fun j p q => ?_, fun j p q => ?_, ?_, fun j p q => ?_, fun j p q => ?_, fun j p q => ?_, fun j p q => ?_, ?_, ?_⟩
    · rw [kx _ j (by omega), up_j (by omega), up_j (by omega)]; exact a3 j p q
    · rw [kx _ j (by omega), up_j (by omega), up_j (by omega)]; exact a4 j p q
    · rw [c8, up_j (by decide), upS]
    · rw [kx _ j (by omega), up_j (by omega), up_j (by omega)]; exact a6 j p q
    · rw [kx _ j (by omega), r3]; exact a7 j p q
    · rw [kx _ j (by omega), up_j (by omega), up_j (by omega)]; exact a8 j p q
    · rw [kx _ j (by omega), up_j (by omega), up_j (by omega)]; exact a9 j p q
    · rw [c10, upS]
    · rw [c9, oE]
      rfl
  · rw [m5]
    refine ⟨fun i j i0 i1 => by rw [e4] at i1; omega, fun i i0 i1 => by rw [e4] at i1; omega, fun i i0 i1 => by rw [e5] at i1; omega, ?_, by rw [upS]; decide⟩
    rw [up_j (by decide), upS, hE']
    rfl
