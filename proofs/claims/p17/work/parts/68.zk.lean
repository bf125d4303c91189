/-! HOUR: the reference reads acts -/
def sgX (s : Int) : Int := if s = 110 then 0 else if s = 116 then 1 else if s = 112 then 2 else if s = 98 then 3 else 4
theorem b8L : ((bS 8).length : Int) = 5 := rfl
theorem b8g : ∀ i : Nat, i < 5 → sgn ((bS 8).getD i 0) ∧ sgX ((bS 8).getD i 0) = i := by decide
theorem b8c (s : Int) (h : sgn s) : ∃ i : Nat, i < 5 ∧ (bS 8).getD i 0 = s := by
  rcases h with h | h | h | h | h
  · exact ⟨0, by decide, h.symm⟩
  · exact ⟨1, by decide, h.symm⟩
  · exact ⟨2, by decide, h.symm⟩
  · exact ⟨3, by decide, h.symm⟩
  · exact ⟨4, by decide, h.symm⟩
theorem gX12_digitIn {p1 p2 b : Int} {M : Mem} {Q : Int → Mem → Prop} (hI : IM b M) (hQ : ∀ (z : Int) (M' : Mem), IM b M' → FrJ (fun k j => k = 1 ∧ j = 15) M M' → ((M 1 15 < M 1 16 ∧ p1 ≤ M 7 (M 1 15) - 48 ∧ M 7 (M 1 15) - 48 ≤ p2) ∧ z = M 7 (M 1 15) - 48 ∧ M' 1 15 = M 1 15 + 1 ∨ ¬ (M 1 15 < M 1 16 ∧ p1 ≤ M 7 (M 1 15) - 48 ∧ M 7 (M 1 15) - 48 ≤ p2) ∧ z = -1 ∧ M' 1 15 = M 1 15) → Q z M') : qX12_digitIn p1 p2 M Q := by
  have b15 := bm_c1_15.mp (hI.bx 1 15)
  have b16 := bm_c1_16.mp (hI.bx 1 16)
  unfold qX12_digitIn
  intro x1 e1 _ x2 e2 _
  refine ⟨fun c => hQ _ M hI FrJ.rf (Or.inr ⟨by omega, rfl, rfl⟩), fun c => ?_⟩
  intro x4 e4 _
  refine ⟨by omega, by omega, ?_⟩
  intro x7 e7 _
  rw [e4] at e7
  have b7 : 0 ≤ x7 ∧ x7 ≤ 255 := by rw [e7]; exact bm_c7.mp (hI.bx _ _)
  refine ⟨⟨by omega, by omega⟩, ?_⟩
  refine sX12_in (p0 := x7 - 48) (p2 := p1) (p4 := p2) hI ?_
  intro z hz _ _
  refine ⟨fun d => ?_, fun d => ?_⟩
  · have hd := hz.2.1 (by rcases hz.1 with q | q <;> omega)
    intro x11 e11 _
    refine ⟨⟨by omega, by omega⟩, ?_⟩
    intro M13 h13 x14 e14 _
    have f14 : x14 = M 1 15 + 1 := by rw [e14, h13, up2_s, e11]
    refine ⟨by omega, by omega, ?_⟩
    intro x17 e17 _
    have f17 : x17 = x7 := by rw [e17, h13, up2_n (by decide), show x14 - 1 = M 1 15 from by omega, e7]
    refine ⟨⟨by omega, by omega⟩, ?_⟩
    refine hQ _ M13 (by rw [h13]; exact hI.up (by omega) (bm_c1_15.mpr ⟨by omega, by omega⟩)) (by rw [h13]; exact FrJ.rf.up ⟨rfl, rfl⟩) (Or.inl ⟨⟨by omega, by omega, by omega⟩, by omega, by rw [h13, up2_s, e11]⟩)
  · have hd := hz.2.2 d
    exact hQ _ M hI FrJ.rf (Or.inr ⟨by omega, rfl, rfl⟩)
abbrev kAc (k : Nat) (j : Int) : Prop := k = 19 ∨ k = 20 ∨ k = 21 ∨ (k = 1 ∧ (j = 15 ∨ j = 39))
/-- entry k of the acts is the act at a -/
def ENT (M : Mem) (k : Int) (P : Int × Int × Int × Int × Int) : Prop := M 19 k = sgX P.2.2.1 ∧ M 20 k = P.2.2.2.1 ∧ (¬ (P.2.2.1 = 110 ∨ P.2.2.1 = 116) → M 21 k = P.2.2.2.2)
theorem gX12_readsAct {b : Int} {M : Mem} {Q : Int → Mem → Prop} (hI : IM b M) (hk : M 1 39 ≤ 58) (ha : M 1 15 ≤ M 1 16) (hQ : ∀ M' : Mem, IM b M' → FrJ kAc M M' → M' 1 15 = (prA (M 7) (M 1 16) (M 1 15)).2.1 → (∀ (k : Nat) (j : Int), (k = 19 ∨ k = 20 ∨ k = 21) → 0 ≤ j → j < M 1 39 → M' k j = M k j) → M' 1 39 = M 1 39 + 1 → ((prA (M 7) (M 1 16) (M 1 15)).1 = 1 → ENT M' (M 1 39) (prA (M 7) (M 1 16) (M 1 15))) → Q (prA (M 7) (M 1 16) (M 1 15)).1 M') : qX12_readsAct M Q := by
  have b15 := bm_c1_15.mp (hI.bx 1 15)
  have b16 := bm_c1_16.mp (hI.bx 1 16)
  have b39 := bm_c1_39.mp (hI.bx 1 39)
  unfold qX12_readsAct
  intro x1 e1 _
  refine gX12_takesOf hI (by decide) ?_
  intro x2 M2 i2 f2 p2 _
  refine ⟨by omega, by omega, ?_⟩
  intro M5 h5 x6 e6 _
  have f6 : x6 = M 1 39 := by rw [e6, h5, up2_n (by decide)]; exact f2 1 39 (by omega)
  refine ⟨⟨by omega, by omega⟩, ?_⟩
  intro M8 h8 x9 e9 _
  have f9 : x9 = x2 := by rw [e9, h8, up2_n (by decide), h5, up2_s]
  have i5 : IM b M5 := by rw [h5]; exact i2.up (by omega) (by simp [BM])
  have i8 : IM b M8 := by rw [h8]; exact i5.up (by omega) (bm_c1_39.mpr ⟨by omega, by omega⟩)
  have F8 : FrJ kAc M M8 := by rw [h8, h5]; exact ((f2.mono (by intro k j h; omega)).up (by omega)).up (by omega)
  have o8 : ∀ (k : Nat) (j : Int), (k = 19 ∨ k = 20 ∨ k = 21) → 0 ≤ j → j < M 1 39 → M8 k j = M k j := by
    intro k j hk' h0 h1
    rw [h8, up2_n (by omega), h5]
    by_cases c : k = 19
    · rw [c, up2_j (by omega)]; exact f2 19 j (by omega)
    · rw [up2_n c]; exact f2 k j (by omega)
  have n8 : M8 1 39 = M 1 39 + 1 := by rw [h8, up2_s, f6]
  have s8 : M8 19 (M 1 39) = x2 := by rw [h8, up2_n (by decide), h5, e1, up2_s]
  have a8 : M8 1 15 = M2 1 15 := by rw [h8, up2_j (by decide), h5, up2_n (by decide)]
  have g7 : M8 7 = M 7 := funext fun j => F8 7 j (by omega)
  have g16 : M8 1 16 = M 1 16 := F8 1 16 (by omega)
  refine ⟨fun c => ?_, fun c => ?_⟩
  · rcases p2 with ⟨q1, q2, q3, q4⟩ | ⟨q1, _, _⟩
    · rw [b8L] at q2
      obtain ⟨u1, u2⟩ := b8g x2.toNat (by omega)
      rw [q3] at u1 u2
      have hs : M 1 15 < M 1 16 ∧ sgn (M 7 (M 1 15)) := ⟨q1, u1⟩
      have v2 : x2 = sgX (M 7 (M 1 15)) := by omega
      refine gX12_number (p1 := 1) i8 (by decide) ?_
      intro x11 M11 i11 f11 p11 r11 M12 h12
      rw [g7, g16, a8, q4] at p11
      have b11 := p11.b (by decide)
      have i12 : IM b M12 := by rw [h12]; exact i11.up (by omega) (bm_c20.mpr ⟨b11.1, b11.2.2.1 rfl⟩)
      have F12 : FrJ kAc M M12 := by rw [h12]; exact (F8.tr (f11.mono (by intro k j h; omega))).up (by omega)
      have o12 : ∀ (k : Nat) (j : Int), (k = 19 ∨ k = 20 ∨ k = 21) → 0 ≤ j → j < M 1 39 → M12 k j = M k j := by
        intro k j hk' h0 h1
        rw [h12]
        by_cases c2 : k = 20
        · rw [c2, up2_j (by omega), f11 20 j (by omega)]; exact o8 20 j (by omega) h0 h1
        · rw [up2_n c2, f11 k j (by omega)]; exact o8 k j hk' h0 h1
      have n12 : M12 1 39 = M 1 39 + 1 := by rw [h12, up2_n (by decide), f11 1 39 (by omega)]; exact n8
      have s12 : M12 19 (M 1 39) = x2 := by rw [h12, up2_n (by decide), f11 19 _ (by omega)]; exact s8
      have d12 : M12 20 (M 1 39) = x11 := by rw [h12, e1, up2_s]
      have a12 : M12 1 15 = M11 1 15 := by rw [h12, up2_n (by decide)]
      have j7 : M12 7 = M 7 := funext fun j => F12 7 j (by omega)
      have j16 : M12 1 16 = M 1 16 := F12 1 16 (by omega)
      intro x13 e13 _
      have f13 : x13 = x11 := by rw [e13, e1]; exact d12
      have J69 : ∀ (N : Mem) (z : Int), N 20 x1 = x11 → (x11 < 0 → Q 0 N) → (0 ≤ x11 → Q 1 N) → qX12_readsAct_J69 Q x1 N := by
        intro N z hN h0 h1
        unfold qX12_readsAct_J69
        refine ⟨by omega, by omega, ?_⟩
        intro x17 e17 _
        exact ⟨fun c2 => h0 (by omega), fun c2 => h1 (by omega)⟩
      refine ⟨fun c2 => ?_, fun c2 => ?_⟩
      · rcases p11 with ⟨w1, w2, w3⟩ | ⟨k, hk', w2, w3, w4, w5, w6⟩
        · refine J69 M12 0 (by rw [e1]; exact d12) (fun _ => ?_) (fun w => by omega)
          have := hQ M12 i12 F12
          rw [prA_1 hs (fun w => w3 ⟨w.1, w.2.1, w.2.2⟩)] at this
          exact this (by rw [a12]; exact w2) o12 n12 (fun w => absurd w (by show ¬ (0 : Int) = 1; decide))
        · have := b11.1
          have k1 : k = 1 := by omega
          have : 0 ≤ x11 := by
            have hn := nmV_b (f := M 7) (a := M 1 15 + 1) k.toNat (fun i p q => w4 i p (by omega))
            rw [← w6] at hn
            exact hn.1
          omega
      · have hd : dg1 (M 7) (M 1 16) (M 1 15) ∧ x11 = M 7 (M 1 15 + 1) - 48 ∧ M11 1 15 = M 1 15 + 2 := by
          rcases p11 with ⟨w1, w2, w3⟩ | ⟨k, hk', w2, w3, w4, w5, w6⟩
          · omega
          · have k1 : k = 1 := by omega
            have h0 := w4 0 (by decide) (by omega)
            rw [show M 1 15 + 1 + 0 = M 1 15 + 1 from by omega] at h0
            refine ⟨⟨by omega, h0.1, h0.2⟩, ?_, by omega⟩
            rw [w6, k1]
            show 10 * 0 + M 7 (M 1 15 + 1 + ((0 : Nat) : Int)) - 48 = _
            rw [show M 1 15 + 1 + ((0 : Nat) : Int) = M 1 15 + 1 from by omega]
            omega
        obtain ⟨h1, vd, va⟩ := hd
        intro x19 e19 _
        have f19 : x19 = sgX (M 7 (M 1 15)) := by rw [e19, e1, s12]; exact v2
        have sv : (sgX (M 7 (M 1 15)) < 2 ↔ M 7 (M 1 15) = 110 ∨ M 7 (M 1 15) = 116) ∧ (sgX (M 7 (M 1 15)) = 4 ↔ M 7 (M 1 15) = 120) := by
          rcases u1 with h | h | h | h | h <;> rw [h] <;> decide
        refine ⟨fun c3 => ?_, fun c3 => ?_⟩
        · have hp : ¬ (M 7 (M 1 15) = 110 ∨ M 7 (M 1 15) = 116) := fun w => by have := sv.1.mpr w; omega
          intro x21 e21 _
          have f21 : x21 = sgX (M 7 (M 1 15)) := by rw [e21, e1, s12]; exact v2
          have J105 : ∀ t0 : Int, (t0 = 0 ∧ M 7 (M 1 15) = 120 ∨ t0 = 1 ∧ M 7 (M 1 15) ≠ 120) → qX12_readsAct_J105 Q x1 t0 x1 M12 := by
            intro t0 ht
            unfold qX12_readsAct_J105
            refine ⟨by rcases ht with q | q <;> rw [q.1] <;> exact ⟨by decide, by decide⟩, ?_⟩
            refine gX12_digitIn i12 ?_
            intro x24 M24 i24 f24 p24 _
            rw [j7, j16, a12, va] at p24
            refine ⟨by omega, by omega, ?_⟩
            intro M27 h27
            refine ⟨by omega, by omega, ?_⟩
            intro x30 e30 _
            have f30 : x30 = x24 := by rw [e30, h27, up2_s]
            have bx24 : -1 ≤ x24 ∧ x24 ≤ 9 := by rcases p24 with q | q <;> omega
            have i27 : IM b M27 := by rw [h27]; exact i24.up (by omega) (bm_c21.mpr ⟨by omega, by omega⟩)
            have F27 : FrJ kAc M M27 := by rw [h27]; exact (F12.tr (f24.mono (by intro k j h; omega))).up (by omega)
            have o27 : ∀ (k : Nat) (j : Int), (k = 19 ∨ k = 20 ∨ k = 21) → 0 ≤ j → j < M 1 39 → M27 k j = M k j := by
              intro k j hk' h0 h1
              rw [h27]
              by_cases c4 : k = 21
              · rw [c4, up2_j (by omega), f24 21 j (by omega)]; exact o12 21 j (by omega) h0 h1
              · rw [up2_n c4, f24 k j (by omega)]; exact o12 k j hk' h0 h1
            have n27 : M27 1 39 = M 1 39 + 1 := by rw [h27, up2_n (by decide), f24 1 39 (by omega)]; exact n12
            have a27 : M27 1 15 = M24 1 15 := by rw [h27, up2_n (by decide)]
            rcases p24 with ⟨q1', q2', q3'⟩ | ⟨q1', q2', q3'⟩
            · refine ⟨fun c4 => by omega, fun _ => ?_⟩
              have h3 : dg2 (M 7) (M 1 16) (M 1 15) := ⟨by omega, by omega, by omega, by omega⟩
              have := hQ M27 i27 F27
              rw [prA_4 hs h1 hp h3] at this
              refine this (by rw [a27, q3']; show M 1 15 + 2 + 1 = M 1 15 + 3; omega) o27 n27 (fun _ => ⟨?_, ?_, fun _ => ?_⟩)
              · rw [h27, up2_n (by decide), f24 19 _ (by omega), s12]
                exact v2
              · rw [h27, up2_n (by decide), f24 20 _ (by omega), d12]
                exact vd
              · rw [h27, e1, up2_s]
                exact q2'
            · refine ⟨fun _ => ?_, fun c4 => by omega⟩
              have := hQ M27 i27 F27
              rw [prA_3 hs h1 hp (fun w => q1' (by have w1 := w.1; have w2 := w.2.1; have w3 := w.2.2; omega))] at this
              exact this (by rw [a27, q3']) o27 n27 (fun w => absurd w (by show ¬ (0 : Int) = 1; decide))
          refine ⟨fun c4 => J105 1 (Or.inr ⟨rfl, fun w => c4 (by rw [f21]; exact sv.2.mpr w)⟩), fun c4 => J105 0 (Or.inl ⟨rfl, sv.2.mp (by omega)⟩)⟩
        · have hp : M 7 (M 1 15) = 110 ∨ M 7 (M 1 15) = 116 := sv.1.mp (by omega)
          refine J69 M12 0 (by rw [e1]; exact d12) (fun w => by omega) (fun _ => ?_)
          have := hQ M12 i12 F12
          rw [prA_2 hs h1 hp] at this
          exact this (by rw [a12]; exact va) o12 n12 (fun _ => ⟨by rw [s12]; exact v2, by rw [d12]; exact vd, fun w => absurd hp w⟩)
    · omega
  · rcases p2 with ⟨q1, q2, q3, q4⟩ | ⟨q1, q2, q3⟩
    · omega
    · have no : ¬ (M 1 15 < M 1 16 ∧ sgn (M 7 (M 1 15))) := by
        intro w
        obtain ⟨i, hi, e⟩ := b8c _ w.2
        rcases q3 with u | u
        · have := w.1
          omega
        · rw [b8L] at u
          exact u (i : Int) (by omega) (by omega) (by rw [show ((i : Int)).toNat = i from by omega]; exact e)
      have := hQ M8 i8 F8
      rw [prA_0 no] at this
      exact this (by rw [a8]; exact q2) o8 n8 (fun w => absurd w (by show ¬ (0 : Int) = 1; decide))
