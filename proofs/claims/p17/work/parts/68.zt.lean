/-! THE RULE: both sides read it alike -/
theorem bnd_3 {c : Int} (h : c ≠ 302) : bnd c ≤ 3 := by
  unfold bnd
  rw [if_neg (c := c = 302) h]
  repeat' split
  all_goals omega
theorem rlS_q {f : Int → Int} {len : Int} {m : Nat} {S' : PSt} (h : PR f (min len 40) m (1, 0, [], [], 0) S') (hs : min len 40 ≤ S'.2.2.2.2 ∨ pst f (min len 40) S' = none) : rlS f len = S' := by
  unfold rlS
  exact h.pru hs (show min len 40 - 0 ≤ ((40 : Nat) : Int) by omega)
/-- what the reference says of it -/
def rly (f : Int → Int) (len : Int) : Int := if rlz f len = -1 then 0 else -1 - rlz f len
theorem gX12_readsRule {f : Int → Int} {b : Int} {M : Mem} {Q : Int → Mem → Prop} (hI : IM b M) (hf : ∀ j, 0 ≤ j → j < M 1 14 → M 7 j = f j) (hQ : ∀ M' : Mem, IM b M' → (rlz f (M 1 14) = -1 → WFC (M' 12) (M' 1 25) ∧ (M 1 14 = 0 → M' 1 25 = 0) ∧ (M 1 14 ≠ 0 → 1 ≤ M' 1 25 ∧ CK M' (rlO f (M 1 14)))) → Q (rly f (M 1 14)) M') : qX12_readsRule M Q := by
  have bL := bm_c1_14.mp (hI.bx 1 14)
  unfold qX12_readsRule
  refine gX12_begins (p1 := 40) hI (by decide) ?_
  intro M1 i1 g1 a15 a16 a17 a14 _ M2 h2
  have i2 : IM b M2 := by rw [h2]; exact i1.up (by omega) (bm_c1_25.mpr (by decide))
  have c2 : M2 1 25 = 0 := by rw [h2, up2_s]
  have w2 : WFC (M2 12) (M2 1 25) := by rw [c2]; intro j hj; omega
  have a2 : M2 1 15 = 0 := by rw [h2, up2_j (by decide)]; exact a15
  have t2 : M2 1 16 = min (M 1 14) 40 := by rw [h2, up2_j (by decide)]; exact a16
  have n2 : M2 1 17 = 0 := by rw [h2, up2_j (by decide)]; exact a17
  have s2 : M2 7 = M 7 := by rw [h2, up2_n (by decide)]; exact funext fun j => g1 7 j (by omega)
  refine ⟨fun k1 => ?_, fun k1 => ⟨140, by decide, ?_⟩⟩
  · unfold qX12_readsRule_J24 qX12_readsRule_J29
    refine ⟨⟨by omega, by omega⟩, by decide, ?_⟩
    refine gX12_faultOf i2 (Or.inr rfl) (by decide) bL t2 (by omega) ?_
    intro _
    have e : rlz f (M 1 14) = -1 := by unfold rlz; rw [if_pos k1]
    have := hQ M2 i2 (fun _ => ⟨w2, fun _ => c2, fun q => absurd k1 q⟩)
    unfold rly at this
    rw [if_pos e] at this
    rw [if_pos ⟨rfl, by omega⟩]
    exact this
  · have ez : rlz f (M 1 14) = if (rlS f (M 1 14)).2.2.2.2 < min (M 1 14) 40 ∨ (rlS f (M 1 14)).1 = 1 ∨ 0 < (rlS f (M 1 14)).2.1 ∨ 40 < M 1 14 then (rlS f (M 1 14)).2.2.2.2 else -1 := by
      unfold rlz
      rw [if_neg k1]
    show qX12_reads 140 1 0 M2 _
    refine gX12_reads (f := f) (t := min (M 1 14) 40) (fun j p q => ?_) 140 1 0 b M2 _ [] [] ⟨i2, w2, by omega, by omega, by omega⟩ (by rw [s2]; exact fun j p q => hf j p (by omega)) t2 (by omega) (by decide) (Or.inr (Or.inr (by decide))) (by rw [if_neg (by decide)]; omega) ⟨by rw [c2]; rfl, trivial⟩ ?_
    · refine bnd_3 ?_
      rw [← hf j p (by omega)]
      have := bm_c7.mp (hI.bx 7 j)
      omega
    intro x7 M7 z7 r7 R7 h77 t7 l7 _ _ q7
    rw [if_neg (by decide), n2, a2] at R7
    have b7 := bm_c1_15.mp (r7.1.bx 1 15)
    -- it can't stand there
    have BAD : ∀ t0 : Int, (t0 = 0 ∨ t0 = 1) → rlz f (M 1 14) = M7 1 15 → ¬ (t0 = 1 ∧ M 1 14 ≤ M7 1 15) → qX12_readsRule_J29 Q (M 1 14) t0 M7 := by
      intro t0 h0 hz hn
      unfold qX12_readsRule_J29
      refine ⟨⟨by omega, by omega⟩, ⟨by omega, by omega⟩, ?_⟩
      refine gX12_faultOf r7.1 h0 (by decide) bL t7 (by omega) ?_
      intro _
      have := hQ M7 r7.1 (fun q => by omega)
      unfold rly at this
      rw [if_neg (by omega), hz] at this
      rw [if_neg hn]
      exact this
    refine ⟨fun k7 => ?_, fun k7 => ?_⟩
    · obtain ⟨m, S', u1, u2, u3⟩ := R7.2 k7
      have eS : rlS f (M 1 14) = S' := rlS_q u1 (by rcases u3 with q | q; exact Or.inr q.2; exact Or.inl q.1)
      refine BAD 0 (Or.inl rfl) ?_ (fun q => absurd q.1 (by decide))
      rw [ez, eS, ← u2, if_pos]
      rcases u3 with q | q
      · exact Or.inl q.1
      · rcases q.2 with w | w
        · exact Or.inr (Or.inl w)
        · exact Or.inr (Or.inr (Or.inl w))
    · obtain ⟨m, P, O', v1, v2, v3, v4⟩ := R7.1 (by omega)
      unfold qX12_readsRule_J24
      by_cases ct : min (M 1 14) 40 ≤ M7 1 15
      · have eS : rlS f (M 1 14) = (0, 0, P ++ [], O', M7 1 15) := rlS_q v1 (Or.inl ct)
        by_cases cl : 40 < M 1 14
        · refine BAD 1 (Or.inr rfl) ?_ (fun q => by omega)
          rw [ez, eS, if_pos (Or.inr (Or.inr (Or.inr cl)))]
        · unfold qX12_readsRule_J29
          refine ⟨⟨by omega, by omega⟩, by decide, ?_⟩
          refine gX12_faultOf r7.1 (Or.inr rfl) (by decide) bL t7 (by omega) ?_
          intro _
          have e : rlz f (M 1 14) = -1 := by
            rw [ez, eS]
            refine if_neg ?_
            show ¬ (M7 1 15 < min (M 1 14) 40 ∨ (0 : Int) = 1 ∨ (0 : Int) < 0 ∨ 40 < M 1 14)
            omega
          have u7 := r7.2.2.2 (by omega)
          have d7 : dpc (M7 12) (M7 1 25).toNat = 1 := by
            rw [u7.2.2, c2]
            rfl
          have b25 := bm_c1_25.mp (r7.1.bx 1 25)
          have := hQ M7 r7.1 (fun _ => ⟨u7.2.1, fun q => absurd q k1, fun _ => ⟨?_, ?_⟩⟩)
          · unfold rly at this
            rw [if_pos e] at this
            rw [if_pos ⟨rfl, by omega⟩]
            exact this
          · by_cases c0 : M7 1 25 = 0
            · rw [c0] at d7
              exact absurd d7 (by show ¬ (0 : Int) = 1; decide)
            · omega
          · unfold rlO
            rw [if_neg k1, eS]
            show CK M7 (rls 1 (P ++ []) O').2
            rw [rls_a (b := 1) (W := []) v2 (by decide)]
            exact v3
      · have hnone : pst f (min (M 1 14) 40) (0, 0, P ++ [], O', M7 1 15) = none := by
          have n41 : ¬ (f (M7 1 15) = 41 ∧ (0 : Int) < 0) := fun q => absurd q.2 (by decide)
          rcases v4 with v | v | v
          · omega
          · exact pst_0 (by decide) n41 (by omega)
          · exact pst_7 (by decide) v.2.1 v.2.2
        have eS : rlS f (M 1 14) = (0, 0, P ++ [], O', M7 1 15) := rlS_q v1 (Or.inr hnone)
        refine BAD 1 (Or.inr rfl) ?_ (fun q => by omega)
        rw [ez, eS, if_pos (Or.inl (show M7 1 15 < min (M 1 14) 40 by omega))]
theorem gX12_laysCode {k1 : Nat} {p2 : Int} {b : Int} {M : Mem} {Q : Mem → Prop} (hI : IM b M) (hp : 0 ≤ p2 ∧ p2 ≤ 80) (hk : k1 ≠ 11 ∧ k1 ≠ 1) (hw : WFC (M k1) p2) (hQ : ∀ M' : Mem, IM b M' → FrJ (fun k j => k = 11 ∨ k = 1 ∧ j = 24) M M' → M' 1 24 = p2 → (∀ j, 0 ≤ j → j < p2 → M' 11 j = M k1 j) → Q M') : qX12_laysCode k1 p2 M Q := by
  unfold qX12_laysCode
  intro M1 h1
  refine ⟨81, sX12_laysCode_L7 (b := b) (M0 := M) hp hk.1 ?_ _ _ _ (by rw [h1]; exact hI.1.up (bm_c1_24.mpr hp)) (by rw [h1, up2_s]) (fun j a q => by omega) (fun j => by rw [h1, up2_n hk.2]) (by rw [h1]; exact FrJ.rf.up (Or.inr ⟨rfl, rfl⟩)) (by omega) (by omega)⟩
  intro M' h' h24 hj hF
  refine hQ _ ⟨h', ?_⟩ hF h24 hj
  rw [h24]
  exact hw.cg hj
abbrev kRu (k : Nat) (j : Int) : Prop := k = 12 ∨ (k = 1 ∧ (j = 0 ∨ j = 14 ∨ j = 15 ∨ j = 16 ∨ j = 17 ∨ j = 25))
/-- the code is that of the text f -/
def RUL (M : Mem) (f : Int → Int) (len : Int) : Prop := (len = 0 ∧ M 1 24 = 0) ∨ (1 ≤ M 1 24 ∧ M 1 24 = (rlO f len).length ∧ SCd (M 11) (rlO f len))
theorem gX12_rule {f : Int → Int} {b : Int} {M : Mem} {Q : Int → Mem → Prop} (hI : IM b M) (hf : ∀ j, 0 ≤ j → j < M 1 14 → M 7 j = f j) (hQ : ∀ M' : Mem, IM b M' → (rlz f (M 1 14) ≠ -1 → Ks kRu M M') → (rlz f (M 1 14) = -1 → Ks (fun k j => kRu k j ∨ k = 11 ∨ (k = 1 ∧ j = 24)) M M' ∧ RUL M' f (M 1 14)) → Q (rly f (M 1 14)) M') : qX12_rule M Q := by
  have bL := bm_c1_14.mp (hI.bx 1 14)
  unfold qX12_rule
  intro M1 h1
  have i1 : IM b M1 := by rw [h1]; exact hI.up (by omega) (by simp [BM])
  have l1 : M1 1 14 = M 1 14 := by rw [h1, up2_j (by decide)]
  have k1 : Ks kRu M M1 := by rw [h1]; exact Ks.rf.wr (by omega)
  refine fmX12_readsRule (gX12_readsRule (f := f) i1 (by rw [l1, h1, up2_n (by decide)]; exact hf) (Q := fun z M' => z = rly f (M 1 14) ∧ IM b M' ∧ (rlz f (M 1 14) = -1 → WFC (M' 12) (M' 1 25) ∧ (M 1 14 = 0 → M' 1 25 = 0) ∧ (M 1 14 ≠ 0 → 1 ≤ M' 1 25 ∧ CK M' (rlO f (M 1 14))))) (fun M' i' h' => by rw [l1] at h' ⊢; exact ⟨rfl, i', h'⟩)) ?_
  intro x2 M2 k2 hh
  obtain ⟨e2, i2, h2⟩ := hh
  intro _
  have K2 : Ks kRu M M2 := k1.tr (k2.mono (by intro k j h; omega))
  have zb : rlz f (M 1 14) = -1 ∨ 0 ≤ rlz f (M 1 14) := by
    have sb := rlS_b (f := f) bL.1
    unfold rlz
    split
    · exact Or.inl rfl
    · split
      · exact Or.inr sb.1
      · exact Or.inl rfl
  refine ⟨fun c => ?_, fun c => ?_⟩
  · have hz : rlz f (M 1 14) ≠ -1 := by
      intro q
      unfold rly at e2
      rw [if_pos q] at e2
      exact c e2
    rw [e2]
    exact hQ M2 i2 (fun _ => K2) (fun q => absurd q hz)
  · have hz : rlz f (M 1 14) = -1 := by
      rcases zb with q | q
      · exact q
      · unfold rly at e2
        rw [if_neg (by omega)] at e2
        omega
    obtain ⟨w2, z2, o2⟩ := h2 hz
    intro x4 e4 _
    have b4 : 0 ≤ x4 ∧ x4 ≤ 80 := by rw [e4]; exact bm_c1_25.mp (i2.bx _ _)
    refine gX12_laysCode i2 b4 (by decide) (by rw [e4]; exact w2) ?_
    intro M5 i5 f5 c5 j5
    rw [e2]
    refine hQ M5 i5 (fun q => absurd hz q) (fun _ => ⟨?_, ?_⟩)
    · intro k j h
      rw [f5 k j (by omega)]
      exact K2 k j (by omega)
    · by_cases cl : M 1 14 = 0
      · exact Or.inl ⟨cl, by rw [c5, e4]; exact z2 cl⟩
      · obtain ⟨n1, n2, n3⟩ := o2 cl
        refine Or.inr ⟨by omega, by omega, ?_⟩
        exact n3.cg (fun j p q => j5 j p (by omega))
theorem SO_SCd {g h c : Int → Int} {u : Int} : ∀ {O : List (Int × Int)}, SO g h u O → SCd c O → ∀ i : Int, 0 ≤ i → i < O.length → kcF (g i) (h i) = c i ∧ kOK (g i) (h i) ∧ (g i = 301 → bt (iI u) (h i).toNat = true)
  | [], _, _, i, p, q => by
    have l : (([] : List (Int × Int)).length : Int) = 0 := rfl
    omega
  | p :: O, s, d, i, hp, hq => by
    have l : ((p :: O).length : Int) = O.length + 1 := by show ((O.length + 1 : Nat) : Int) = _; omega
    rw [l] at hq
    by_cases c : i = O.length
    · obtain ⟨s1, s2, s3, s4⟩ := s.1
      rw [c, s1, s2]
      exact ⟨d.1.symm, s3, s4⟩
    · exact SO_SCd s.2 d.2 i hp (by omega)
theorem SCd_pl : SCd plF plO := ⟨by decide, by decide, by decide, by decide, by decide, trivial⟩
theorem RUL.law {E M MM : Mem} {f : Int → Int} {len : Int} {kl : Nat} (h : RUL MM f len) (e : E 1 24 = MM 1 24) (e11 : E 11 = MM 11) (hR : ROl kl M (rlO f len)) : LAW E M kl := by
  unfold LAW LWf
  rw [e, e11]
  rcases h with ⟨h1, h2⟩ | ⟨h1, h2, h3⟩
  · refine Or.inr ⟨h2, ?_⟩
    unfold rlO at hR
    rw [if_pos h1] at hR
    exact ⟨hR.1, SO_SCd hR.2 SCd_pl⟩
  · refine Or.inl ⟨h1, by rw [h2]; exact hR.1, ?_⟩
    rw [h2]
    exact SO_SCd hR.2 h3
theorem gX11_rule {f : Int → Int} {M : Mem} {Q : Int → Mem → Prop} (hI : IX M) (hf : ∀ j, 0 ≤ j → j < M 156 1 → M 157 j = f j) (hQ : ∀ M' : Mem, IX M' → (rlz f (M 156 1) = -1 → ROl (M' 155 16).toNat M' (rlO f (M 156 1))) → (rlz f (M 156 1) ≠ -1 → M' 155 16 = M 155 16 ∧ ∀ (k : Nat) (j : Int), (M 155 16).toNat ≤ k → k ≤ (M 155 16).toNat + 2 → M' k j = M k j) → Q (rly f (M 156 1)) M') : qX11_rule M Q := by
  have bL := bx_c156_1.mp (hI.bx 156 1)
  have l17 := hI.l17
  unfold qX11_rule
  refine ⟨l17, ?_⟩
  refine fmX5_read (gX5_read (f := f) hI l17 hf (Q := fun z M' => z = rlz f (M 156 1) ∧ IX M' ∧ (rlz f (M 156 1) = -1 → ROl (M 155 17).toNat M' (rlO f (M 156 1)))) (fun M' i' h' => ⟨rfl, i', h'⟩)) ?_
  intro x2 M2 k2 hh
  obtain ⟨e2, i2, h2⟩ := hh
  intro _
  have zb : rlz f (M 156 1) = -1 ∨ 0 ≤ rlz f (M 156 1) ∧ rlz f (M 156 1) ≤ 40 := by
    have sb := rlS_b (f := f) bL.1
    unfold rlz
    split
    · exact Or.inl rfl
    · split
      · exact Or.inr ⟨sb.1, by omega⟩
      · exact Or.inl rfl
  have e16 : M2 155 16 = M 155 16 := k2 155 16 (by rcases hI.2.1 with q | q <;> rw [q.2] <;> decide)
  have e17 : M2 155 17 = M 155 17 := k2 155 17 (by rcases hI.2.1 with q | q <;> rw [q.2] <;> decide)
  unfold qX9_clear
  intro M3 h3
  have i3 : IX M3 := by rw [h3]; exact i2.up (by decide) (bx_c156_1.mpr (by decide))
  have g16 : M3 155 16 = M 155 16 := by rw [h3, up2_n (by decide)]; exact e16
  have g17 : M3 155 17 = M 155 17 := by rw [h3, up2_n (by decide)]; exact e17
  refine ⟨fun c => ?_, fun c => ?_⟩
  · refine ⟨i3.l16, i3.l17, ?_⟩
    intro M7 h7 M8 h8
    have hz : rlz f (M 156 1) = -1 := by omega
    have i8 : IX M8 := by
      rw [h8, h7]
      refine ⟨BX.up (BX.up i3.1 (by simp [BX])) (by simp [BX]), ?_, fun k' j' hk' => ?_⟩
      · rw [up2_j (by decide), up2_s, up2_s]
        rcases i3.2.1 with q | q
        · right; rw [q.1, q.2]; exact ⟨rfl, rfl⟩
        · left; rw [q.1, q.2]; exact ⟨rfl, rfl⟩
      · rw [up2_n (by rcases hk' with rfl | rfl <;> omega), up2_n (by rcases hk' with rfl | rfl <;> omega), up2_n (by rcases hk' with rfl | rfl <;> omega), up2_n (by rcases hk' with rfl | rfl <;> omega)]
        exact i3.2.2 k' j' hk'
    have := hQ M8 i8 (fun _ => ?_) (fun q => absurd hz q)
    · unfold rly at this
      rw [if_pos hz] at this
      exact this
    · have w16 : M8 155 16 = ((M 155 17).toNat : Int) := by rw [h8, up2_j (by decide), h7, up2_s, g17]
      rw [w16, show ((((M 155 17).toNat : Nat) : Int)).toNat = (M 155 17).toNat from Int.toNat_natCast _]
      have n155 : (M 155 17).toNat ≠ 155 ∧ (M 155 17).toNat + 1 ≠ 155 ∧ (M 155 17).toNat + 2 ≠ 155 ∧ (M 155 17).toNat ≠ 156 ∧ (M 155 17).toNat + 1 ≠ 156 ∧ (M 155 17).toNat + 2 ≠ 156 := by rcases l17 with q | q <;> omega
      refine (h2 hz).fr ?_ ?_ ?_ ?_
      · rw [h8, up2_n n155.1, h7, up2_n n155.1, h3, up2_n n155.2.2.2.1]
      · rw [h8, up2_n n155.1, h7, up2_n n155.1, h3, up2_n n155.2.2.2.1]
      · rw [h8, up2_n n155.2.1, h7, up2_n n155.2.1, h3, up2_n n155.2.2.2.2.1]
      · rw [h8, up2_n n155.2.2.1, h7, up2_n n155.2.2.1, h3, up2_n n155.2.2.2.2.2]
  · refine ⟨⟨by omega, by omega⟩, ?_⟩
    have hz : rlz f (M 156 1) ≠ -1 := by omega
    have := hQ M3 i3 (fun q => absurd q hz) (fun _ => ⟨g16, fun k j h1 h2 => ?_⟩)
    · unfold rly at this
      rw [if_neg hz] at this
      rw [e2]
      exact this
    · have nn : k ≠ 156 ∧ k ≠ 155 ∧ k ≠ 185 ∧ k ≠ 186 ∧ k ≠ (M 155 17).toNat ∧ k ≠ (M 155 17).toNat + 1 ∧ k ≠ (M 155 17).toNat + 2 := by rcases hI.2.1 with q | q <;> rw [q.1] at h1 h2 <;> rw [q.2] <;> (refine ⟨?_, ?_, ?_, ?_, ?_, ?_, ?_⟩ <;> omega)
      rw [h3, up2_n nn.1]
      exact k2 k j (by omega)
/-- the rule is told anew -/
theorem STA.rule {E E' MX MM MX' MM' : Mem} (h : STA E MX MM) (hE : EBx E) (hI : IX MX) (e : ∀ (k : Nat) (j : Int), k ≠ 11 → ¬ (k = 1 ∧ j = 24) → E' k j = E k j) (kx : Ks (fun k _ => k = 0 ∨ (8 ≤ k ∧ k ≤ 28) ∨ (155 ≤ k ∧ k ≤ 157) ∨ (160 ≤ k ∧ k ≤ 162) ∨ (164 ≤ k ∧ k ≤ 165) ∨ 167 ≤ k) MX MX') (hL : LAW E' MX' (MX' 155 16).toNat) (km : ∀ (k : Nat) (j : Int), k = 5 ∨ k = 15 ∨ k = 29 ∨ k = 30 ∨ k = 31 ∨ (k = 1 ∧ (j = 6 ∨ j = 28)) → MM' k j = MM k j) : STA E' MX' MM' := by
  obtain ⟨a, b, c, d, g, k⟩ := h
  have e13 : E' 1 3 = E 1 3 := e 1 3 (by decide) (by omega)
  have e14 : E' 1 4 = E 1 4 := e 1 4 (by decide) (by omega)
  have e15 : E' 1 5 = E 1 5 := e 1 5 (by decide) (by omega)
  have e17 : E' 1 7 = E 1 7 := e 1 7 (by decide) (by omega)
  have r2 : E' 2 = E 2 := funext fun j => e 2 j (by decide) (by omega)
  have r3 : E' 3 = E 3 := funext fun j => e 3 j (by decide) (by omega)
  have r4 : E' 4 = E 4 := funext fun j => e 4 j (by decide) (by omega)
  have eo : eO E' = eO E := by show (E' 1 5).toNat = (E 1 5).toNat; rw [e15]
  have eh : eH E' = eH E := by show (E' 1 4).toNat = (E 1 4).toNat; rw [e14]
  have eg : eG E' = eG E := by show E' 1 3 - 1 = E 1 3 - 1; rw [e13]
  have SCe : ∀ (M : Mem) (k0 : Nat) (r : Int → Int), SC E M k0 r → SC E' M k0 r := by
    intro M k0 r h
    unfold SC at h ⊢
    rw [e14, e15, r3, eo]
    exact h
  have WRe : ∀ r : Int → Int, WR E r → WR E' r := by
    intro r h
    unfold WR at h ⊢
    rw [e14, e15, eg, eh]
    exact h
  have k5 : MM' 5 = MM 5 := funext fun j => km 5 j (by omega)
  refine ⟨?_, hL, ?_, ?_, ?_, ?_⟩
  · have a' := a.fr (M' := MX') (kx _ _ (by omega)) (kx _ _ (by omega)) (kx _ _ (by omega)) (fun j => kx _ j (by omega))
    unfold STR at a' ⊢
    rw [e13, e14, e15, e17, r2, r3, r4]
    exact a'
  · rw [k5]
    exact SCe _ _ _ (c.fr (fun t j ht => kx _ j (by omega)))
  · rw [k5]
    exact WRe _ d
  · have g' := g.fr (MX' := MX') (MM' := MM') hE (fun k j q => kx k j (by omega)) (km 1 28 (by omega)) (fun j _ _ => km 15 j (by omega)) (bx_c163_1.mp (hI.bx 163 1))
    exact ⟨g'.1, fun i p q => ⟨SCe _ _ _ (g'.2 i p q).1, WRe _ (g'.2 i p q).2⟩⟩
  · have k' := k.fr (MX' := MX') (MM' := MM') (fun k j q => kx k j (by omega)) (fun k j q => km k j (by omega))
    intro i p q
    obtain ⟨u, v⟩ := k' i p q
    rw [e14, e15]
    exact ⟨u, fun w => ⟨(v w).1, (v w).2.1, fun w2 => ⟨SCe _ _ _ ((v w).2.2.1 w2).1, WRe _ ((v w).2.2.1 w2).2⟩, (v w).2.2.2⟩⟩
