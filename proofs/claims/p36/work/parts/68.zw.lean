section
/-! THE CALLS over the relation of the whole state -/
theorem up2_id (M : Mem) (k : Nat) (j : Int) : up2 M k j (M k j) = M := by
  funext i x
  rw [up2_a]
  by_cases c : i = k
  · rw [if_pos c]
    by_cases c2 : x = j
    · rw [if_pos c2, c, c2]
    · rw [if_neg c2]
  · rw [if_neg c]
theorem Cl_sign (k : Nat) (MX MM : Mem) (y1 : Int) (hy1 : iR y1) (hk : k < 512) (hMX : MR MX) (hMM : MR MM) (hR : Rel k MX MM) : qX11_sign y1 MX (fun z MX1 => qX12_sign y1 MM (fun b MM1 => z = b ∧ Rel (k + 1) MX1 MM1)) := by
  refine fmX11_sign (gX11_signC (p1 := y1) hR.1 (Q := fun z M' => IX M' ∧ (77 ≤ MX 156 1 ∧ z = -1 ∧ M' 156 1 = MX 156 1 ∧ (∀ j, M' 157 j = MX 157 j) ∨ MX 156 1 ≤ 76 ∧ z = MX 156 1 + 4 ∧ M' 156 1 = MX 156 1 + 4 ∧ (∀ j, 0 ≤ j → j < MX 156 1 → M' 157 j = MX 157 j) ∧ (∀ i, 0 ≤ i → i < 4 → M' 157 (MX 156 1 + i) = byt y1 i))) (fun z M' h q => ⟨h, q⟩)) ?_
  intro z MX1 fX hX
  refine fmX12_sign (gX12_signC (p1 := y1) hR.2.1 (Q := fun z M' => IM (60000 * (k : Int)) M' ∧ (77 ≤ MM 1 14 ∧ z = -1 ∧ M' 1 14 = MM 1 14 ∧ (∀ j, M' 7 j = MM 7 j) ∨ MM 1 14 ≤ 76 ∧ z = MM 1 14 + 4 ∧ M' 1 14 = MM 1 14 + 4 ∧ (∀ j, 0 ≤ j → j < MM 1 14 → M' 7 j = MM 7 j) ∧ (∀ i, 0 ≤ i → i < 4 → M' 7 (MM 1 14 + i) = byt y1 i))) (fun z M' h q => ⟨h, q⟩)) ?_
  intro b MM1 fM hM
  have e := hR.2.2.1
  have e2 : MX1 182 2 = MM1 1 45 := by rw [fX 182 2 (by omega), fM 1 45 (by omega)]; exact hR.2.2.2.1
  have eS : STA (cut MM1) MX1 MM1 := by
    rw [cut_of (fun k j c => fM k j (by omega))]
    exact hR.S.fr hR.E0 hR.1 (fun k j q => fX k j (by omega)) (fun k j q => fM k j (by omega))
  obtain ⟨iX, gX⟩ := hX
  obtain ⟨iM, gM⟩ := hM
  have T := hR.2.2.2.2.1
  rcases gX with g | g
  · rcases gM with h | h
    · exact ⟨by omega, iX, iM.mono (by omega), by omega, e2, fun j a q => by rw [g.2.2.2, h.2.2.2]; exact T j a (by omega), eS, hR.F.fr (fun k j q => fM k j (by omega)), hR.H.fr (fX 182 2 (by omega)) (fun j => ⟨fX 183 j (by omega), fX 184 j (by omega), fM 26 j (by omega), fM 27 j (by omega)⟩)⟩
    · exact absurd g.1 (by omega)
  · rcases gM with h | h
    · exact absurd g.1 (by omega)
    · refine ⟨by omega, iX, iM.mono (by omega), by omega, e2, fun j a q => ?_, eS, hR.F.fr (fun k j q => fM k j (by omega)), hR.H.fr (fX 182 2 (by omega)) (fun j => ⟨fX 183 j (by omega), fX 184 j (by omega), fM 26 j (by omega), fM 27 j (by omega)⟩)⟩
      by_cases cj : j < MX 156 1
      · rw [g.2.2.2.1 j a cj, h.2.2.2.1 j a (by omega)]
        exact T j a cj
      · have u := g.2.2.2.2 (j - MX 156 1) (by omega) (by omega)
        have v := h.2.2.2.2 (j - MX 156 1) (by omega) (by omega)
        rw [show MX 156 1 + (j - MX 156 1) = j from by omega] at u
        rw [show MM 1 14 + (j - MX 156 1) = j from by omega] at v
        rw [u, v]
theorem Cl_end (k : Nat) (MX MM : Mem) (y1 : Int) (hy1 : iR y1) (hk : k < 512) (hMX : MR MX) (hMM : MR MM) (hR : Rel k MX MM) : qX11_end y1 MX (fun z MX1 => qX12_end y1 MM (fun b MM1 => z = b ∧ Rel (k + 1) MX1 MM1)) := by
  refine fmX11_end (gX11_end (p1 := y1) hR.1 (Q := fun z M' => IX M' ∧ ((0 ≤ y1 ∧ y1 ≤ MX 156 1) ∧ z = 1 ∧ M' 156 1 = y1 ∨ (y1 < 0 ∨ MX 156 1 < y1) ∧ z = 0 ∧ M' 156 1 = MX 156 1)) (fun z M' h q => ⟨h, q⟩)) ?_
  intro z MX1 fX hX
  refine fmX12_end (gX12_end (p1 := y1) hR.2.1 (Q := fun z M' => IM (60000 * (k : Int)) M' ∧ ((0 ≤ y1 ∧ y1 ≤ MM 1 14) ∧ z = 1 ∧ M' 1 14 = y1 ∨ (y1 < 0 ∨ MM 1 14 < y1) ∧ z = 0 ∧ M' 1 14 = MM 1 14)) (fun z M' h q => ⟨h, q⟩)) ?_
  intro b MM1 fM hM
  have e := hR.2.2.1
  have e2 : MX1 182 2 = MM1 1 45 := by rw [fX 182 2 (by omega), fM 1 45 (by omega)]; exact hR.2.2.2.1
  have eS : STA (cut MM1) MX1 MM1 := by
    rw [cut_of (fun k j c => fM k j (by omega))]
    exact hR.S.fr hR.E0 hR.1 (fun k j q => fX k j (by omega)) (fun k j q => fM k j (by omega))
  obtain ⟨iX, gX⟩ := hX
  obtain ⟨iM, gM⟩ := hM
  exact ⟨by omega, iX, iM.mono (by omega), by omega, e2, fun j a q => by rw [fX 157 j (by omega), fM 7 j (by omega)]; exact hR.2.2.2.2.1 j a (by omega), eS, hR.F.fr (fun k j q => fM k j (by omega)), hR.H.fr (fX 182 2 (by omega)) (fun j => ⟨fX 183 j (by omega), fX 184 j (by omega), fM 26 j (by omega), fM 27 j (by omega)⟩)⟩
theorem Cl_avenue (k : Nat) (MX MM : Mem)  (hk : k < 512) (hMX : MR MX) (hMM : MR MM) (hR : Rel k MX MM) : qX11_avenue  MX (fun z MX1 => qX12_avenue  MM (fun b MM1 => z = b ∧ Rel (k + 1) MX1 MM1)) := by
  refine fmX11_avenue (gX11_avenueC hR.1 (Q := fun z M' => ∃ q, z = avz (MX 156 1) q ∧ IX M' ∧ AV (MX 157) (MX 156 1) q ∧ M' 156 1 = 0 ∧ (q = MX 156 1 ∧ 4 ≤ q → Ks kAv MX M' ∧ M' 158 1 = MX 156 1 ∧ (∀ c : Nat, c < 32 → (bt (iI (M' 158 2)) c = true ↔ (c : Int) < MX 156 1 ∧ MX 157 c = 99)) ∧ M' 163 2 = 0 ∧ (∀ i, 0 ≤ i → i < 3 → M' 166 i = 0) ∧ M' 1 6 = 0 ∧ M' 1 7 = 0 ∧ M' 1 8 = 0 ∧ M' 1 9 = 0 ∧ M' 1 10 = 0) ∧ (¬ (q = MX 156 1 ∧ 4 ≤ q) → Ks (fun k j => k = 156 ∧ j = 1) MX M')) (fun q M' i a l y n => ⟨q, rfl, i, a, l, y, n⟩)) ?_
  intro z MX1 fX hX
  obtain ⟨q, ez, iX, aX, lX, yX, nX⟩ := hX
  refine fmX12_avenue (gX12_avenueC hR.2.1 (by omega) (Q := fun z M' => ∃ q, z = avz (MM 1 14) q ∧ IM (60000 * (k : Int) + 1) M' ∧ AV (MM 7) (MM 1 14) q ∧ M' 1 14 = 0 ∧ (q = MM 1 14 ∧ 4 ≤ q → FrJ kAw MM M' ∧ M' 1 3 = MM 1 14 ∧ (∀ i, 0 ≤ i → i < MM 1 14 → (M' 2 i = 0 ↔ MM 7 i ≠ 99)) ∧ M' 1 4 = 0 ∧ M' 1 5 = 0 ∧ M' 5 = up (up (MM 5) 12 0) 37 0 ∧ M' 1 28 = 0 ∧ (∀ i, 0 ≤ i → i < 3 → M' 29 i = 0)) ∧ (¬ (q = MM 1 14 ∧ 4 ≤ q) → FrJ (fun k j => k = 8 ∨ (k = 1 ∧ (j = 0 ∨ j = 14 ∨ j = 15 ∨ j = 16 ∨ j = 17))) MM M')) (fun q M' i a l y n => ⟨q, rfl, i, a, l, y, n⟩)) ?_
  intro b MM1 fM hM
  obtain ⟨q2, eb, iM, aM, lM, yM, nM⟩ := hM
  have e := hR.2.2.1
  rw [← e] at eb aM yM nM
  have eq := aX.uq aM hR.2.2.2.2.1
  subst eq
  have hF : FOLS MM1 := by
    by_cases c : q = MX 156 1 ∧ 4 ≤ q
    · obtain ⟨m0, m1, m2, m3, m4, m5, m6, m7⟩ := yM c
      exact FOLS.z m4
    · exact hR.F.fr (fun k j h => nM c k j (by omega))
  refine ⟨by rw [ez, eb], hR.t iX iM (by omega) lX lM (fX 182 2 (by omega)) (fM 1 45 (by omega)) (fun j => ⟨fX 183 j (by omega), fX 184 j (by omega), fM 26 j (by omega), fM 27 j (by omega)⟩) hF ?_⟩
  by_cases c : q = MX 156 1 ∧ 4 ≤ q
  · obtain ⟨x0, x1, x2, x3, x4, x5, x6, x7, x8, x9⟩ := yX c
    obtain ⟨m0, m1, m2, m3, m4, m5, m6, m7⟩ := yM c
    have ck : ∀ (k : Nat) (j : Int), cE k j → k ≠ 2 → ¬ (k = 1 ∧ (j = 3 ∨ j = 4 ∨ j = 5)) → cut MM1 k j = cut MM k j := by
      intro k j h1 h2 h3
      rw [cut_p h1, cut_p h1]
      exact m0 k j (by omega)
    have a30 := aX.1
    refine hR.S.avenue hR.1 (len := MX 156 1) (f := MX 157) (by omega) (by rw [cut13]; exact m1) (by rw [cut14]; exact m3) (by rw [cut15]; exact m4) (ck 1 7 (by omega) (by decide) (by omega)) (ck 1 24 (by omega) (by decide) (by omega)) (fun i p q => ?_) (funext fun j => ck 3 j (by omega) (by decide) (by omega)) (funext fun j => ck 4 j (by omega) (by decide) (by omega)) (funext fun j => ck 11 j (by omega) (by decide) (by omega)) x0 x1 x2 x3 x4 x5 x6 x7 x8 x9 m5 m6 m7
    rw [cut2, hR.2.2.2.2.1 i p q]
    exact m2 i p q
  · have x0 := nX c
    have m0 := nM c
    rw [cut_of (M0 := MM) (fun k j h => m0 k j (by omega))]
    exact hR.S.fr hR.E0 hR.1 (fun k j q => x0 k j (by omega)) (fun k j q => m0 k j (by omega))
theorem Cl_hearses (k : Nat) (MX MM : Mem)  (hk : k < 512) (hMX : MR MX) (hMM : MR MM) (hR : Rel k MX MM) : qX11_hearses  MX (fun z MX1 => qX12_hearses  MM (fun b MM1 => z = b ∧ Rel (k + 1) MX1 MM1)) := by
  have S := hR.S
  have e := hR.2.2.1
  have bL := bm_c1_14.mp (hR.2.1.bx 1 14)
  have eT : hsT (MX 157) (MX 156 1) (eG (cut MM)) (cut MM 1 4) (MM 5) = hsT (MM 7) (MM 1 14) (eG (cut MM)) (cut MM 1 4) (MM 5) := by
    rw [e]
    exact rdH_cg (fun j p q => hR.2.2.2.2.1 j p (by omega)) 7 _ _ 0 (Int.le_refl _) (by omega)
  have eA : hsA (MX 157) (MX 156 1) (eG (cut MM)) (cut MM 1 4) (MM 5) = hsA (MM 7) (MM 1 14) (eG (cut MM)) (cut MM 1 4) (MM 5) := by
    unfold hsA hsOK
    rw [eT, e]
  refine fmX11_hearses (gX11_hearses (E := cut MM) (r := MM 5) hR.1 S.1 S.2.2.1 (Q := fun z M' => z = hsA (MM 7) (MM 1 14) (eG (cut MM)) (cut MM 1 4) (MM 5) ∧ IX M' ∧ M' 156 1 = 0 ∧ (hsOK (MM 7) (MM 1 14) (eG (cut MM)) (cut MM 1 4) (MM 5) ∧ MM 1 14 ≠ 0 → Ks (fun k j => (1 ≤ k ∧ k ≤ 14) ∨ k = 156 ∨ (k = 163 ∧ j = 2)) MX M' ∧ M' 163 2 = 0 ∧ SC (up2 (cut MM) 1 4 (hsT (MM 7) (MM 1 14) (eG (cut MM)) (cut MM 1 4) (MM 5)).2.2.1) M' 1 (hsT (MM 7) (MM 1 14) (eG (cut MM)) (cut MM 1 4) (MM 5)).2.2.2) ∧ (¬ (hsOK (MM 7) (MM 1 14) (eG (cut MM)) (cut MM 1 4) (MM 5) ∧ MM 1 14 ≠ 0) → Ks (fun k j => (8 ≤ k ∧ k ≤ 14) ∨ k = 156) MX M')) (fun M' i l y n => by unfold hsOK at y n; rw [eT, e] at y n; exact ⟨eA, i, l, y, n⟩)) ?_
  intro z MX1 fX hX
  obtain ⟨ez, iX, lX, yX, nX⟩ := hX
  refine fmX12_hearses (gX12_hearses (E := cut MM) hR.2.1 (cut_CE MM) (by omega) (Q := fun z M' => z = hsA (MM 7) (MM 1 14) (eG (cut MM)) (cut MM 1 4) (MM 5) ∧ IM (60000 * (k : Int) + 1) M' ∧ M' 1 14 = 0 ∧ (hsOK (MM 7) (MM 1 14) (eG (cut MM)) (cut MM 1 4) (MM 5) ∧ MM 1 14 ≠ 0 → M' 1 4 = (hsT (MM 7) (MM 1 14) (eG (cut MM)) (cut MM 1 4) (MM 5)).2.2.1 ∧ M' 5 = (hsT (MM 7) (MM 1 14) (eG (cut MM)) (cut MM 1 4) (MM 5)).2.2.2 ∧ M' 1 28 = 0 ∧ M' 1 6 = MM 1 6 + 1 ∧ FrJ (fun k j => k = 5 ∨ k = 9 ∨ (k = 1 ∧ (j = 0 ∨ j = 4 ∨ j = 6 ∨ j = 14 ∨ j = 15 ∨ j = 16 ∨ j = 17 ∨ j = 20 ∨ j = 28))) MM M') ∧ (¬ (hsOK (MM 7) (MM 1 14) (eG (cut MM)) (cut MM 1 4) (MM 5) ∧ MM 1 14 ≠ 0) → FrJ (fun k j => k = 9 ∨ (k = 1 ∧ (j = 0 ∨ j = 14 ∨ j = 15 ∨ j = 16 ∨ j = 17 ∨ j = 20))) MM M' ∧ M' 1 6 = MM 1 6)) (fun M' i l y n => ⟨rfl, i, l, y, n⟩)) ?_
  intro b MM1 fM hM
  obtain ⟨eb, iM, lM, yM, nM⟩ := hM
  have hF : FOLS MM1 := by
    by_cases c : hsOK (MM 7) (MM 1 14) (eG (cut MM)) (cut MM 1 4) (MM 5) ∧ MM 1 14 ≠ 0
    · obtain ⟨m0, m1, m2, m3, m4⟩ := yM c
      refine FOLS.new S m2 m3 (fun i => m4 29 i (by omega)) (fun i => m4 30 i (by omega)) ?_
      rw [m1]
      exact (fol_rdH (E := cut MM) (f := MM 7) (t := min (MM 1 14) 17) (g := eG (cut MM)) (a := 0) (n := 7) hR.f hR.E0 S.2.2.2.1 ⟨Int.le_refl _, by omega⟩).e (by rw [m4 1 5 (by omega), cut15])
    · exact hR.F.fr (fun k j h => (nM c).1 k j (by omega))
  refine ⟨by rw [ez, eb], hR.t iX iM (by omega) lX lM (fX 182 2 (by omega)) (fM 1 45 (by omega)) (fun j => ⟨fX 183 j (by omega), fX 184 j (by omega), fM 26 j (by omega), fM 27 j (by omega)⟩) hF ?_⟩
  by_cases c : hsOK (MM 7) (MM 1 14) (eG (cut MM)) (cut MM 1 4) (MM 5) ∧ MM 1 14 ≠ 0
  · obtain ⟨x0, x1, x2⟩ := yX c
    obtain ⟨m0, m1, m2, m3, m4⟩ := yM c
    have E0 := hR.E0
    have eb' := E0.2
    have b := rdH_b (f := MM 7) (t := min (MM 1 14) 17) (g := eG (cut MM)) 7 (cut MM 1 4) (MM 5) 0 ⟨Int.le_refl _, by omega⟩ eb'.1 (by omega)
    have b' : cut MM 1 4 < (hsT (MM 7) (MM 1 14) (eG (cut MM)) (cut MM 1 4) (MM 5)).2.2.1 ∧ (hsT (MM 7) (MM 1 14) (eG (cut MM)) (cut MM 1 4) (MM 5)).2.2.1 ≤ 6 := by
      rcases b.2 with q | q
      · exact absurd (c.1.1.symm.trans q) (by decide)
      · exact q.2
    have W := WR.rds (E := cut MM) (f := MM 7) (t := min (MM 1 14) 17) eb'.2.2 7 (cut MM 1 4) (MM 5) 0 (by rw [show up2 (cut MM) 1 4 (cut MM 1 4) = cut MM from up2_id _ _ _]; exact S.2.2.2.1) eb'.1 ⟨Int.le_refl _, by omega⟩ c.1.1
    refine (S.hearses (H' := (hsT (MM 7) (MM 1 14) (eG (cut MM)) (cut MM 1 4) (MM 5)).2.2.1) (r' := (hsT (MM 7) (MM 1 14) (eG (cut MM)) (cut MM 1 4) (MM 5)).2.2.2) E0 hR.1 b' x0 x1 x2 m1 m2 m3 m4 W).c ?_
    funext k j
    by_cases h4 : k = 1 ∧ j = 4
    · rw [h4.1, h4.2, cut14, up2_s]
      exact m0
    · have hu : up2 (cut MM) 1 4 (hsT (MM 7) (MM 1 14) (eG (cut MM)) (cut MM 1 4) (MM 5)).2.2.1 k j = cut MM k j := by
        rw [up2_a]
        by_cases c1 : k = 1
        · rw [if_pos c1, if_neg (fun q => h4 ⟨c1, q⟩)]
        · rw [if_neg c1]
      rw [hu]
      by_cases h : cE k j
      · rw [cut_p h, cut_p h]
        exact m4 k j (by omega)
      · unfold cut
        rw [if_neg h, if_neg h]
  · have x0 := nX c
    obtain ⟨m0, m6⟩ := nM c
    rw [cut_of (M0 := MM) (fun k j h => m0 k j (by omega))]
    exact S.fr hR.E0 hR.1 (fun k j q => x0 k j (by omega)) (fun k j q => m0 k j (by omega))
theorem Cl_mourners (k : Nat) (MX MM : Mem)  (hk : k < 512) (hMX : MR MX) (hMM : MR MM) (hR : Rel k MX MM) : qX11_mourners  MX (fun z MX1 => qX12_mourners  MM (fun b MM1 => z = b ∧ Rel (k + 1) MX1 MM1)) := by
  have S := hR.S
  have e := hR.2.2.1
  have bL := bm_c1_14.mp (hR.2.1.bx 1 14)
  have eT : msT (MX 157) (MX 156 1) (eG (cut MM)) (cut MM 1 4) (cut MM 1 5) (MM 5) (cut MM 3) = msT (MM 7) (MM 1 14) (eG (cut MM)) (cut MM 1 4) (cut MM 1 5) (MM 5) (cut MM 3) := by
    rw [e]
    exact rdM_cg (fun j p q => hR.2.2.2.2.1 j p (by omega)) 9 _ _ _ 0 (Int.le_refl _) (by omega)
  have eA : msA (MX 157) (MX 156 1) (eG (cut MM)) (cut MM 1 4) (cut MM 1 5) (MM 5) (cut MM 3) = msA (MM 7) (MM 1 14) (eG (cut MM)) (cut MM 1 4) (cut MM 1 5) (MM 5) (cut MM 3) := by
    unfold msA msOK
    rw [eT, e]
  refine fmX11_mourners (gX11_mourners (E := cut MM) (r := MM 5) hR.1 S.1 S.2.2.1 (Q := fun z M' => z = msA (MM 7) (MM 1 14) (eG (cut MM)) (cut MM 1 4) (cut MM 1 5) (MM 5) (cut MM 3) ∧ IX M' ∧ M' 156 1 = 0 ∧ (msOK (MM 7) (MM 1 14) (eG (cut MM)) (cut MM 1 4) (cut MM 1 5) (MM 5) (cut MM 3) ∧ MM 1 14 ≠ 0 → Ks (fun k j => (1 ≤ k ∧ k ≤ 14) ∨ k = 156 ∨ (k = 163 ∧ j = 2)) MX M' ∧ M' 163 2 = 0 ∧ SC (eM (cut MM) (msT (MM 7) (MM 1 14) (eG (cut MM)) (cut MM 1 4) (cut MM 1 5) (MM 5) (cut MM 3)).2.2.2.2 (msT (MM 7) (MM 1 14) (eG (cut MM)) (cut MM 1 4) (cut MM 1 5) (MM 5) (cut MM 3)).2.2.1) M' 1 (msT (MM 7) (MM 1 14) (eG (cut MM)) (cut MM 1 4) (cut MM 1 5) (MM 5) (cut MM 3)).2.2.2.1) ∧ (¬ (msOK (MM 7) (MM 1 14) (eG (cut MM)) (cut MM 1 4) (cut MM 1 5) (MM 5) (cut MM 3) ∧ MM 1 14 ≠ 0) → Ks (fun k j => (8 ≤ k ∧ k ≤ 14) ∨ k = 156) MX M')) (fun M' i l y n => by unfold msOK at y n; rw [eT, e] at y n; exact ⟨eA, i, l, y, n⟩)) ?_
  intro z MX1 fX hX
  obtain ⟨ez, iX, lX, yX, nX⟩ := hX
  refine fmX12_mourners (gX12_mourners (E := cut MM) hR.2.1 (cut_CE MM) (by omega) (Q := fun z M' => z = msA (MM 7) (MM 1 14) (eG (cut MM)) (cut MM 1 4) (cut MM 1 5) (MM 5) (cut MM 3) ∧ IM (60000 * (k : Int) + 1) M' ∧ M' 1 14 = 0 ∧ (msOK (MM 7) (MM 1 14) (eG (cut MM)) (cut MM 1 4) (cut MM 1 5) (MM 5) (cut MM 3) ∧ MM 1 14 ≠ 0 → M' 1 5 = (msT (MM 7) (MM 1 14) (eG (cut MM)) (cut MM 1 4) (cut MM 1 5) (MM 5) (cut MM 3)).2.2.1 ∧ M' 5 = (msT (MM 7) (MM 1 14) (eG (cut MM)) (cut MM 1 4) (cut MM 1 5) (MM 5) (cut MM 3)).2.2.2.1 ∧ M' 3 = (msT (MM 7) (MM 1 14) (eG (cut MM)) (cut MM 1 4) (cut MM 1 5) (MM 5) (cut MM 3)).2.2.2.2 ∧ M' 1 28 = 0 ∧ M' 1 6 = MM 1 6 + 1 ∧ FrJ (fun k j => k = 3 ∨ k = 5 ∨ k = 9 ∨ (k = 1 ∧ (j = 0 ∨ j = 5 ∨ j = 6 ∨ j = 14 ∨ j = 15 ∨ j = 16 ∨ j = 17 ∨ j = 20 ∨ j = 28))) MM M') ∧ (¬ (msOK (MM 7) (MM 1 14) (eG (cut MM)) (cut MM 1 4) (cut MM 1 5) (MM 5) (cut MM 3) ∧ MM 1 14 ≠ 0) → FrJ (fun k j => k = 9 ∨ (k = 1 ∧ (j = 0 ∨ j = 14 ∨ j = 15 ∨ j = 16 ∨ j = 17 ∨ j = 20))) MM M')) (fun M' i l y n => ⟨rfl, i, l, y, n⟩)) ?_
  intro b MM1 fM hM
  obtain ⟨eb, iM, lM, yM, nM⟩ := hM
  have hF : FOLS MM1 := by
    by_cases c : msOK (MM 7) (MM 1 14) (eG (cut MM)) (cut MM 1 4) (cut MM 1 5) (MM 5) (cut MM 3) ∧ MM 1 14 ≠ 0
    · obtain ⟨m0, m1, m1', m2, m3, m4⟩ := yM c
      refine FOLS.new S m2 m3 (fun i => m4 29 i (by omega)) (fun i => m4 30 i (by omega)) ?_
      rw [m1]
      exact fol_rdM (E := cut MM) (f := MM 7) (t := min (MM 1 14) 39) (g := eG (cut MM)) (H := cut MM 1 4) (a := 0) (n := 9) (w := cut MM 3) hR.f hR.E0 S.2.2.2.1 ⟨Int.le_refl _, by omega⟩ m0
    · exact hR.F.fr (fun k j h => nM c k j (by omega))
  refine ⟨by rw [ez, eb], hR.t iX iM (by omega) lX lM (fX 182 2 (by omega)) (fM 1 45 (by omega)) (fun j => ⟨fX 183 j (by omega), fX 184 j (by omega), fM 26 j (by omega), fM 27 j (by omega)⟩) hF ?_⟩
  by_cases c : msOK (MM 7) (MM 1 14) (eG (cut MM)) (cut MM 1 4) (cut MM 1 5) (MM 5) (cut MM 3) ∧ MM 1 14 ≠ 0
  · obtain ⟨x0, x1, x2⟩ := yX c
    obtain ⟨m0, m1, m1', m2, m3, m4⟩ := yM c
    have E0 := hR.E0
    have eb' := E0.2
    have b := rdM_b (f := MM 7) (t := min (MM 1 14) 39) (g := eG (cut MM)) (H := cut MM 1 4) 9 (cut MM 1 5) (MM 5) (cut MM 3) 0 ⟨Int.le_refl _, by omega⟩ eb'.2 (by omega)
    have b' : cut MM 1 5 < (msT (MM 7) (MM 1 14) (eG (cut MM)) (cut MM 1 4) (cut MM 1 5) (MM 5) (cut MM 3)).2.2.1 ∧ (msT (MM 7) (MM 1 14) (eG (cut MM)) (cut MM 1 4) (cut MM 1 5) (MM 5) (cut MM 3)).2.2.1 ≤ 8 := by
      rcases b.2 with q | q
      · exact absurd (c.1.1.symm.trans q) (by decide)
      · exact q.2
    have W := WR.rdm (E := cut MM) (f := MM 7) (t := min (MM 1 14) 39) eb'.1 9 (cut MM 1 5) (MM 5) (cut MM 3) 0 (by rw [eM_id]; exact S.2.2.2.1) hR.own eb'.2 ⟨Int.le_refl _, by omega⟩ c.1.1
    refine (S.mourners (m' := (msT (MM 7) (MM 1 14) (eG (cut MM)) (cut MM 1 4) (cut MM 1 5) (MM 5) (cut MM 3)).2.2.1) (r' := (msT (MM 7) (MM 1 14) (eG (cut MM)) (cut MM 1 4) (cut MM 1 5) (MM 5) (cut MM 3)).2.2.2.1) (w' := (msT (MM 7) (MM 1 14) (eG (cut MM)) (cut MM 1 4) (cut MM 1 5) (MM 5) (cut MM 3)).2.2.2.2) E0 hR.1 b' W.2 x0 x1 x2 m1 m2 m3 m4 W.1).c ?_
    funext k j
    by_cases h3 : k = 3
    · rw [h3, cut3]
      exact congrFun m1' j
    · rw [show eM (cut MM) (msT (MM 7) (MM 1 14) (eG (cut MM)) (cut MM 1 4) (cut MM 1 5) (MM 5) (cut MM 3)).2.2.2.2 (msT (MM 7) (MM 1 14) (eG (cut MM)) (cut MM 1 4) (cut MM 1 5) (MM 5) (cut MM 3)).2.2.1 k j = up2 (cut MM) 1 5 (msT (MM 7) (MM 1 14) (eG (cut MM)) (cut MM 1 4) (cut MM 1 5) (MM 5) (cut MM 3)).2.2.1 k j from by unfold eM; rw [if_neg h3]]
      by_cases h4 : k = 1 ∧ j = 5
      · rw [h4.1, h4.2, cut15, up2_s]
        exact m0
      · have hu : up2 (cut MM) 1 5 (msT (MM 7) (MM 1 14) (eG (cut MM)) (cut MM 1 4) (cut MM 1 5) (MM 5) (cut MM 3)).2.2.1 k j = cut MM k j := by
          rw [up2_a]
          by_cases c1 : k = 1
          · rw [if_pos c1, if_neg (fun q => h4 ⟨c1, q⟩)]
          · rw [if_neg c1]
        rw [hu]
        by_cases h : cE k j
        · rw [cut_p h, cut_p h]
          exact m4 k j (by omega)
        · unfold cut
          rw [if_neg h, if_neg h]
  · have x0 := nX c
    have m0 := nM c
    rw [cut_of (M0 := MM) (fun k j h => m0 k j (by omega))]
    exact S.fr hR.E0 hR.1 (fun k j q => x0 k j (by omega)) (fun k j q => m0 k j (by omega))
theorem Cl_weather (k : Nat) (MX MM : Mem)  (hk : k < 512) (hMX : MR MX) (hMM : MR MM) (hR : Rel k MX MM) : qX11_weather  MX (fun z MX1 => qX12_weather  MM (fun b MM1 => z = b ∧ Rel (k + 1) MX1 MM1)) := by
  refine fmX11_weather (gX11_weatherC hR.1 (Q := fun z M' => ∃ q, z = wvz (MX 156 1) q ∧ IX M' ∧ WV (MX 157) (MX 156 1) q ∧ M' 156 1 = 0 ∧ (q = MX 156 1 ∧ 1 ≤ q → Ks (fun k j => k = 156 ∨ k = 159 ∨ (k = 158 ∧ j = 3)) MX M' ∧ M' 158 3 = MX 156 1 ∧ ∀ i, 0 ≤ i → i < MX 156 1 → M' 159 i = MX 157 i - 48) ∧ (¬ (q = MX 156 1 ∧ 1 ≤ q) → Ks (fun k j => k = 156 ∧ j = 1) MX M')) (fun q M' i a l y n => ⟨q, rfl, i, a, l, y, n⟩)) ?_
  intro z MX1 fX hX
  obtain ⟨q, ez, iX, aX, lX, yX, nX⟩ := hX
  refine fmX12_weather (gX12_weatherC hR.2.1 (Q := fun z M' => ∃ q, z = wvz (MM 1 14) q ∧ IM (60000 * (k : Int)) M' ∧ WV (MM 7) (MM 1 14) q ∧ M' 1 14 = 0 ∧ (q = MM 1 14 ∧ 1 ≤ q → FrJ (fun k j => k = 4 ∨ k = 10 ∨ (k = 1 ∧ (j = 0 ∨ j = 7 ∨ j = 14 ∨ j = 15 ∨ j = 16 ∨ j = 17))) MM M' ∧ M' 1 7 = MM 1 14 ∧ ∀ i, 0 ≤ i → i < MM 1 14 → M' 4 i = MM 7 i - 48) ∧ (¬ (q = MM 1 14 ∧ 1 ≤ q) → FrJ (fun k j => k = 10 ∨ (k = 1 ∧ (j = 0 ∨ j = 14 ∨ j = 15 ∨ j = 16 ∨ j = 17))) MM M')) (fun q M' i a l y n => ⟨q, rfl, i, a, l, y, n⟩)) ?_
  intro b MM1 fM hM
  obtain ⟨q2, eb, iM, aM, lM, yM, nM⟩ := hM
  have e := hR.2.2.1
  rw [← e] at eb aM yM nM
  have eq := aX.uq aM hR.2.2.2.2.1
  subst eq
  have hF : FOLS MM1 := hR.F.fr (fun k j q => fM k j (by omega))
  refine ⟨by rw [ez, eb], hR.t iX iM (by omega) lX lM (fX 182 2 (by omega)) (fM 1 45 (by omega)) (fun j => ⟨fX 183 j (by omega), fX 184 j (by omega), fM 26 j (by omega), fM 27 j (by omega)⟩) hF ?_⟩
  by_cases c : q = MX 156 1 ∧ 1 ≤ q
  · obtain ⟨x0, x1, x2⟩ := yX c
    obtain ⟨m0, m1, m2⟩ := yM c
    have a20 := aX.1
    refine hR.S.weather hR.E0 hR.1 (len := MX 156 1) (f := MX 157) (by omega) (fun k j h1 h2 => ?_) (by rw [cut17]; exact m1) (fun i p q => ?_) x0 x1 x2 m0
    · by_cases h : cE k j
      · rw [cut_p h, cut_p h]
        exact m0 k j (by omega)
      · unfold cut
        rw [if_neg h, if_neg h]
    · rw [cut4, hR.2.2.2.2.1 i p q]
      exact m2 i p q
  · have x0 := nX c
    have m0 := nM c
    rw [cut_of (M0 := MM) (fun k j h => m0 k j (by omega))]
    exact hR.S.fr hR.E0 hR.1 (fun k j q => x0 k j (by omega)) (fun k j q => m0 k j (by omega))
theorem Cl_rule (k : Nat) (MX MM : Mem)  (hk : k < 512) (hMX : MR MX) (hMM : MR MM) (hR : Rel k MX MM) : qX11_rule  MX (fun z MX1 => qX12_rule  MM (fun b MM1 => z = b ∧ Rel (k + 1) MX1 MM1)) := by
  have S := hR.S
  have e := hR.2.2.1
  refine fmX11_rule (fzX11_rule (gX11_rule (f := MM 7) hR.1 hR.2.2.2.2.1 (Q := fun z M' => z = rly (MM 7) (MX 156 1) ∧ IX M' ∧ (rlz (MM 7) (MX 156 1) = -1 → ROl (M' 155 16).toNat M' (rlO (MM 7) (MX 156 1))) ∧ (rlz (MM 7) (MX 156 1) ≠ -1 → M' 155 16 = MX 155 16 ∧ ∀ (k : Nat) (j : Int), (MX 155 16).toNat ≤ k → k ≤ (MX 155 16).toNat + 2 → M' k j = MX k j)) (fun M' i y n => ⟨rfl, i, y, n⟩)) (Q' := fun z M' => M' 156 1 = 0 ∧ z = rly (MM 7) (MX 156 1) ∧ IX M' ∧ (rlz (MM 7) (MX 156 1) = -1 → ROl (M' 155 16).toNat M' (rlO (MM 7) (MX 156 1))) ∧ (rlz (MM 7) (MX 156 1) ≠ -1 → M' 155 16 = MX 155 16 ∧ ∀ (k : Nat) (j : Int), (MX 155 16).toNat ≤ k → k ≤ (MX 155 16).toNat + 2 → M' k j = MX k j)) (fun _ M' z h => ⟨z, h⟩)) ?_
  intro z MX1 fX hX
  obtain ⟨lX, ez, iX, yX, nX⟩ := hX
  refine fmX12_rule (fzX12_rule (gX12_rule (f := MM 7) hR.2.1 (fun _ _ _ => rfl) (Q := fun z M' => z = rly (MM 7) (MM 1 14) ∧ IM (60000 * (k : Int)) M' ∧ (rlz (MM 7) (MM 1 14) ≠ -1 → Ks kRu MM M') ∧ (rlz (MM 7) (MM 1 14) = -1 → Ks (fun k j => kRu k j ∨ k = 11 ∨ (k = 1 ∧ j = 24)) MM M' ∧ RUL M' (MM 7) (MM 1 14))) (fun M' i n y => ⟨rfl, i, n, y⟩)) (Q' := fun z M' => M' 1 14 = 0 ∧ z = rly (MM 7) (MM 1 14) ∧ IM (60000 * (k : Int)) M' ∧ (rlz (MM 7) (MM 1 14) ≠ -1 → Ks kRu MM M') ∧ (rlz (MM 7) (MM 1 14) = -1 → Ks (fun k j => kRu k j ∨ k = 11 ∨ (k = 1 ∧ j = 24)) MM M' ∧ RUL M' (MM 7) (MM 1 14))) (fun _ M' z h => ⟨z, h⟩)) ?_
  intro b MM1 fM hM
  obtain ⟨lM, eb, iM, nM, yM⟩ := hM
  rw [← e] at eb nM yM
  have hF : FOLS MM1 := hR.F.fr (fun k j q => fM k j (by omega))
  refine ⟨by rw [ez, eb], hR.t iX iM (by omega) lX lM (fX 182 2 (by omega)) (fM 1 45 (by omega)) (fun j => ⟨fX 183 j (by omega), fX 184 j (by omega), fM 26 j (by omega), fM 27 j (by omega)⟩) hF ?_⟩
  by_cases c : rlz (MM 7) (MX 156 1) = -1
  · have x0 := yX c
    obtain ⟨m0, m1⟩ := yM c
    refine S.rule hR.E0 hR.1 (fun k j h1 h2 => ?_) (fun k j h => fX k j (by omega)) ?_ (fun k j h => m0 k j (by omega))
    · by_cases h : cE k j
      · rw [cut_p h, cut_p h]
        exact m0 k j (by omega)
      · unfold cut
        rw [if_neg h, if_neg h]
    · exact m1.law (cut124 MM1) (cut11 MM1) x0
  · obtain ⟨x0, x1⟩ := nX c
    have m0 := nM c
    have ec : cut MM1 = cut MM := cut_of (fun k j h => m0 k j (by omega))
    rw [ec]
    refine S.rule hR.E0 hR.1 (fun _ _ _ _ => rfl) (fun k j h => fX k j (by omega)) ?_ (fun k j h => m0 k j (by omega))
    rw [x0]
    exact S.2.1.fr (x1 _ _ (by omega) (by omega)) (x1 _ _ (by omega) (by omega)) (fun j => x1 _ j (by omega) (by omega)) (fun j => x1 _ j (by omega) (by omega))
theorem Rk_hearse (k : Nat) (MX MM : Mem) (y1 y2 : Int) (hy1 : iR y1) (hy2 : iR y2) (hk : k < 512) (hMX : MR MX) (hMM : MR MM) (hR : Rel k MX MM) : qX11_hearse y1 y2 MX (fun z MX1 => qX12_hearse y1 y2 MM (fun b MM1 => Rel (k + 1) MX1 MM1)) (fun MX1 => qX12_hearse y1 y2 MM (fun b MM1 => Rel (k + 1) MX1 MM1)) := by
  refine fmX11_hearse (sX11_hearse (p1 := y1) (p2 := y2) hR.1 (Q := fun _ M' => IX M') (E := fun M' => IX M') (fun _ _ h => h) (fun _ h => h)) ?_ ?_
  · intro z MX1 fX hX
    refine fmX12_hearse (sX12_hearse (p1 := y1) (p2 := y2) hR.2.1 (Q := fun _ M' => IM (60000 * (k : Int)) M') (fun _ _ h => h)) ?_
    intro b MM1 fM hM
    exact hR.q hX hM (by omega) (fX 156 1 (by first | omega | exact fun h => h)) (fM 1 14 (by first | omega | exact fun h => h)) (fX 182 2 (by first | omega | exact fun h => h)) (fM 1 45 (by first | omega | exact fun h => h)) (fun j => fX 157 j (by first | omega | exact fun h => h)) (fun j => fM 7 j (by first | omega | exact fun h => h)) (fun j => ⟨fX 183 j (by first | omega | exact fun h => h), fX 184 j (by first | omega | exact fun h => h), fM 26 j (by first | omega | exact fun h => h), fM 27 j (by first | omega | exact fun h => h)⟩) (fun k j q => fX k j (by first | omega | exact fun h => h)) (fun k j q => fM k j (by first | omega | exact fun h => h))
  · intro MX1 fX hX
    refine fmX12_hearse (sX12_hearse (p1 := y1) (p2 := y2) hR.2.1 (Q := fun _ M' => IM (60000 * (k : Int)) M') (fun _ _ h => h)) ?_
    intro b MM1 fM hM
    exact hR.q hX hM (by omega) (fX 156 1 (by first | omega | exact fun h => h)) (fM 1 14 (by first | omega | exact fun h => h)) (fX 182 2 (by first | omega | exact fun h => h)) (fM 1 45 (by first | omega | exact fun h => h)) (fun j => fX 157 j (by first | omega | exact fun h => h)) (fun j => fM 7 j (by first | omega | exact fun h => h)) (fun j => ⟨fX 183 j (by first | omega | exact fun h => h), fX 184 j (by first | omega | exact fun h => h), fM 26 j (by first | omega | exact fun h => h), fM 27 j (by first | omega | exact fun h => h)⟩) (fun k j q => fX k j (by first | omega | exact fun h => h)) (fun k j q => fM k j (by first | omega | exact fun h => h))
theorem Rk_mourner (k : Nat) (MX MM : Mem) (y1 y2 : Int) (hy1 : iR y1) (hy2 : iR y2) (hk : k < 512) (hMX : MR MX) (hMM : MR MM) (hR : Rel k MX MM) : qX11_mourner y1 y2 MX (fun z MX1 => qX12_mourner y1 y2 MM (fun b MM1 => Rel (k + 1) MX1 MM1)) (fun MX1 => qX12_mourner y1 y2 MM (fun b MM1 => Rel (k + 1) MX1 MM1)) := by
  refine fmX11_mourner (sX11_mourner (p1 := y1) (p2 := y2) hR.1 (Q := fun _ M' => IX M') (E := fun M' => IX M') (fun _ _ h => h) (fun _ h => h)) ?_ ?_
  · intro z MX1 fX hX
    refine fmX12_mourner (sX12_mourner (p1 := y1) (p2 := y2) hR.2.1 (Q := fun _ M' => IM (60000 * (k : Int)) M') (fun _ _ h => h)) ?_
    intro b MM1 fM hM
    exact hR.q hX hM (by omega) (fX 156 1 (by first | omega | exact fun h => h)) (fM 1 14 (by first | omega | exact fun h => h)) (fX 182 2 (by first | omega | exact fun h => h)) (fM 1 45 (by first | omega | exact fun h => h)) (fun j => fX 157 j (by first | omega | exact fun h => h)) (fun j => fM 7 j (by first | omega | exact fun h => h)) (fun j => ⟨fX 183 j (by first | omega | exact fun h => h), fX 184 j (by first | omega | exact fun h => h), fM 26 j (by first | omega | exact fun h => h), fM 27 j (by first | omega | exact fun h => h)⟩) (fun k j q => fX k j (by first | omega | exact fun h => h)) (fun k j q => fM k j (by first | omega | exact fun h => h))
  · intro MX1 fX hX
    refine fmX12_mourner (sX12_mourner (p1 := y1) (p2 := y2) hR.2.1 (Q := fun _ M' => IM (60000 * (k : Int)) M') (fun _ _ h => h)) ?_
    intro b MM1 fM hM
    exact hR.q hX hM (by omega) (fX 156 1 (by first | omega | exact fun h => h)) (fM 1 14 (by first | omega | exact fun h => h)) (fX 182 2 (by first | omega | exact fun h => h)) (fM 1 45 (by first | omega | exact fun h => h)) (fun j => fX 157 j (by first | omega | exact fun h => h)) (fun j => fM 7 j (by first | omega | exact fun h => h)) (fun j => ⟨fX 183 j (by first | omega | exact fun h => h), fX 184 j (by first | omega | exact fun h => h), fM 26 j (by first | omega | exact fun h => h), fM 27 j (by first | omega | exact fun h => h)⟩) (fun k j q => fX k j (by first | omega | exact fun h => h)) (fun k j q => fM k j (by first | omega | exact fun h => h))
theorem Cl_sheet (k : Nat) (MX MM : Mem) (y1 y2 y3 y4 : Int) (hy1 : iR y1) (hy2 : iR y2) (hy3 : iR y3) (hy4 : iR y4) (hk : k < 512) (hMX : MR MX) (hMM : MR MM) (hR : Rel k MX MM) : qX11_sheet y1 y2 y3 y4 MX (fun z MX1 => qX12_sheet y1 y2 y3 y4 MM (fun b MM1 => z = b ∧ Rel (k + 1) MX1 MM1)) := by
  have S := hR.S
  refine fmX11_sheet (gX11_sheet (E := cut MM) (r := MM 5) (p1 := y1) (p2 := y2) (p3 := y3) (p4 := y4) hR.1 S.1 S.2.2.1 S.2.2.2.1 (Q := fun z M' => z = shA (cut MM) y1 y2 y3 y4 (MM 5) ∧ IX M' ∧ SC (cut MM) M' 1 (shRR (cut MM) y1 y2 y3 y4 (MM 5))) (fun M' i _ c => ⟨rfl, i, c⟩)) ?_
  intro z MX1 fX hX
  obtain ⟨ez, iX, cX⟩ := hX
  refine fmX12_sheet (gX12_sheet (E := cut MM) (p1 := y1) (p2 := y2) (p3 := y3) (p4 := y4) hR.2.1 (cut_CE MM) hR.E0 hy3 (Q := fun z M' => z = shA (cut MM) y1 y2 y3 y4 (MM 5) ∧ IM (60000 * (k : Int)) M' ∧ M' 5 = shRR (cut MM) y1 y2 y3 y4 (MM 5)) (fun M' i _ c => ⟨rfl, i, c⟩)) ?_
  intro b MM1 fM hM
  obtain ⟨eb, iM, cM⟩ := hM
  have hF : FOLS MM1 := hR.F.now (fun k j h => fM k j (by omega)) cM (fol_sh hR.f hR.E0 S.2.2.2.1)
  refine ⟨by rw [ez, eb], hR.s iX iM (by omega) (fX 156 1 (by omega)) (fM 1 14 (by omega)) (fX 182 2 (by omega)) (fM 1 45 (by omega)) (fun j => fX 157 j (by omega)) (fun j => fM 7 j (by omega)) (fun j => ⟨fX 183 j (by omega), fX 184 j (by omega), fM 26 j (by omega), fM 27 j (by omega)⟩) (fun k j q => fM k j (by omega)) hF ?_⟩
  exact S.now hR.E0 hR.1 (fun k j h => fX k j (by omega)) cX (fun k j h => fM k j (by omega)) cM (S.2.2.2.1.shAll hR.E0)
theorem Cl_steps (k : Nat) (MX MM : Mem) (y1 : Int) (hy1 : iR y1) (hk : k < 512) (hMX : MR MX) (hMM : MR MM) (hR : Rel k MX MM) : qX11_steps y1 MX (fun z MX1 => qX12_steps y1 MM (fun b MM1 => z = b ∧ Rel (k + 1) MX1 MM1)) := by
  have S := hR.S
  have r37 := hR.r37 hk
  refine fmX11_steps (gX11_steps (E := cut MM) (r := MM 5) (p1 := y1) hR.1 S.1 S.2.1 hR.W S.2.2.1 S.2.2.2.1 (by omega) (Q := fun z M' => IX M' ∧ (0 ≤ y1 ∧ y1 ≤ 60 → z = itF (cut MM) y1.toNat (MM 5) 12 ∧ WR (cut MM) (itF (cut MM) y1.toNat (MM 5)) ∧ CACT (cut MM) MX M' (MM 5) (itF (cut MM) y1.toNat (MM 5))) ∧ (¬ (0 ≤ y1 ∧ y1 ≤ 60) → z = -1 ∧ M' = MX)) (fun c M' i wr a => ⟨i, fun _ => ⟨rfl, wr, a⟩, fun n => absurd c n⟩) (fun n => ⟨hR.1, fun c => absurd c n, fun _ => ⟨rfl, rfl⟩⟩)) ?_
  intro z MX1 fX hX
  obtain ⟨iX, yX, nX⟩ := hX
  refine fmX12_steps (gX12_steps (E := cut MM) (p1 := y1) hR.2.1 (cut_CE MM) (by omega) (Q := fun z M' => IM (60000 * (k : Int) + 200) M' ∧ (0 ≤ y1 ∧ y1 ≤ 60 → z = itF (cut MM) y1.toNat (MM 5) 12 ∧ RACT MM M' (itF (cut MM) y1.toNat (MM 5))) ∧ (¬ (0 ≤ y1 ∧ y1 ≤ 60) → z = -1 ∧ RNOP MM M')) (fun c M' i a => ⟨i, fun _ => ⟨rfl, a⟩, fun n => absurd c n⟩) (fun n M' i a => ⟨i, fun c => absurd c n, fun _ => ⟨rfl, a⟩⟩)) ?_
  intro b MM1 fM hM
  obtain ⟨iM, yM, nM⟩ := hM
  by_cases c : 0 ≤ y1 ∧ y1 ≤ 60
  · obtain ⟨ez, wr, aX⟩ := yX c
    obtain ⟨eb, aM⟩ := yM c
    have hF : FOLS MM1 := hR.F.act S hR.E0 aM (fol_it hR.E0 S.2.2.2.1 hR.f _)
    refine ⟨by rw [ez, eb], hR.s iX iM (by omega) (fX 156 1 (by omega)) (fM 1 14 (by omega)) (fX 182 2 (by omega)) (fM 1 45 (by omega)) (fun j => fX 157 j (by omega)) (fun j => fM 7 j (by omega)) (fun j => ⟨fX 183 j (by omega), fX 184 j (by omega), fM 26 j (by omega), fM 27 j (by omega)⟩) (fun k j q => fM k j (by omega)) hF ?_⟩
    exact S.act hR.E0 hR.1 aX aM wr
  · obtain ⟨ez, aX⟩ := nX c
    obtain ⟨eb, aM⟩ := nM c
    have hF : FOLS MM1 := hR.F.nop S hR.E0 aM
    refine ⟨by rw [ez, eb], hR.s iX iM (by omega) (fX 156 1 (by omega)) (fM 1 14 (by omega)) (fX 182 2 (by omega)) (fM 1 45 (by omega)) (fun j => fX 157 j (by omega)) (fun j => fM 7 j (by omega)) (fun j => ⟨fX 183 j (by omega), fX 184 j (by omega), fM 26 j (by omega), fM 27 j (by omega)⟩) (fun k j q => fM k j (by omega)) hF ?_⟩
    refine S.nop hR.E0 hR.1 ?_ aM
    rw [aX]
    exact ⟨fun _ _ _ _ => rfl, S.2.2.1⟩
theorem Cl_turnsTo (k : Nat) (MX MM : Mem) (y1 : Int) (hy1 : iR y1) (hk : k < 512) (hMX : MR MX) (hMM : MR MM) (hR : Rel k MX MM) : qX11_turnsTo y1 MX (fun z MX1 => qX12_turnsTo y1 MM (fun b MM1 => z = b ∧ Rel (k + 1) MX1 MM1)) := by
  have S := hR.S
  refine fmX11_turnsTo (gX11_turnsTo (E := cut MM) (r := MM 5) (p1 := y1) hR.1 S.1 S.2.2.1 S.2.2.2.1 (Q := fun z M' => z = tnA (cut MM) (MM 5) y1 ∧ IX M' ∧ (isDn (tnA (cut MM) (MM 5) y1) → CACT (cut MM) MX M' (MM 5) (tnR (cut MM) (MM 5) y1)) ∧ (¬ isDn (tnA (cut MM) (MM 5) y1) → CNOP (cut MM) MX M' (MM 5))) (fun M' i a n => ⟨rfl, i, a, n⟩)) ?_
  intro z MX1 fX hX
  obtain ⟨ez, iX, aX, nX⟩ := hX
  refine fmX12_turnsTo (gX12_turnsTo (E := cut MM) (p1 := y1) hR.2.1 (cut_CE MM) (Q := fun z M' => z = tnA (cut MM) (MM 5) y1 ∧ IM (60000 * (k : Int)) M' ∧ (isDn (tnA (cut MM) (MM 5) y1) → RACT MM M' (tnR (cut MM) (MM 5) y1)) ∧ (¬ isDn (tnA (cut MM) (MM 5) y1) → RNOP MM M')) (fun M' i a n => ⟨rfl, i, a, n⟩)) ?_
  intro b MM1 fM hM
  obtain ⟨eb, iM, aM, nM⟩ := hM
  have hF : FOLS MM1 := by
    by_cases d : isDn (tnA (cut MM) (MM 5) y1)
    · exact hR.F.act S hR.E0 (aM d) (fol_tn hR.f hR.E0 S.2.2.2.1 hR.own)
    · exact hR.F.nop S hR.E0 (nM d)
  refine ⟨by rw [ez, eb], hR.s iX iM (by omega) (fX 156 1 (by omega)) (fM 1 14 (by omega)) (fX 182 2 (by omega)) (fM 1 45 (by omega)) (fun j => fX 157 j (by omega)) (fun j => fM 7 j (by omega)) (fun j => ⟨fX 183 j (by omega), fX 184 j (by omega), fM 26 j (by omega), fM 27 j (by omega)⟩) (fun k j q => fM k j (by omega)) hF ?_⟩
  by_cases d : isDn (tnA (cut MM) (MM 5) y1)
  · exact S.act hR.E0 hR.1 (aX d) (aM d) (S.2.2.2.1.tn hR.E0 hR.own)
  · exact S.nop hR.E0 hR.1 (nX d) (nM d)
theorem Cl_pushes (k : Nat) (MX MM : Mem) (y1 y2 : Int) (hy1 : iR y1) (hy2 : iR y2) (hk : k < 512) (hMX : MR MX) (hMM : MR MM) (hR : Rel k MX MM) : qX11_pushes y1 y2 MX (fun z MX1 => qX12_pushes y1 y2 MM (fun b MM1 => z = b ∧ Rel (k + 1) MX1 MM1)) := by
  have S := hR.S
  refine fmX11_pushes (gX11_pushes (E := cut MM) (r := MM 5) (p1 := y1) (p2 := y2) hR.1 S.1 S.2.2.1 S.2.2.2.1 (Q := fun z M' => z = psA (cut MM) (MM 5) y1 y2 ∧ IX M' ∧ (isDn (psA (cut MM) (MM 5) y1 y2) → CACT (cut MM) MX M' (MM 5) (psR (cut MM) (MM 5) y1 y2)) ∧ (¬ isDn (psA (cut MM) (MM 5) y1 y2) → CNOP (cut MM) MX M' (MM 5))) (fun M' i a n => ⟨rfl, i, a, n⟩)) ?_
  intro z MX1 fX hX
  obtain ⟨ez, iX, aX, nX⟩ := hX
  refine fmX12_pushes (gX12_pushes (E := cut MM) (p1 := y1) (p2 := y2) hR.2.1 (cut_CE MM) (Q := fun z M' => z = psA (cut MM) (MM 5) y1 y2 ∧ IM (60000 * (k : Int)) M' ∧ (isDn (psA (cut MM) (MM 5) y1 y2) → RACT MM M' (psR (cut MM) (MM 5) y1 y2)) ∧ (¬ isDn (psA (cut MM) (MM 5) y1 y2) → RNOP MM M')) (fun M' i a n => ⟨rfl, i, a, n⟩)) ?_
  intro b MM1 fM hM
  obtain ⟨eb, iM, aM, nM⟩ := hM
  have hF : FOLS MM1 := by
    by_cases d : isDn (psA (cut MM) (MM 5) y1 y2)
    · exact hR.F.act S hR.E0 (aM d) (fol_ps hR.f hR.E0 S.2.2.2.1)
    · exact hR.F.nop S hR.E0 (nM d)
  refine ⟨by rw [ez, eb], hR.s iX iM (by omega) (fX 156 1 (by omega)) (fM 1 14 (by omega)) (fX 182 2 (by omega)) (fM 1 45 (by omega)) (fun j => fX 157 j (by omega)) (fun j => fM 7 j (by omega)) (fun j => ⟨fX 183 j (by omega), fX 184 j (by omega), fM 26 j (by omega), fM 27 j (by omega)⟩) (fun k j q => fM k j (by omega)) hF ?_⟩
  by_cases d : isDn (psA (cut MM) (MM 5) y1 y2)
  · exact S.act hR.E0 hR.1 (aX d) (aM d) (S.2.2.2.1.ps hR.E0)
  · exact S.nop hR.E0 hR.1 (nX d) (nM d)
theorem Cl_swaps (k : Nat) (MX MM : Mem) (y1 y2 : Int) (hy1 : iR y1) (hy2 : iR y2) (hk : k < 512) (hMX : MR MX) (hMM : MR MM) (hR : Rel k MX MM) : qX11_swaps y1 y2 MX (fun z MX1 => qX12_swaps y1 y2 MM (fun b MM1 => z = b ∧ Rel (k + 1) MX1 MM1)) := by
  have S := hR.S
  refine fmX11_swaps (gX11_swaps (E := cut MM) (r := MM 5) (p1 := y1) (p2 := y2) hR.1 S.1 S.2.2.1 S.2.2.2.1 (Q := fun z M' => z = swA (cut MM) (MM 5) y1 y2 ∧ IX M' ∧ (isDn (swA (cut MM) (MM 5) y1 y2) → CACT (cut MM) MX M' (MM 5) (swR (cut MM) (MM 5) y1 y2)) ∧ (¬ isDn (swA (cut MM) (MM 5) y1 y2) → CNOP (cut MM) MX M' (MM 5))) (fun M' i a n => ⟨rfl, i, a, n⟩)) ?_
  intro z MX1 fX hX
  obtain ⟨ez, iX, aX, nX⟩ := hX
  refine fmX12_swaps (gX12_swaps (E := cut MM) (p1 := y1) (p2 := y2) hR.2.1 (cut_CE MM) (Q := fun z M' => z = swA (cut MM) (MM 5) y1 y2 ∧ IM (60000 * (k : Int)) M' ∧ (isDn (swA (cut MM) (MM 5) y1 y2) → RACT MM M' (swR (cut MM) (MM 5) y1 y2)) ∧ (¬ isDn (swA (cut MM) (MM 5) y1 y2) → RNOP MM M')) (fun M' i a n => ⟨rfl, i, a, n⟩)) ?_
  intro b MM1 fM hM
  obtain ⟨eb, iM, aM, nM⟩ := hM
  have hF : FOLS MM1 := by
    by_cases d : isDn (swA (cut MM) (MM 5) y1 y2)
    · exact hR.F.act S hR.E0 (aM d) (fol_sw hR.f hR.E0)
    · exact hR.F.nop S hR.E0 (nM d)
  refine ⟨by rw [ez, eb], hR.s iX iM (by omega) (fX 156 1 (by omega)) (fM 1 14 (by omega)) (fX 182 2 (by omega)) (fM 1 45 (by omega)) (fun j => fX 157 j (by omega)) (fun j => fM 7 j (by omega)) (fun j => ⟨fX 183 j (by omega), fX 184 j (by omega), fM 26 j (by omega), fM 27 j (by omega)⟩) (fun k j q => fM k j (by omega)) hF ?_⟩
  by_cases d : isDn (swA (cut MM) (MM 5) y1 y2)
  · exact S.act hR.E0 hR.1 (aX d) (aM d) (S.2.2.2.1.sw hR.E0)
  · exact S.nop hR.E0 hR.1 (nX d) (nM d)
theorem Cl_hour (k : Nat) (MX MM : Mem)  (hk : k < 512) (hMX : MR MX) (hMM : MR MM) (hR : Rel k MX MM) : qX11_hour  MX (fun z MX1 => qX12_hour  MM (fun b MM1 => z = b ∧ Rel (k + 1) MX1 MM1)) := by
  have S := hR.S
  have r37 := hR.r37 hk
  have e := hR.2.2.1
  have eZ : hfz (MX 157) (MX 156 1) = hfz (MM 7) (MM 1 14) := by
    rw [e]
    exact hfz_cg (fun j p q => hR.2.2.2.2.1 j p (by omega))
  have eG' : hGO (cut MM) (MX 157) (MX 156 1) (MM 5) = (hGO (cut MM) (MM 7) (MM 1 14) (MM 5)) := by
    rw [e]
    exact hGO_cg (fun j p q => hR.2.2.2.2.1 j p (by omega))
  refine fmX11_hour (fzX11_hour (gX11_hour (E := cut MM) (r := MM 5) hR.1 S.1 S.2.1 hR.W S.2.2.1 S.2.2.2.1 r37 (Q := fun z M' => IX M' ∧ (hfz (MM 7) (MM 1 14) = -1 → z = (hGO (cut MM) (MM 7) (MM 1 14) (MM 5)).1 ∧ WR (cut MM) (hGO (cut MM) (MM 7) (MM 1 14) (MM 5)).2.2 ∧ (0 < (hGO (cut MM) (MM 7) (MM 1 14) (MM 5)).1 → CACT (cut MM) MX M' (MM 5) (hGO (cut MM) (MM 7) (MM 1 14) (MM 5)).2.2) ∧ (¬ 0 < (hGO (cut MM) (MM 7) (MM 1 14) (MM 5)).1 → CNOP (cut MM) MX M' (MM 5))) ∧ (hfz (MM 7) (MM 1 14) ≠ -1 → z = -1 - hfz (MM 7) (MM 1 14) ∧ CNOP (cut MM) MX M' (MM 5))) (fun c M' i wr a n => by rw [eZ] at c; rw [eG'] at wr a n ⊢; exact ⟨i, fun _ => ⟨rfl, wr, a, n⟩, fun q => absurd c q⟩) (fun c M' i n => by rw [eZ] at c ⊢; exact ⟨i, fun q => absurd q c, fun _ => ⟨rfl, n⟩⟩)) (Q' := fun z M' => M' 156 1 = 0 ∧ IX M' ∧ (hfz (MM 7) (MM 1 14) = -1 → z = (hGO (cut MM) (MM 7) (MM 1 14) (MM 5)).1 ∧ WR (cut MM) (hGO (cut MM) (MM 7) (MM 1 14) (MM 5)).2.2 ∧ (0 < (hGO (cut MM) (MM 7) (MM 1 14) (MM 5)).1 → CACT (cut MM) MX M' (MM 5) (hGO (cut MM) (MM 7) (MM 1 14) (MM 5)).2.2) ∧ (¬ 0 < (hGO (cut MM) (MM 7) (MM 1 14) (MM 5)).1 → CNOP (cut MM) MX M' (MM 5))) ∧ (hfz (MM 7) (MM 1 14) ≠ -1 → z = -1 - hfz (MM 7) (MM 1 14) ∧ CNOP (cut MM) MX M' (MM 5))) (fun _ M' z h => ⟨z, h⟩)) ?_
  intro z MX1 fX hX
  obtain ⟨lX, iX, yX, nX⟩ := hX
  refine fmX12_hour (fzX12_hour (gX12_hour (E := cut MM) hR.2.1 (cut_CE MM) hR.E0 S.2.2.2.1 hR.own (by omega) (Q := fun z M' => IM (60000 * (k : Int) + 300) M' ∧ (hfz (MM 7) (MM 1 14) = -1 → z = (hGO (cut MM) (MM 7) (MM 1 14) (MM 5)).1 ∧ (0 < (hGO (cut MM) (MM 7) (MM 1 14) (MM 5)).1 → RACT MM M' (hGO (cut MM) (MM 7) (MM 1 14) (MM 5)).2.2) ∧ (¬ 0 < (hGO (cut MM) (MM 7) (MM 1 14) (MM 5)).1 → RNOP MM M')) ∧ (hfz (MM 7) (MM 1 14) ≠ -1 → z = -1 - hfz (MM 7) (MM 1 14) ∧ RNOP MM M')) (fun c M' i a n => ⟨i, fun _ => ⟨rfl, a, n⟩, fun q => absurd c q⟩) (fun c M' i n => ⟨i, fun q => absurd q c, fun _ => ⟨rfl, n⟩⟩)) (Q' := fun z M' => M' 1 14 = 0 ∧ IM (60000 * (k : Int) + 300) M' ∧ (hfz (MM 7) (MM 1 14) = -1 → z = (hGO (cut MM) (MM 7) (MM 1 14) (MM 5)).1 ∧ (0 < (hGO (cut MM) (MM 7) (MM 1 14) (MM 5)).1 → RACT MM M' (hGO (cut MM) (MM 7) (MM 1 14) (MM 5)).2.2) ∧ (¬ 0 < (hGO (cut MM) (MM 7) (MM 1 14) (MM 5)).1 → RNOP MM M')) ∧ (hfz (MM 7) (MM 1 14) ≠ -1 → z = -1 - hfz (MM 7) (MM 1 14) ∧ RNOP MM M')) (fun _ M' z h => ⟨z, h⟩)) ?_
  intro b MM1 fM hM
  obtain ⟨lM, iM, yM, nM⟩ := hM
  have ec : cut MM1 = cut MM := cut_of (fun k j h => fM k j (by omega))
  have fin : z = b → FOLS MM1 → STA (cut MM) MX1 MM1 → z = b ∧ Rel (k + 1) MX1 MM1 := fun q hF s => ⟨q, hR.t iX iM (by omega) lX lM (fX 182 2 (by omega)) (fM 1 45 (by omega)) (fun j => ⟨fX 183 j (by omega), fX 184 j (by omega), fM 26 j (by omega), fM 27 j (by omega)⟩) hF (by rw [ec]; exact s)⟩
  by_cases c : hfz (MM 7) (MM 1 14) = -1
  · obtain ⟨ez, wr, aX, oX⟩ := yX c
    obtain ⟨eb, aM, oM⟩ := yM c
    by_cases d : 0 < (hGO (cut MM) (MM 7) (MM 1 14) (MM 5)).1
    · exact fin (by rw [ez, eb]) (hR.F.act S hR.E0 (aM d) (fol_hr hR.E0 hR.own _ _ _ hR.f S.2.2.2.1)) (S.act hR.E0 hR.1 (aX d) (aM d) wr)
    · exact fin (by rw [ez, eb]) (hR.F.nop S hR.E0 (oM d)) (S.nop hR.E0 hR.1 (oX d) (oM d))
  · obtain ⟨ez, aX⟩ := nX c
    obtain ⟨eb, aM⟩ := nM c
    exact fin (by rw [ez, eb]) (hR.F.nop S hR.E0 aM) (S.nop hR.E0 hR.1 aX aM)
theorem Cl_undo (k : Nat) (MX MM : Mem)  (hk : k < 512) (hMX : MR MX) (hMM : MR MM) (hR : Rel k MX MM) : qX11_undo  MX (fun z MX1 => qX12_undo  MM (fun b MM1 => z = b ∧ Rel (k + 1) MX1 MM1)) := by
  have S := hR.S
  have eh : MX 163 2 = MM 1 28 := S.2.2.2.2.1.1
  refine fmX11_undo (gX11_undo hR.1 (Q := fun z M' => IX M' ∧ Ks (fun k j => (1 ≤ k ∧ k ≤ 7) ∨ (k = 163 ∧ j = 2)) MX M' ∧ (MX 163 2 = 0 ∧ z = -1 ∧ M' = MX ∨ 0 < MX 163 2 ∧ z = MX 163 2 - 1 ∧ M' 163 2 = MX 163 2 - 1 ∧ ∀ (E : Mem) (r : Int → Int), SC E MX (50 + 7 * ((MX 163 1 + (MX 163 2 - 1)) % 15).toNat) r → SC E M' 1 r)) (fun z M' i kx h => ⟨i, kx, h⟩)) ?_
  intro z MX1 fX hX
  obtain ⟨iX, kX, gX⟩ := hX
  refine fmX12_undo (gX12_undo hR.2.1 (Q := fun z M' => IM (60000 * (k : Int)) M' ∧ FrJ (fun k j => k = 5 ∨ (k = 1 ∧ (j = 0 ∨ j = 28))) MM M' ∧ (MM 1 28 = 0 ∧ z = -1 ∧ M' 1 28 = 0 ∧ (∀ j, M' 5 j = MM 5 j) ∨ 0 < MM 1 28 ∧ z = MM 1 28 - 1 ∧ M' 1 28 = MM 1 28 - 1 ∧ ∀ j, 0 ≤ j → j < 38 → M' 5 j = MM 15 (38 * (MM 1 28 - 1) + j))) (fun z M' i kx h => ⟨i, kx, h⟩)) ?_
  intro b MM1 fM hM
  obtain ⟨iM, kM, gM⟩ := hM
  rcases gX with ⟨x0, x1, x2⟩ | ⟨x0, x1, x2, x3⟩
  · rcases gM with ⟨m0, m1, m2, m3⟩ | ⟨m0, m1, m2, m3⟩
    · have hF : FOLS MM1 := hR.F.fr (fun k j q => by
        by_cases c5 : k = 5
        · rw [c5]; exact m3 j
        · by_cases c28 : k = 1 ∧ j = 28
          · rw [c28.1, c28.2, m2, m0]
          · exact kM k j (by omega))
      refine ⟨by rw [x1, m1], hR.s iX iM (by omega) (fX 156 1 (by omega)) (fM 1 14 (by omega)) (fX 182 2 (by omega)) (fM 1 45 (by omega)) (fun j => fX 157 j (by omega)) (fun j => fM 7 j (by omega)) (fun j => ⟨fX 183 j (by omega), fX 184 j (by omega), fM 26 j (by omega), fM 27 j (by omega)⟩) (fun k j q => fM k j (by omega)) hF ?_⟩
      refine S.fr hR.E0 hR.1 (fun k j q => by rw [x2]) (fun k j q => ?_)
      by_cases c5 : k = 5
      · rw [c5]; exact m3 j
      · by_cases c28 : k = 1 ∧ j = 28
        · rw [c28.1, c28.2, m2, m0]
        · exact kM k j (by omega)
    · omega
  · rcases gM with ⟨m0, m1, m2, m3⟩ | ⟨m0, m1, m2, m3⟩
    · omega
    · have hF : FOLS MM1 := hR.F.undo S hR.E0 m0 kM m2 m3
      refine ⟨by omega, hR.s iX iM (by omega) (fX 156 1 (by omega)) (fM 1 14 (by omega)) (fX 182 2 (by omega)) (fM 1 45 (by omega)) (fun j => fX 157 j (by omega)) (fun j => fM 7 j (by omega)) (fun j => ⟨fX 183 j (by omega), fX 184 j (by omega), fM 26 j (by omega), fM 27 j (by omega)⟩) (fun k j q => fM k j (by omega)) hF ?_⟩
      exact S.undo hR.E0 hR.1 m0 kX x2 x3 kM m2 m3
theorem Rk_line (k : Nat) (MX MM : Mem)  (hk : k < 512) (hMX : MR MX) (hMM : MR MM) (hR : Rel k MX MM) : qX11_line  MX (fun z MX1 => qX12_line  MM (fun b MM1 => Rel (k + 1) MX1 MM1)) := by
  refine fmX11_line (sX11_line  hR.1 (Q := fun _ M' => IX M') (fun _ _ h => h)) ?_
  intro z MX1 fX hX
  refine fmX12_line (sX12_line  hR.2.1 (Q := fun _ M' => IM (60000 * (k : Int)) M') (fun _ _ h => h)) ?_
  intro b MM1 fM hM
  exact hR.q hX hM (by omega) (fX 156 1 (by first | omega | exact fun h => h)) (fM 1 14 (by first | omega | exact fun h => h)) (fX 182 2 (by first | omega | exact fun h => h)) (fM 1 45 (by first | omega | exact fun h => h)) (fun j => fX 157 j (by first | omega | exact fun h => h)) (fun j => fM 7 j (by first | omega | exact fun h => h)) (fun j => ⟨fX 183 j (by first | omega | exact fun h => h), fX 184 j (by first | omega | exact fun h => h), fM 26 j (by first | omega | exact fun h => h), fM 27 j (by first | omega | exact fun h => h)⟩) (fun k j q => fX k j (by first | omega | exact fun h => h)) (fun k j q => fM k j (by first | omega | exact fun h => h))
theorem Rk_ahead (k : Nat) (MX MM : Mem) (y1 : Int) (hy1 : iR y1) (hk : k < 512) (hMX : MR MX) (hMM : MR MM) (hR : Rel k MX MM) : qX11_ahead y1 MX (fun z MX1 => qX12_ahead y1 MM (fun b MM1 => Rel (k + 1) MX1 MM1)) := by
  refine fmX11_ahead (sX11_ahead (p1 := y1) hR.1 (Q := fun _ M' => IX M') (fun _ _ h => h)) ?_
  intro z MX1 fX hX
  refine fmX12_ahead (sX12_ahead (p1 := y1) hR.2.1 (by omega) (Q := fun _ M' => IM (60000 * (k : Int) + 200) M') (fun _ _ h => h)) ?_
  intro b MM1 fM hM
  exact hR.q hX hM (by omega) (fX 156 1 (by first | omega | exact fun h => h)) (fM 1 14 (by first | omega | exact fun h => h)) (fX 182 2 (by first | omega | exact fun h => h)) (fM 1 45 (by first | omega | exact fun h => h)) (fun j => fX 157 j (by first | omega | exact fun h => h)) (fun j => fM 7 j (by first | omega | exact fun h => h)) (fun j => ⟨fX 183 j (by first | omega | exact fun h => h), fX 184 j (by first | omega | exact fun h => h), fM 26 j (by first | omega | exact fun h => h), fM 27 j (by first | omega | exact fun h => h)⟩) (fun k j q => fX k j (by first | omega | exact fun h => h)) (fun k j q => fM k j (by first | omega | exact fun h => h))
theorem Rk_arrives (k : Nat) (MX MM : Mem) (y1 : Int) (hy1 : iR y1) (hk : k < 512) (hMX : MR MX) (hMM : MR MM) (hR : Rel k MX MM) : qX11_arrives y1 MX (fun z MX1 => qX12_arrives y1 MM (fun b MM1 => Rel (k + 1) MX1 MM1)) := by
  refine fmX11_arrives (sX11_arrives (p1 := y1) hR.1 (Q := fun _ M' => IX M') (fun _ _ h => h)) ?_
  intro z MX1 fX hX
  refine fmX12_arrives (sX12_arrives (p1 := y1) hR.2.1 (by omega) (Q := fun _ M' => IM (60000 * (k : Int) + 201) M') (fun _ _ h => h)) ?_
  intro b MM1 fM hM
  exact hR.q hX hM (by omega) (fX 156 1 (by first | omega | exact fun h => h)) (fM 1 14 (by first | omega | exact fun h => h)) (fX 182 2 (by first | omega | exact fun h => h)) (fM 1 45 (by first | omega | exact fun h => h)) (fun j => fX 157 j (by first | omega | exact fun h => h)) (fun j => fM 7 j (by first | omega | exact fun h => h)) (fun j => ⟨fX 183 j (by first | omega | exact fun h => h), fX 184 j (by first | omega | exact fun h => h), fM 26 j (by first | omega | exact fun h => h), fM 27 j (by first | omega | exact fun h => h)⟩) (fun k j q => fX k j (by first | omega | exact fun h => h)) (fun k j q => fM k j (by first | omega | exact fun h => h))
theorem Rk_jam (k : Nat) (MX MM : Mem) (y1 : Int) (hy1 : iR y1) (hk : k < 512) (hMX : MR MX) (hMM : MR MM) (hR : Rel k MX MM) : qX11_jam y1 MX (fun z MX1 => qX12_jam y1 MM (fun b MM1 => Rel (k + 1) MX1 MM1)) := by
  refine fmX11_jam (sX11_jam (p1 := y1) hR.1 (Q := fun _ M' => IX M') (fun _ _ h => h)) ?_
  intro z MX1 fX hX
  refine fmX12_jam (sX12_jam (p1 := y1) hR.2.1 (by omega) (Q := fun _ M' => IM (60000 * (k : Int) + 200) M') (fun _ _ h => h)) ?_
  intro b MM1 fM hM
  exact hR.q hX hM (by omega) (fX 156 1 (by first | omega | exact fun h => h)) (fM 1 14 (by first | omega | exact fun h => h)) (fX 182 2 (by first | omega | exact fun h => h)) (fM 1 45 (by first | omega | exact fun h => h)) (fun j => fX 157 j (by first | omega | exact fun h => h)) (fun j => fM 7 j (by first | omega | exact fun h => h)) (fun j => ⟨fX 183 j (by first | omega | exact fun h => h), fX 184 j (by first | omega | exact fun h => h), fM 26 j (by first | omega | exact fun h => h), fM 27 j (by first | omega | exact fun h => h)⟩) (fun k j q => fX k j (by first | omega | exact fun h => h)) (fun k j q => fM k j (by first | omega | exact fun h => h))
theorem Rk_passes (k : Nat) (MX MM : Mem) (y1 y2 : Int) (hy1 : iR y1) (hy2 : iR y2) (hk : k < 512) (hMX : MR MX) (hMM : MR MM) (hR : Rel k MX MM) : qX11_passes y1 y2 MX (fun z MX1 => qX12_passes y1 y2 MM (fun b MM1 => Rel (k + 1) MX1 MM1)) := by
  refine fmX11_passes (sX11_passes (p1 := y1) (p2 := y2) hR.1 (Q := fun _ M' => IX M') (fun _ _ h => h)) ?_
  intro z MX1 fX hX
  refine fmX12_passes (sX12_passes (p1 := y1) (p2 := y2) hR.2.1 (by omega) (Q := fun _ M' => IM (60000 * (k : Int) + 62) M') (fun _ _ h => h)) ?_
  intro b MM1 fM hM
  exact hR.q hX hM (by omega) (fX 156 1 (by first | omega | exact fun h => h)) (fM 1 14 (by first | omega | exact fun h => h)) (fX 182 2 (by first | omega | exact fun h => h)) (fM 1 45 (by first | omega | exact fun h => h)) (fun j => fX 157 j (by first | omega | exact fun h => h)) (fun j => fM 7 j (by first | omega | exact fun h => h)) (fun j => ⟨fX 183 j (by first | omega | exact fun h => h), fX 184 j (by first | omega | exact fun h => h), fM 26 j (by first | omega | exact fun h => h), fM 27 j (by first | omega | exact fun h => h)⟩) (fun k j q => fX k j (by first | omega | exact fun h => h)) (fun k j q => fM k j (by first | omega | exact fun h => h))
theorem Rk_ends (k : Nat) (MX MM : Mem) (y1 : Int) (hy1 : iR y1) (hk : k < 512) (hMX : MR MX) (hMM : MR MM) (hR : Rel k MX MM) : qX11_ends y1 MX (fun z MX1 => qX12_ends y1 MM (fun b MM1 => Rel (k + 1) MX1 MM1)) := by
  refine fmX11_ends (sX11_ends (p1 := y1) hR.1 (Q := fun _ M' => IX M') (fun _ _ h => h)) ?_
  intro z MX1 fX hX
  refine fmX12_ends (sX12_ends (p1 := y1) hR.2.1 (by omega) (Q := fun _ M' => IM (60000 * (k : Int) + 402) M') (fun _ _ h => h)) ?_
  intro b MM1 fM hM
  exact hR.q hX hM (by omega) (fX 156 1 (by first | omega | exact fun h => h)) (fM 1 14 (by first | omega | exact fun h => h)) (fX 182 2 (by first | omega | exact fun h => h)) (fM 1 45 (by first | omega | exact fun h => h)) (fun j => fX 157 j (by first | omega | exact fun h => h)) (fun j => fM 7 j (by first | omega | exact fun h => h)) (fun j => ⟨fX 183 j (by first | omega | exact fun h => h), fX 184 j (by first | omega | exact fun h => h), fM 26 j (by first | omega | exact fun h => h), fM 27 j (by first | omega | exact fun h => h)⟩) (fun k j q => fX k j (by first | omega | exact fun h => h)) (fun k j q => fM k j (by first | omega | exact fun h => h))
theorem Rk_right (k : Nat) (MX MM : Mem)  (hk : k < 512) (hMX : MR MX) (hMM : MR MM) (hR : Rel k MX MM) : qX11_right  MX (fun z MX1 => qX12_right  MM (fun b MM1 => Rel (k + 1) MX1 MM1)) := by
  refine fmX11_right (sX11_right  hR.1 (Q := fun _ M' => IX M') (fun _ _ h => h)) ?_
  intro z MX1 fX hX
  refine fmX12_right (sX12_right  hR.2.1 (by omega) (Q := fun _ M' => IM (60000 * (k : Int) + 200) M') (fun _ _ h => h)) ?_
  intro b MM1 fM hM
  exact hR.q hX hM (by omega) (fX 156 1 (by first | omega | exact fun h => h)) (fM 1 14 (by first | omega | exact fun h => h)) (fX 182 2 (by first | omega | exact fun h => h)) (fM 1 45 (by first | omega | exact fun h => h)) (fun j => fX 157 j (by first | omega | exact fun h => h)) (fun j => fM 7 j (by first | omega | exact fun h => h)) (fun j => ⟨fX 183 j (by first | omega | exact fun h => h), fX 184 j (by first | omega | exact fun h => h), fM 26 j (by first | omega | exact fun h => h), fM 27 j (by first | omega | exact fun h => h)⟩) (fun k j q => fX k j (by first | omega | exact fun h => h)) (fun k j q => fM k j (by first | omega | exact fun h => h))
theorem Rk_order (k : Nat) (MX MM : Mem)  (hk : k < 512) (hMX : MR MX) (hMM : MR MM) (hR : Rel k MX MM) : qX11_order  MX (fun z MX1 => qX12_order  MM (fun b MM1 => Rel (k + 1) MX1 MM1)) := by
  refine fmX11_order (sX11_order  hR.1 (Q := fun _ M' => IX M') (fun _ _ h => h)) ?_
  intro z MX1 fX hX
  refine fmX12_order (sX12_order  hR.2.1 (by omega) (Q := fun _ M' => IM (60000 * (k : Int) + 200) M') (fun _ _ h => h)) ?_
  intro b MM1 fM hM
  exact hR.q hX hM (by omega) (fX 156 1 (by first | omega | exact fun h => h)) (fM 1 14 (by first | omega | exact fun h => h)) (fX 182 2 (by first | omega | exact fun h => h)) (fM 1 45 (by first | omega | exact fun h => h)) (fun j => fX 157 j (by first | omega | exact fun h => h)) (fun j => fM 7 j (by first | omega | exact fun h => h)) (fun j => ⟨fX 183 j (by first | omega | exact fun h => h), fX 184 j (by first | omega | exact fun h => h), fM 26 j (by first | omega | exact fun h => h), fM 27 j (by first | omega | exact fun h => h)⟩) (fun k j q => fX k j (by first | omega | exact fun h => h)) (fun k j q => fM k j (by first | omega | exact fun h => h))
theorem Rk_stands (k : Nat) (MX MM : Mem) (y1 : Int) (hy1 : iR y1) (hk : k < 512) (hMX : MR MX) (hMM : MR MM) (hR : Rel k MX MM) : qX11_stands y1 MX (fun z MX1 => qX12_stands y1 MM (fun b MM1 => Rel (k + 1) MX1 MM1)) := by
  refine fmX11_stands (sX11_stands (p1 := y1) hR.1 (Q := fun _ M' => IX M') (fun _ _ h => h)) ?_
  intro z MX1 fX hX
  refine fmX12_stands (sX12_stands (p1 := y1) hR.2.1 (by omega) (Q := fun _ M' => IM (60000 * (k : Int) + 6000) M') (fun _ _ h => h)) ?_
  intro b MM1 fM hM
  exact hR.q hX hM (by omega) (fX 156 1 (by first | omega | exact fun h => h)) (fM 1 14 (by first | omega | exact fun h => h)) (fX 182 2 (by first | omega | exact fun h => h)) (fM 1 45 (by first | omega | exact fun h => h)) (fun j => fX 157 j (by first | omega | exact fun h => h)) (fun j => fM 7 j (by first | omega | exact fun h => h)) (fun j => ⟨fX 183 j (by first | omega | exact fun h => h), fX 184 j (by first | omega | exact fun h => h), fM 26 j (by first | omega | exact fun h => h), fM 27 j (by first | omega | exact fun h => h)⟩) (fun k j q => fX k j (by first | omega | exact fun h => h)) (fun k j q => fM k j (by first | omega | exact fun h => h))
theorem Rk_when (k : Nat) (MX MM : Mem) (y1 : Int) (hy1 : iR y1) (hk : k < 512) (hMX : MR MX) (hMM : MR MM) (hR : Rel k MX MM) : qX11_when y1 MX (fun z MX1 => qX12_when y1 MM (fun b MM1 => Rel (k + 1) MX1 MM1)) := by
  refine fmX11_when (sX11_when (p1 := y1) hR.1 (Q := fun _ M' => IX M') (fun _ _ h => h)) ?_
  intro z MX1 fX hX
  refine fmX12_when (sX12_when (p1 := y1) hR.2.1 (by omega) (Q := fun _ M' => IM (60000 * (k : Int) + 24400) M') (fun _ _ h => h)) ?_
  intro b MM1 fM hM
  exact hR.q hX hM (by omega) (fX 156 1 (by first | omega | exact fun h => h)) (fM 1 14 (by first | omega | exact fun h => h)) (fX 182 2 (by first | omega | exact fun h => h)) (fM 1 45 (by first | omega | exact fun h => h)) (fun j => fX 157 j (by first | omega | exact fun h => h)) (fun j => fM 7 j (by first | omega | exact fun h => h)) (fun j => ⟨fX 183 j (by first | omega | exact fun h => h), fX 184 j (by first | omega | exact fun h => h), fM 26 j (by first | omega | exact fun h => h), fM 27 j (by first | omega | exact fun h => h)⟩) (fun k j q => fX k j (by first | omega | exact fun h => h)) (fun k j q => fM k j (by first | omega | exact fun h => h))
theorem Rk_mends (k : Nat) (MX MM : Mem) (y1 : Int) (hy1 : iR y1) (hk : k < 512) (hMX : MR MX) (hMM : MR MM) (hR : Rel k MX MM) : qX11_mends y1 MX (fun z MX1 => qX12_mends y1 MM (fun b MM1 => Rel (k + 1) MX1 MM1)) := by
  refine fmX11_mends (sX11_mends (p1 := y1) hR.1 (Q := fun _ M' => IX M') (fun _ _ h => h)) ?_
  intro z MX1 fX hX
  refine fmX12_mends (sX12_mends (p1 := y1) hR.2.1 (by omega) (Q := fun _ M' => IM (60000 * (k : Int) + 51200) M') (fun _ _ h => h)) ?_
  intro b MM1 fM hM
  exact hR.q hX hM (by omega) (fX 156 1 (by first | omega | exact fun h => h)) (fM 1 14 (by first | omega | exact fun h => h)) (fX 182 2 (by first | omega | exact fun h => h)) (fM 1 45 (by first | omega | exact fun h => h)) (fun j => fX 157 j (by first | omega | exact fun h => h)) (fun j => fM 7 j (by first | omega | exact fun h => h)) (fun j => ⟨fX 183 j (by first | omega | exact fun h => h), fX 184 j (by first | omega | exact fun h => h), fM 26 j (by first | omega | exact fun h => h), fM 27 j (by first | omega | exact fun h => h)⟩) (fun k j q => fX k j (by first | omega | exact fun h => h)) (fun k j q => fM k j (by first | omega | exact fun h => h))
theorem Rk_misleads (k : Nat) (MX MM : Mem)  (hk : k < 512) (hMX : MR MX) (hMM : MR MM) (hR : Rel k MX MM) : qX11_misleads  MX (fun z MX1 => qX12_misleads  MM (fun b MM1 => Rel (k + 1) MX1 MM1)) := by
  refine fmX11_misleads (sX11_misleads  hR.1 (Q := fun _ M' => IX M') (fun _ _ h => h)) ?_
  intro z MX1 fX hX
  refine fmX12_misleads (sX12_misleads  hR.2.1 (by omega) (Q := fun _ M' => IM (60000 * (k : Int) + 1600) M') (fun _ _ h => h)) ?_
  intro b MM1 fM hM
  exact hR.q hX hM (by omega) (fX 156 1 (by first | omega | exact fun h => h)) (fM 1 14 (by first | omega | exact fun h => h)) (fX 182 2 (by first | omega | exact fun h => h)) (fM 1 45 (by first | omega | exact fun h => h)) (fun j => fX 157 j (by first | omega | exact fun h => h)) (fun j => fM 7 j (by first | omega | exact fun h => h)) (fun j => ⟨fX 183 j (by first | omega | exact fun h => h), fX 184 j (by first | omega | exact fun h => h), fM 26 j (by first | omega | exact fun h => h), fM 27 j (by first | omega | exact fun h => h)⟩) (fun k j q => fX k j (by first | omega | exact fun h => h)) (fun k j q => fM k j (by first | omega | exact fun h => h))
theorem Rk_crowd (k : Nat) (MX MM : Mem)  (hk : k < 512) (hMX : MR MX) (hMM : MR MM) (hR : Rel k MX MM) : qX11_crowd  MX (fun z MX1 => qX12_crowd  MM (fun b MM1 => Rel (k + 1) MX1 MM1)) := by
  refine fmX11_crowd (sX11_crowd  hR.1 (Q := fun _ M' => IX M') (fun _ _ h => h)) ?_
  intro z MX1 fX hX
  refine fmX12_crowd (sX12_crowd  hR.2.1 (by omega) (Q := fun _ M' => IM (60000 * (k : Int) + 200) M') (fun _ _ h => h)) ?_
  intro b MM1 fM hM
  exact hR.q hX hM (by omega) (fX 156 1 (by first | omega | exact fun h => h)) (fM 1 14 (by first | omega | exact fun h => h)) (fX 182 2 (by first | omega | exact fun h => h)) (fM 1 45 (by first | omega | exact fun h => h)) (fun j => fX 157 j (by first | omega | exact fun h => h)) (fun j => fM 7 j (by first | omega | exact fun h => h)) (fun j => ⟨fX 183 j (by first | omega | exact fun h => h), fX 184 j (by first | omega | exact fun h => h), fM 26 j (by first | omega | exact fun h => h), fM 27 j (by first | omega | exact fun h => h)⟩) (fun k j q => fX k j (by first | omega | exact fun h => h)) (fun k j q => fM k j (by first | omega | exact fun h => h))
theorem Rk_shares (k : Nat) (MX MM : Mem) (y1 : Int) (hy1 : iR y1) (hk : k < 512) (hMX : MR MX) (hMM : MR MM) (hR : Rel k MX MM) : qX11_shares y1 MX (fun z MX1 => qX12_shares y1 MM (fun b MM1 => Rel (k + 1) MX1 MM1)) := by
  refine fmX11_shares (sX11_shares (p1 := y1) hR.1 (Q := fun _ M' => IX M') (fun _ _ h => h)) ?_
  intro z MX1 fX hX
  refine fmX12_shares (sX12_shares (p1 := y1) hR.2.1 (Q := fun _ M' => IM (60000 * (k : Int)) M') (fun _ _ h => h)) ?_
  intro b MM1 fM hM
  exact hR.q hX hM (by omega) (fX 156 1 (by first | omega | exact fun h => h)) (fM 1 14 (by first | omega | exact fun h => h)) (fX 182 2 (by first | omega | exact fun h => h)) (fM 1 45 (by first | omega | exact fun h => h)) (fun j => fX 157 j (by first | omega | exact fun h => h)) (fun j => fM 7 j (by first | omega | exact fun h => h)) (fun j => ⟨fX 183 j (by first | omega | exact fun h => h), fX 184 j (by first | omega | exact fun h => h), fM 26 j (by first | omega | exact fun h => h), fM 27 j (by first | omega | exact fun h => h)⟩) (fun k j q => fX k j (by first | omega | exact fun h => h)) (fun k j q => fM k j (by first | omega | exact fun h => h))
theorem Rk_strangers (k : Nat) (MX MM : Mem)  (hk : k < 512) (hMX : MR MX) (hMM : MR MM) (hR : Rel k MX MM) : qX11_strangers  MX (fun z MX1 => qX12_strangers  MM (fun b MM1 => Rel (k + 1) MX1 MM1)) := by
  refine fmX11_strangers (sX11_strangers  hR.1 (Q := fun _ M' => IX M') (fun _ _ h => h)) ?_
  intro z MX1 fX hX
  refine fmX12_strangers (sX12_strangers  hR.2.1 (Q := fun _ M' => IM (60000 * (k : Int)) M') (fun _ _ h => h)) ?_
  intro b MM1 fM hM
  exact hR.q hX hM (by omega) (fX 156 1 (by first | omega | exact fun h => h)) (fM 1 14 (by first | omega | exact fun h => h)) (fX 182 2 (by first | omega | exact fun h => h)) (fM 1 45 (by first | omega | exact fun h => h)) (fun j => fX 157 j (by first | omega | exact fun h => h)) (fun j => fM 7 j (by first | omega | exact fun h => h)) (fun j => ⟨fX 183 j (by first | omega | exact fun h => h), fX 184 j (by first | omega | exact fun h => h), fM 26 j (by first | omega | exact fun h => h), fM 27 j (by first | omega | exact fun h => h)⟩) (fun k j q => fX k j (by first | omega | exact fun h => h)) (fun k j q => fM k j (by first | omega | exact fun h => h))
theorem Rk_doubts (k : Nat) (MX MM : Mem)  (hk : k < 512) (hMX : MR MX) (hMM : MR MM) (hR : Rel k MX MM) : qX11_doubts  MX (fun z MX1 => qX12_doubts  MM (fun b MM1 => Rel (k + 1) MX1 MM1)) := by
  refine fmX11_doubts (sX11_doubts  hR.1 (Q := fun _ M' => IX M') (fun _ _ h => h)) ?_
  intro z MX1 fX hX
  refine fmX12_doubts (sX12_doubts  hR.2.1 (Q := fun _ M' => IM (60000 * (k : Int)) M') (fun _ _ h => h)) ?_
  intro b MM1 fM hM
  exact hR.q hX hM (by omega) (fX 156 1 (by first | omega | exact fun h => h)) (fM 1 14 (by first | omega | exact fun h => h)) (fX 182 2 (by first | omega | exact fun h => h)) (fM 1 45 (by first | omega | exact fun h => h)) (fun j => fX 157 j (by first | omega | exact fun h => h)) (fun j => fM 7 j (by first | omega | exact fun h => h)) (fun j => ⟨fX 183 j (by first | omega | exact fun h => h), fX 184 j (by first | omega | exact fun h => h), fM 26 j (by first | omega | exact fun h => h), fM 27 j (by first | omega | exact fun h => h)⟩) (fun k j q => fX k j (by first | omega | exact fun h => h)) (fun k j q => fM k j (by first | omega | exact fun h => h))
theorem Cl_heard (k : Nat) (MX MM : Mem) (y1 y2 : Int) (hy1 : iR y1) (hy2 : iR y2) (hk : k < 512) (hMX : MR MX) (hMM : MR MM) (hR : Rel k MX MM) : qX11_heard y1 y2 MX (fun z MX1 => qX12_heard y1 y2 MM (fun b MM1 => z = b ∧ Rel (k + 1) MX1 MM1)) := by
  refine fmX11_heard (gX11_heardC (p0 := y1) (p1 := y2) hR.1 (Q := fun z M' => IX M' ∧ ((MX 182 2 ≤ 7 ∧ ((y1 = 0 ∨ y1 = 2) ∧ 0 ≤ y2 ∧ y2 ≤ 8 ∨ y1 = 1 ∧ 1 ≤ y2 ∧ y2 ≤ 6 ∨ y1 = 3 ∧ (y2 = 0 ∨ y2 = 1))) ∧ z = MX 182 2 + 1 ∧ M' 182 2 = MX 182 2 + 1 ∧ M' 183 = up (MX 183) (MX 182 2) y1 ∧ M' 184 = up (MX 184) (MX 182 2) y2 ∨ ¬ (MX 182 2 ≤ 7 ∧ ((y1 = 0 ∨ y1 = 2) ∧ 0 ≤ y2 ∧ y2 ≤ 8 ∨ y1 = 1 ∧ 1 ≤ y2 ∧ y2 ≤ 6 ∨ y1 = 3 ∧ (y2 = 0 ∨ y2 = 1))) ∧ z = -1 ∧ M' 182 2 = MX 182 2 ∧ M' 183 = MX 183 ∧ M' 184 = MX 184)) (fun z M' h q => ⟨h, q⟩)) ?_
  intro z MX1 fX hX
  refine fmX12_heard (gX12_heardC (p0 := y1) (p1 := y2) hR.2.1 hy2 (Q := fun z M' => IM (60000 * (k : Int)) M' ∧ ((MM 1 45 ≤ 7 ∧ ((y1 = 0 ∨ y1 = 2) ∧ 0 ≤ y2 ∧ y2 ≤ 8 ∨ y1 = 1 ∧ 1 ≤ y2 ∧ y2 ≤ 6 ∨ y1 = 3 ∧ (y2 = 0 ∨ y2 = 1))) ∧ z = MM 1 45 + 1 ∧ M' 1 45 = MM 1 45 + 1 ∧ M' 26 = up (MM 26) (MM 1 45) y1 ∧ M' 27 = up (MM 27) (MM 1 45) y2 ∨ ¬ (MM 1 45 ≤ 7 ∧ ((y1 = 0 ∨ y1 = 2) ∧ 0 ≤ y2 ∧ y2 ≤ 8 ∨ y1 = 1 ∧ 1 ≤ y2 ∧ y2 ≤ 6 ∨ y1 = 3 ∧ (y2 = 0 ∨ y2 = 1))) ∧ z = -1 ∧ M' 1 45 = MM 1 45 ∧ M' 26 = MM 26 ∧ M' 27 = MM 27)) (fun z M' h q => ⟨h, q⟩)) ?_
  intro b MM1 fM hM
  have e : MX 182 2 = MM 1 45 := hR.2.2.2.1
  have e2 : MX1 156 1 = MM1 1 14 := by rw [fX 156 1 (by omega), fM 1 14 (by omega)]; exact hR.2.2.1
  have eS : STA (cut MM1) MX1 MM1 := by
    rw [cut_of (fun k j c => fM k j (by omega))]
    exact hR.S.fr hR.E0 hR.1 (fun k j q => fX k j (by omega)) (fun k j q => fM k j (by omega))
  obtain ⟨iX, gX⟩ := hX
  obtain ⟨iM, gM⟩ := hM
  have eH : HRD MX1 MM1 := by
    rcases gX with ⟨c, _, n, x3, x4⟩ | ⟨c, _, n, x3, x4⟩
    · rcases gM with ⟨d, _, _, m3, m4⟩ | ⟨d, _, _, m3, m4⟩
      · exact hR.H.add c.2 n e x3 x4 m3 m4
      · exact absurd ⟨by omega, c.2⟩ d
    · rcases gM with ⟨d, _, _, m3, m4⟩ | ⟨d, _, _, m3, m4⟩
      · exact absurd ⟨by omega, d.2⟩ c
      · exact hR.H.fr n (fun j => ⟨by rw [x3], by rw [x4], by rw [m3], by rw [m4]⟩)
  have ez : z = b ∧ MX1 182 2 = MM1 1 45 := by
    rcases gX with ⟨c, q, n, _⟩ | ⟨c, q, n, _⟩
    · rcases gM with ⟨d, q2, n2, _⟩ | ⟨d, q2, n2, _⟩
      · exact ⟨by omega, by omega⟩
      · exact absurd ⟨by omega, c.2⟩ d
    · rcases gM with ⟨d, q2, n2, _⟩ | ⟨d, q2, n2, _⟩
      · exact absurd ⟨by omega, d.2⟩ c
      · exact ⟨by omega, by omega⟩
  exact ⟨ez.1, iX, iM.mono (by omega), e2, ez.2, fun j a q => by rw [fX 157 j (by omega), fM 7 j (by omega)]; exact hR.2.2.2.2.1 j a (by rw [fX 156 1 (by omega)] at q; exact q), eS, hR.F.fr (fun k j q => fM k j (by omega)), eH⟩
theorem Cl_forget (k : Nat) (MX MM : Mem)  (hk : k < 512) (hMX : MR MX) (hMM : MR MM) (hR : Rel k MX MM) : qX11_forget  MX (fun z MX1 => qX12_forget  MM (fun b MM1 => z = b ∧ Rel (k + 1) MX1 MM1)) := by
  refine fmX11_forget (gX11_forget hR.1 (Q := fun z M' => IX M' ∧ z = MX 182 2 ∧ M' 182 2 = 0) (fun z M' h q r => ⟨h, q, r⟩)) ?_
  intro z MX1 fX hX
  refine fmX12_forget (gX12_forget hR.2.1 (Q := fun z M' => IM (60000 * (k : Int)) M' ∧ z = MM 1 45 ∧ M' 1 45 = 0) (fun z M' h q r => ⟨h, q, r⟩)) ?_
  intro b MM1 fM hM
  have e : MX 182 2 = MM 1 45 := hR.2.2.2.1
  have e2 : MX1 156 1 = MM1 1 14 := by rw [fX 156 1 (by omega), fM 1 14 (by omega)]; exact hR.2.2.1
  have eS : STA (cut MM1) MX1 MM1 := by
    rw [cut_of (fun k j c => fM k j (by omega))]
    exact hR.S.fr hR.E0 hR.1 (fun k j q => fX k j (by omega)) (fun k j q => fM k j (by omega))
  exact ⟨by rw [hX.2.1, hM.2.1]; exact e, hX.1, hM.1.mono (by omega), e2, by rw [hX.2.2, hM.2.2], fun j a q => by rw [fX 157 j (by omega), fM 7 j (by omega)]; exact hR.2.2.2.2.1 j a (by rw [fX 156 1 (by omega)] at q; exact q), eS, hR.F.fr (fun k j q => fM k j (by omega)), HRD.nil hX.2.2⟩
theorem Cl_rains (k : Nat) (MX MM : Mem) (y1 y2 y3 : Int) (hy1 : iR y1) (hy2 : iR y2) (hy3 : iR y3) (hk : k < 512) (hMX : MR MX) (hMM : MR MM) (hR : Rel k MX MM) : qX11_rains y1 y2 y3 MX (fun z MX1 => qX12_rains y1 y2 y3 MM (fun b MM1 => z = b ∧ Rel (k + 1) MX1 MM1)) := by
  refine fmX11_rains (gX11_rains (p1 := y1) (p2 := y2) (p3 := y3) hR.1 (Q := fun z M' => IX M' ∧ (z = if (1 ≤ y1 ∧ y1 ≤ 12) ∧ (0 ≤ y2 ∧ y2 ≤ 12) ∧ (0 ≤ y3 ∧ y3 ≤ 10) then 0 else -1)) (fun z M' h q => ⟨h, q⟩)) ?_
  intro z MX1 fX hX
  refine fmX12_rains (sX12_rains (p1 := y1) (p2 := y2) (p3 := y3) hR.2.1 (Q := fun z M' => IM (60000 * (k : Int)) M' ∧ (z = if (1 ≤ y1 ∧ y1 ≤ 12) ∧ (0 ≤ y2 ∧ y2 ≤ 12) ∧ (0 ≤ y3 ∧ y3 ≤ 10) then 0 else -1)) (fun z M' h q => ⟨h, q⟩)) ?_
  intro b MM1 fM hM
  exact ⟨by rw [hX.2, hM.2], hR.q hX.1 hM.1 (by omega) (fX 156 1 (by omega)) (fM 1 14 (by omega)) (fX 182 2 (by omega)) (fM 1 45 (by omega)) (fun j => fX 157 j (by omega)) (fun j => fM 7 j (by omega)) (fun j => ⟨fX 183 j (by omega), fX 184 j (by omega), fM 26 j (by omega), fM 27 j (by omega)⟩) (fun k j q => fX k j (by omega)) (fun k j q => fM k j (by omega))⟩
theorem Rk_law (k : Nat) (MX MM : Mem)  (hk : k < 512) (hMX : MR MX) (hMM : MR MM) (hR : Rel k MX MM) : qX11_law  MX (fun z MX1 => qX12_law  MM (fun b MM1 => Rel (k + 1) MX1 MM1)) := by
  have S := hR.S
  refine fmX11_law (fzX11_law (keX11_law hR.1 (Q := fun z M' => IX M' ∧ M' 155 16 = MX 155 16 ∧ ∀ (k : Nat) (j : Int), (MX 155 16).toNat ≤ k → k ≤ (MX 155 16).toNat + 2 → M' k j = MX k j) (fun z M' i a c => ⟨i, a, c⟩)) (Q' := fun z M' => M' 156 1 = 0 ∧ IX M' ∧ M' 155 16 = MX 155 16 ∧ ∀ (k : Nat) (j : Int), (MX 155 16).toNat ≤ k → k ≤ (MX 155 16).toNat + 2 → M' k j = MX k j) (fun _ M' z h => ⟨z, h⟩)) ?_
  intro z MX1 fX hX
  obtain ⟨lX, iX, x0, x1⟩ := hX
  refine fmX12_law (fzX12_law (keX12_law hR.2.1 (by omega) (Q := fun z M' => IM (60000 * (k : Int) + 400) M' ∧ M' 1 24 = MM 1 24 ∧ ∀ j, 0 ≤ j → j < MM 1 24 → M' 11 j = MM 11 j) (fun z M' i a c => ⟨i, a, c⟩)) (Q' := fun z M' => M' 1 14 = 0 ∧ IM (60000 * (k : Int) + 400) M' ∧ M' 1 24 = MM 1 24 ∧ ∀ j, 0 ≤ j → j < MM 1 24 → M' 11 j = MM 11 j) (fun _ M' z h => ⟨z, h⟩)) ?_
  intro b MM1 fM hM
  obtain ⟨lM, iM, m0, m1⟩ := hM
  refine hR.t iX iM (by omega) lX lM (fX 182 2 (by omega)) (fM 1 45 (by omega)) (fun j => ⟨fX 183 j (by omega), fX 184 j (by omega), fM 26 j (by omega), fM 27 j (by omega)⟩) (hR.F.fr (fun k j q => fM k j (by omega))) ?_
  refine S.rule hR.E0 hR.1 (fun k j h1 h2 => ?_) (fun k j h => fX k j (by omega)) ?_ (fun k j h => fM k j (by omega))
  · by_cases h : cE k j
    · rw [cut_p h, cut_p h]
      exact fM k j (by omega)
    · unfold cut
      rw [if_neg h, if_neg h]
  · rw [x0]
    refine (S.2.1.fr (x1 _ _ (by omega) (by omega)) (x1 _ _ (by omega) (by omega)) (fun j => x1 _ j (by omega) (by omega)) (fun j => x1 _ j (by omega) (by omega))).ce ?_ (fun j a q => ?_)
    · rw [cut124, cut124]
      exact m0
    · rw [cut124] at q
      rw [cut11, cut11]
      exact m1 j a q
theorem Cl_rests (k : Nat) (MX MM : Mem) (y1 : Int) (hy1 : iR y1) (hk : k < 512) (hMX : MR MX) (hMM : MR MM) (hR : Rel k MX MM) : qX11_rests y1 MX (fun z MX1 => qX12_rests y1 MM (fun b MM1 => z = b ∧ Rel (k + 1) MX1 MM1)) := by
  refine fmX11_rests (gX11_rests (p1 := y1) hR.1 (Q := fun z M' => IX M' ∧ (z = RSF y1)) (fun z M' h q => ⟨h, q⟩)) ?_
  intro z MX1 fX hX
  refine fmX12_rests (gX12_rests (p1 := y1) hR.2.1 (Q := fun z M' => IM (60000 * (k : Int)) M' ∧ (z = RSF y1)) (fun z M' h q => ⟨h, q⟩)) ?_
  intro b MM1 fM hM
  exact ⟨by rw [hX.2, hM.2], hR.q hX.1 hM.1 (by omega) (fX 156 1 (by omega)) (fM 1 14 (by omega)) (fX 182 2 (by omega)) (fM 1 45 (by omega)) (fun j => fX 157 j (by omega)) (fun j => fM 7 j (by omega)) (fun j => ⟨fX 183 j (by omega), fX 184 j (by omega), fM 26 j (by omega), fM 27 j (by omega)⟩) (fun k j q => fX k j (by omega)) (fun k j q => fM k j (by omega))⟩
theorem Rk_years (k : Nat) (MX MM : Mem) (y1 y2 : Int) (hy1 : iR y1) (hy2 : iR y2) (hk : k < 512) (hMX : MR MX) (hMM : MR MM) (hR : Rel k MX MM) : qX11_years y1 y2 MX (fun z MX1 => qX12_years y1 y2 MM (fun b MM1 => Rel (k + 1) MX1 MM1)) := by
  refine fmX11_years (sX11_years (p1 := y1) (p2 := y2) hR.1 (Q := fun _ M' => IX M') (fun _ _ h => h)) ?_
  intro z MX1 fX hX
  refine fmX12_years (sX12_years (p1 := y1) (p2 := y2) hR.2.1 (by omega) (Q := fun _ M' => IM (60000 * (k : Int) + 60) M') (fun _ _ h => h)) ?_
  intro b MM1 fM hM
  exact hR.q hX hM (by omega) (fX 156 1 (by first | omega | exact fun h => h)) (fM 1 14 (by first | omega | exact fun h => h)) (fX 182 2 (by first | omega | exact fun h => h)) (fM 1 45 (by first | omega | exact fun h => h)) (fun j => fX 157 j (by first | omega | exact fun h => h)) (fun j => fM 7 j (by first | omega | exact fun h => h)) (fun j => ⟨fX 183 j (by first | omega | exact fun h => h), fX 184 j (by first | omega | exact fun h => h), fM 26 j (by first | omega | exact fun h => h), fM 27 j (by first | omega | exact fun h => h)⟩) (fun k j q => fX k j (by first | omega | exact fun h => h)) (fun k j q => fM k j (by first | omega | exact fun h => h))
theorem Cl_keep (k : Nat) (MX MM : Mem) (y1 : Int) (hy1 : iR y1) (hk : k < 512) (hMX : MR MX) (hMM : MR MM) (hR : Rel k MX MM) : qX11_keep y1 MX (fun z MX1 => qX12_keep y1 MM (fun b MM1 => z = b ∧ Rel (k + 1) MX1 MM1)) := by
  have S := hR.S
  refine fmX11_keep (gX11_keepC (p1 := y1) hR.1 (Q := fun z M' => IX M' ∧ (0 ≤ y1 ∧ y1 ≤ 2 → z = 1 ∧ Ks (fun k j => (29 + 7 * y1.toNat ≤ k ∧ k ≤ 35 + 7 * y1.toNat) ∨ (k = 166 ∧ j = y1)) MX M' ∧ M' 166 y1 = 1 ∧ (∀ (E : Mem) (r : Int → Int), SC E MX 1 r → SC E M' (29 + 7 * y1.toNat) r) ∧ M' (29 + 7 * y1.toNat) 6 = MX 1 6 ∧ M' (29 + 7 * y1.toNat) 7 = MX 1 7) ∧ (¬ (0 ≤ y1 ∧ y1 ≤ 2) → z = 0 ∧ M' = MX)) (fun c M' i a1 a2 a3 a4 => ⟨i, fun _ => ⟨rfl, a1, a2, a3, a4⟩, fun n => absurd c n⟩) (fun n => ⟨hR.1, fun c => absurd c n, fun _ => ⟨rfl, rfl⟩⟩)) ?_
  intro z MX1 fX hX
  obtain ⟨iX, yX, nX⟩ := hX
  refine fmX12_keep (gX12_keepC (p1 := y1) hR.2.1 (Q := fun z M' => IM (60000 * (k : Int)) M' ∧ (0 ≤ y1 ∧ y1 ≤ 2 → z = 1 ∧ FrJ (fun k j => (k = 31 ∧ 38 * y1 ≤ j ∧ j < 38 * y1 + 38) ∨ (k = 29 ∧ j = y1) ∨ (k = 30 ∧ j = y1) ∨ (k = 1 ∧ j = 0)) MM M' ∧ M' 29 y1 = 1 ∧ M' 30 y1 = MM 1 6 ∧ (∀ j, 0 ≤ j → j < 38 → M' 31 (38 * y1 + j) = MM 5 j)) ∧ (¬ (0 ≤ y1 ∧ y1 ≤ 2) → z = 0 ∧ FrJ (fun k j => k = 1 ∧ j = 0) MM M')) (fun c M' i a1 a2 a3 a4 => ⟨i, fun _ => ⟨rfl, a1, a2, a3, a4⟩, fun n => absurd c n⟩) (fun n M' i a => ⟨i, fun c => absurd c n, fun _ => ⟨rfl, a⟩⟩)) ?_
  intro b MM1 fM hM
  obtain ⟨iM, yM, nM⟩ := hM
  by_cases c : 0 ≤ y1 ∧ y1 ≤ 2
  · obtain ⟨ez, x1, x2, x3, x4⟩ := yX c
    obtain ⟨eb, m1, m2, m3, m4⟩ := yM c
    have hF : FOLS MM1 := hR.F.keep S hR.E0 c m1 m4
    refine ⟨by rw [ez, eb], hR.s iX iM (by omega) (fX 156 1 (by omega)) (fM 1 14 (by omega)) (fX 182 2 (by omega)) (fM 1 45 (by omega)) (fun j => fX 157 j (by omega)) (fun j => fM 7 j (by omega)) (fun j => ⟨fX 183 j (by omega), fX 184 j (by omega), fM 26 j (by omega), fM 27 j (by omega)⟩) (fun k j q => fM k j (by omega)) hF ?_⟩
    exact S.keep (b := 0) hR.E0 hR.1 c x1 x2 x3 x4 m1 m2 m3 m4
  · obtain ⟨ez, x1⟩ := nX c
    obtain ⟨eb, m1⟩ := nM c
    have hF : FOLS MM1 := hR.F.fr (fun k j q => m1 k j (by omega))
    refine ⟨by rw [ez, eb], hR.s iX iM (by omega) (fX 156 1 (by omega)) (fM 1 14 (by omega)) (fX 182 2 (by omega)) (fM 1 45 (by omega)) (fun j => fX 157 j (by omega)) (fun j => fM 7 j (by omega)) (fun j => ⟨fX 183 j (by omega), fX 184 j (by omega), fM 26 j (by omega), fM 27 j (by omega)⟩) (fun k j q => fM k j (by omega)) hF ?_⟩
    exact S.fr hR.E0 hR.1 (fun k j q => by rw [x1]) (fun k j q => m1 k j (by omega))
theorem Cl_again (k : Nat) (MX MM : Mem) (y1 : Int) (hy1 : iR y1) (hk : k < 512) (hMX : MR MX) (hMM : MR MM) (hR : Rel k MX MM) : qX11_again y1 MX (fun z MX1 => qX12_again y1 MM (fun b MM1 => z = b ∧ Rel (k + 1) MX1 MM1)) := by
  have S := hR.S
  have c6 : MX 1 6 = cut MM 1 4 := S.2.2.1.1
  have c7 : MX 1 7 = cut MM 1 5 := S.2.2.1.2.1
  have hc : ((0 ≤ y1 ∧ y1 ≤ 2) ∧ MX 166 y1 ≠ 0 ∧ MX (29 + 7 * y1.toNat) 6 = MX 1 6 ∧ MX (29 + 7 * y1.toNat) 7 = MX 1 7) ↔ ((0 ≤ y1 ∧ y1 ≤ 2) ∧ MM 29 y1 ≠ 0 ∧ MM 30 y1 = MM 1 6) := by
    refine ⟨fun h => ?_, fun h => ?_⟩
    · obtain ⟨k1, k2⟩ := S.2.2.2.2.2 y1 h.1.1 (by have := h.1.2; omega)
      obtain ⟨a1, a2, a3, a4⟩ := k2 h.2.1
      refine ⟨h.1, fun q => h.2.1 (k1.mpr q), ?_⟩
      by_cases c : MM 30 y1 = MM 1 6
      · exact c
      · have := h.2.2
        rcases a4 (by omega) with q | q <;> omega
    · obtain ⟨k1, k2⟩ := S.2.2.2.2.2 y1 h.1.1 (by have := h.1.2; omega)
      have n0 : MX 166 y1 ≠ 0 := fun q => h.2.1 (k1.mp q)
      obtain ⟨a1, a2, a3, a4⟩ := k2 n0
      have s := (a3 h.2.2).1
      exact ⟨h.1, n0, by rw [c6]; exact s.1, by rw [c7]; exact s.2.1⟩
  refine fmX11_again (gX11_again (p1 := y1) hR.1 (Q := fun z M' => IX M' ∧ ((0 ≤ y1 ∧ y1 ≤ 2) ∧ MX 166 y1 ≠ 0 ∧ MX (29 + 7 * y1.toNat) 6 = MX 1 6 ∧ MX (29 + 7 * y1.toNat) 7 = MX 1 7 → z = 1 ∧ Ks (fun k j => (1 ≤ k ∧ k ≤ 7) ∨ (k = 163 ∧ j = 2)) MX M' ∧ M' 163 2 = 0 ∧ (∀ (E : Mem) (r : Int → Int), SC E MX (29 + 7 * y1.toNat) r → SC E M' 1 r)) ∧ (¬ ((0 ≤ y1 ∧ y1 ≤ 2) ∧ MX 166 y1 ≠ 0 ∧ MX (29 + 7 * y1.toNat) 6 = MX 1 6 ∧ MX (29 + 7 * y1.toNat) 7 = MX 1 7) → z = 0 ∧ M' = MX)) (fun c0 c1 c2 c3 M' i a1 a2 a3 => ⟨i, fun _ => ⟨rfl, a1, a2, a3⟩, fun n => absurd ⟨c0, c1, c2, c3⟩ n⟩) (fun n => ⟨hR.1, fun c => absurd c n, fun _ => ⟨rfl, rfl⟩⟩)) ?_
  intro z MX1 fX hX
  obtain ⟨iX, yX, nX⟩ := hX
  refine fmX12_again (gX12_again (p1 := y1) hR.2.1 (Q := fun z M' => IM (60000 * (k : Int)) M' ∧ ((0 ≤ y1 ∧ y1 ≤ 2) ∧ MM 29 y1 ≠ 0 ∧ MM 30 y1 = MM 1 6 → z = 1 ∧ FrJ (fun k j => k = 5 ∨ (k = 1 ∧ (j = 0 ∨ j = 28))) MM M' ∧ M' 1 28 = 0 ∧ (∀ j, 0 ≤ j → j < 38 → M' 5 j = MM 31 (38 * y1 + j))) ∧ (¬ ((0 ≤ y1 ∧ y1 ≤ 2) ∧ MM 29 y1 ≠ 0 ∧ MM 30 y1 = MM 1 6) → z = 0 ∧ FrJ (fun k j => k = 1 ∧ j = 0) MM M')) (fun c0 c1 c2 M' i a1 a2 a3 => ⟨i, fun _ => ⟨rfl, a1, a2, a3⟩, fun n => absurd ⟨c0, c1, c2⟩ n⟩) (fun n M' i a => ⟨i, fun c => absurd c n, fun _ => ⟨rfl, a⟩⟩)) ?_
  intro b MM1 fM hM
  obtain ⟨iM, yM, nM⟩ := hM
  by_cases c : (0 ≤ y1 ∧ y1 ≤ 2) ∧ MM 29 y1 ≠ 0 ∧ MM 30 y1 = MM 1 6
  · obtain ⟨ez, x1, x2, x3⟩ := yX (hc.mpr c)
    obtain ⟨eb, m1, m2, m3⟩ := yM c
    have hF : FOLS MM1 := hR.F.again S hR.E0 c.1 c.2.1 c.2.2 m1 m2 m3
    refine ⟨by rw [ez, eb], hR.s iX iM (by omega) (fX 156 1 (by omega)) (fM 1 14 (by omega)) (fX 182 2 (by omega)) (fM 1 45 (by omega)) (fun j => fX 157 j (by omega)) (fun j => fM 7 j (by omega)) (fun j => ⟨fX 183 j (by omega), fX 184 j (by omega), fM 26 j (by omega), fM 27 j (by omega)⟩) (fun k j q => fM k j (by omega)) hF ?_⟩
    exact S.again (p1 := y1) hR.E0 hR.1 c.1 (hc.mpr c).2.1 c.2.2 x1 x2 x3 m1 m2 m3
  · obtain ⟨ez, x1⟩ := nX (fun q => c (hc.mp q))
    obtain ⟨eb, m1⟩ := nM c
    have hF : FOLS MM1 := hR.F.fr (fun k j q => m1 k j (by omega))
    refine ⟨by rw [ez, eb], hR.s iX iM (by omega) (fX 156 1 (by omega)) (fM 1 14 (by omega)) (fX 182 2 (by omega)) (fM 1 45 (by omega)) (fun j => fX 157 j (by omega)) (fun j => fM 7 j (by omega)) (fun j => ⟨fX 183 j (by omega), fX 184 j (by omega), fM 26 j (by omega), fM 27 j (by omega)⟩) (fun k j q => fM k j (by omega)) hF ?_⟩
    exact S.fr hR.E0 hR.1 (fun k j q => by rw [x1]) (fun k j q => m1 k j (by omega))
theorem Rk_count (k : Nat) (MX MM : Mem) (y1 : Int) (hy1 : iR y1) (hk : k < 512) (hMX : MR MX) (hMM : MR MM) (hR : Rel k MX MM) : qX11_count y1 MX (fun z MX1 => qX12_count y1 MM (fun b MM1 => Rel (k + 1) MX1 MM1)) := by
  refine fmX11_count (sX11_count (p1 := y1) hR.1 (Q := fun _ M' => IX M') (fun _ => hR.1)) ?_
  intro z MX1 fX hX
  refine fmX12_count (sX12_count (p1 := y1) hR.2.1 (Q := fun _ M' => IM (60000 * (k : Int)) M') (fun _ _ h => h)) ?_
  intro b MM1 fM hM
  exact hR.q hX hM (by omega) (fX 156 1 (by first | omega | exact fun h => h)) (fM 1 14 (by first | omega | exact fun h => h)) (fX 182 2 (by first | omega | exact fun h => h)) (fM 1 45 (by first | omega | exact fun h => h)) (fun j => fX 157 j (by first | omega | exact fun h => h)) (fun j => fM 7 j (by first | omega | exact fun h => h)) (fun j => ⟨fX 183 j (by first | omega | exact fun h => h), fX 184 j (by first | omega | exact fun h => h), fM 26 j (by first | omega | exact fun h => h), fM 27 j (by first | omega | exact fun h => h)⟩) (fun k j q => fX k j (by first | omega | exact fun h => h)) (fun k j q => fM k j (by first | omega | exact fun h => h))
theorem Rk_row (k : Nat) (MX MM : Mem) (y1 : Int) (hy1 : iR y1) (hk : k < 512) (hMX : MR MX) (hMM : MR MM) (hR : Rel k MX MM) : qX11_row y1 MX (fun z MX1 => qX12_row y1 MM (fun b MM1 => Rel (k + 1) MX1 MM1)) (fun MX1 => qX12_row y1 MM (fun b MM1 => Rel (k + 1) MX1 MM1)) := by
  refine fmX11_row (sX11_row (p1 := y1) hR.1 (Q := fun _ M' => IX M') (E := fun M' => IX M') (fun _ _ h => h) (fun _ h => h)) ?_ ?_
  · intro z MX1 fX hX
    refine fmX12_row (sX12_row (p1 := y1) hR.2.1 (Q := fun _ M' => IM (60000 * (k : Int)) M') (fun _ _ h => h)) ?_
    intro b MM1 fM hM
    exact hR.q hX hM (by omega) (fX 156 1 (by first | omega | exact fun h => h)) (fM 1 14 (by first | omega | exact fun h => h)) (fX 182 2 (by first | omega | exact fun h => h)) (fM 1 45 (by first | omega | exact fun h => h)) (fun j => fX 157 j (by first | omega | exact fun h => h)) (fun j => fM 7 j (by first | omega | exact fun h => h)) (fun j => ⟨fX 183 j (by first | omega | exact fun h => h), fX 184 j (by first | omega | exact fun h => h), fM 26 j (by first | omega | exact fun h => h), fM 27 j (by first | omega | exact fun h => h)⟩) (fun k j q => fX k j (by first | omega | exact fun h => h)) (fun k j q => fM k j (by first | omega | exact fun h => h))
  · intro MX1 fX hX
    refine fmX12_row (sX12_row (p1 := y1) hR.2.1 (Q := fun _ M' => IM (60000 * (k : Int)) M') (fun _ _ h => h)) ?_
    intro b MM1 fM hM
    exact hR.q hX hM (by omega) (fX 156 1 (by first | omega | exact fun h => h)) (fM 1 14 (by first | omega | exact fun h => h)) (fX 182 2 (by first | omega | exact fun h => h)) (fM 1 45 (by first | omega | exact fun h => h)) (fun j => fX 157 j (by first | omega | exact fun h => h)) (fun j => fM 7 j (by first | omega | exact fun h => h)) (fun j => ⟨fX 183 j (by first | omega | exact fun h => h), fX 184 j (by first | omega | exact fun h => h), fM 26 j (by first | omega | exact fun h => h), fM 27 j (by first | omega | exact fun h => h)⟩) (fun k j q => fX k j (by first | omega | exact fun h => h)) (fun k j q => fM k j (by first | omega | exact fun h => h))
end
section
/-! ONE HEARSE, ONE MOURNER -/
theorem up_00 (M : Mem) {k : Nat} {j : Int} (h : ¬ (k = 1 ∧ j = 0)) : up2 M 1 0 0 k j = M k j := by
  rw [up2_a]
  by_cases c : k = 1
  · rw [if_pos c, if_neg (fun q => h ⟨c, q⟩)]
  · rw [if_neg c]
end
section
/-! A TRIAL on both sides: the row of now, over what stood in the other row -/
def cr (f g : Int → Int) : Int → Int := fun j => if 0 ≤ j ∧ j < 38 then f j else g j
theorem cr_i {f g : Int → Int} {j : Int} (h : 0 ≤ j) (h2 : j < 38) : cr f g j = f j := by unfold cr; rw [if_pos ⟨h, h2⟩]
theorem WR.cr {E : Mem} {r g : Int → Int} (h : WR E r) (hE : EBx E) : WR E (cr r g) := h.cg hE (fun j p q => cr_i p q)
theorem SC.cr {E M : Mem} {k : Nat} {r g : Int → Int} (h : SC E M k r) (hE : EBx E) : SC E M k (cr r g) := h.cg hE (fun j p q => cr_i p q)
theorem gX12_copiesC_L2 {Q : Mem → Prop} {b : Int} {M0 : Mem} (hQ : ∀ M' : Mem, IM b M' → FrJ (fun k _ => k = 6) M0 M' → M' 6 = cr (M0 5) (M0 6) → Q M') : ∀ (n : Nat) (v1 : Int) (M : Mem), IM b M → FrJ (fun k _ => k = 6) M0 M → (∀ j, M 6 j = if 0 ≤ j ∧ j < v1 then M0 5 j else M0 6 j) → (0 ≤ v1 ∧ v1 ≤ 38) → 38 - v1 < (n : Int) → qX12_copies_L2 Q n v1 M := by
  intro n
  induction n with
  | zero => intro v1 M hI hF hs hv hm; exact absurd hm (by omega)
  | succ n ih =>
    intro v1 M hI hF hs hv hm
    rw [qX12_copies_L2]
    refine ⟨⟨by omega, by omega⟩, ⟨fun c => hQ _ hI hF ?_, fun c => ⟨by omega, by omega, ?_⟩⟩⟩
    · funext j
      rw [hs j, show v1 = 38 from by omega]
      rfl
    intro x5 e5 _ M6 h6
    have hn : BN b v1 x5 := by rw [e5]; exact (bm_n (Or.inl rfl)).mp (hI.bx _ _)
    refine ih _ _ (by rw [h6]; exact hI.up (by omega) ((bm_n (Or.inr rfl)).mpr hn)) (by rw [h6]; exact hF.up rfl) ?_ (by omega) (by omega)
    intro j
    rw [h6]
    by_cases cj : j = v1
    · rw [cj, up2_s, e5, if_pos ⟨hv.1, by omega⟩]
      exact hF 5 v1 (by omega)
    · rw [up2_j cj, hs j]
      by_cases cc : 0 ≤ j ∧ j < v1
      · rw [if_pos cc, if_pos ⟨cc.1, by omega⟩]
      · rw [if_neg cc, if_neg (fun q => cc ⟨q.1, by omega⟩)]
theorem gX12_copiesC {b : Int} {M : Mem} {Q : Mem → Prop} (hI : IM b M) (hQ : ∀ M' : Mem, IM b M' → FrJ (fun k _ => k = 6) M M' → M' 6 = cr (M 5) (M 6) → Q M') : qX12_copies M Q := by
  unfold qX12_copies
  exact ⟨39, gX12_copiesC_L2 hQ _ _ _ hI FrJ.rf (fun j => by rw [if_neg (by omega)]) (by omega) (by omega)⟩
-- the thrown flag is put out ahead of every call
theorem th0 {b : Int} {M M1 E : Mem} (hI : IM b M) (hE : CE E M) (h1 : M1 = up2 M 1 0 0) : IM b M1 ∧ CE E M1 ∧ M1 5 = M 5 ∧ M1 6 = M 6 ∧ ∀ (k : Nat) (j : Int), ¬ (k = 1 ∧ j = 0) → M1 k j = M k j := by
  subst h1
  exact ⟨hI.up (by omega) (by simp [BM]), fun k j h => by rw [up_00 M (by rcases h with h | h | h | h | h <;> omega)]; exact hE k j h, up2_n (by decide), up2_n (by decide), fun k j h => up_00 M h⟩
theorem CE.c6 {E M M' : Mem} (h : CE E M) (f : FrJ (fun k _ => k = 6) M M') : CE E M' := h.fr f (by intro k j h; rcases h with h | h | h | h | h <;> omega)
-- one step of a trial of the class
-- what is told
theorem tell1 {p1 : Int} {M : Mem} {Q : Mem → Prop} (hI : IX M) (hQ : ∀ M' : Mem, IX M' → Ks (fun k j => k = 0 ∨ (k = 167 ∧ j = 1)) M M' → Q M') : qX4_tellOne p1 M Q := fmX4_tellOne (sX4_tellOne (p1 := p1) hI (Q := fun M' => IX M') (fun _ h => h)) (fun M' k i => hQ M' i k)
theorem entC {p1 b : Int} {M : Mem} {Q : Mem → Prop} (hI : IM b M) (hp : M 1 1 ≤ 23) (hQ : ∀ M' : Mem, IM b M' → Ks (fun k j => k = 0 ∨ (k = 1 ∧ j = 1)) M M' → M' 1 1 = M 1 1 + 1 → Q M') : qX12_enters p1 M Q := fmX12_enters (sX12_enters (p1 := p1) hI hp (Q := fun M' => IM b M' ∧ M' 1 1 = M 1 1 + 1) (fun _ h e => ⟨h, e⟩)) (fun M' k i => hQ M' i.1 k i.2)
/-! WHEN ONE ARRIVES -/
/-! WHERE ONE ENDS -/
end
section
/-! THE LINE, AHEAD, PASSING -/
theorem add1 {p1 : Int} {M : Mem} {Q : Mem → Prop} (hI : IX M) (hn : M 167 1 ≤ 7) (hQ : ∀ M' : Mem, IX M' → Ks (fun k j => k = 0 ∨ (k = 167 ∧ j = 1)) M M' → M' 167 1 = M 167 1 + 1 → Q M') : qX4_add p1 M Q := by
  have b := bx_c167_1.mp (hI.bx 167 1)
  unfold qX4_add
  intro x1 e1 _
  refine ⟨fun c => by omega, fun c => ?_⟩
  intro x3 e3 _
  refine ⟨by omega, by omega, ?_⟩
  intro M6 h6 x7 e7 _
  have f7 : x7 = M 167 1 := by rw [e7, h6, up2_n (by decide)]
  have i6 : IX M6 := by rw [h6]; exact hI.up (by decide) (by simp [BX])
  refine ⟨⟨by omega, by omega⟩, ?_⟩
  intro M9 h9
  refine hQ M9 (by rw [h9]; exact i6.up (by decide) (bx_c167_1.mpr ⟨by omega, by omega⟩)) ?_ (by rw [h9, up2_s, f7])
  rw [h9, h6]
  exact (Ks.rf.wr (Or.inl rfl)).wr (Or.inr ⟨rfl, rfl⟩)
-- passing
end
section
/-! YEARS -/
end
section
/-! THE END on the reference's side; how many end right -/
theorem CE.eb {E M : Mem} {b : Int} (h : CE E M) (hI : IM b M) : EBx E := by
  have a := h.h hI
  have o := h.o hI
  have g := h.g hI
  have e3 : M 1 3 = E 1 3 := h 1 3 cE13
  have e4 : M 1 4 = E 1 4 := h 1 4 cE14
  have e5 : M 1 5 = E 1 5 := h 1 5 cE15
  exact ⟨by omega, by omega, by omega⟩
/-- beyond a row's numbers -/
def OUT (g r : Int → Int) : Prop := ∀ j : Int, (j < 0 ∨ 38 ≤ j) → r j = g j
theorem hsF_out {E : Mem} {j : Int} (hj : j < 0 ∨ 38 ≤ j) : ∀ (l : List Int) (r : Int → Int), (∀ x, x ∈ l → 0 ≤ x ∧ x ≤ 5) → hsF E l r j = r j := by
  intro l
  induction l with
  | nil => intro r _; rfl
  | cons a t ih =>
    intro r hl
    have ha := hl a List.mem_cons_self
    show hsF E t (mhF E r a) j = r j
    rw [ih (mhF E r a) (fun x hx => hl x (List.mem_cons_of_mem _ hx)), mhF_o (by omega) (by omega) (by omega)]
theorem stF_out {E : Mem} {r : Int → Int} (hE : EBx E) : OUT r (stF E r) := by
  intro j hj
  have f := hE.f
  have g := hE.2
  have m : ∀ n : Nat, n ≤ 8 → ∀ r : Int → Int, msF E n r j = r j := by
    intro n
    induction n with
    | zero => intro _ r; rfl
    | succ n ih =>
      intro hn r
      show (if 0 ≤ msF E n r (29 + n) then msF E n r else mmF E (msF E n r) n) j = _
      split
      · exact ih (by omega) r
      · rw [mmF_o (by omega)]
        exact ih (by omega) r
  unfold stF
  rw [up_j (by omega), m (eO E) (by omega), hsF_out hj _ _ (ln_x hE).1.i]
theorem itF_out {E : Mem} {r : Int → Int} (hE : EBx E) : ∀ n : Nat, OUT r (itF E n r) := by
  intro n
  induction n with
  | zero => intro j _; rfl
  | succ n ih =>
    intro j hj
    show stF E (itF E n r) j = r j
    rw [stF_out hE j hj]
    exact ih j hj
end
section
/-! TRIALS: now, as something is otherwise, up to THE END -/
abbrev kTr (l k : Nat) (j : Int) : Prop := (8 ≤ k ∧ k ≤ 21) ∨ (160 ≤ k ∧ k ≤ 162) ∨ k = l + 3 ∨ k = l + 4
/-- where a call of the class begins: what of it stands over trials -/
def TB (E M0 : Mem) (l : Nat) : Prop := IX M0 ∧ (M0 155 16).toNat = l ∧ (l = 187 ∨ l = 192) ∧ STR E M0 ∧ LAW E M0 l ∧ WFC (E 11) (E 1 24) ∧ 0 ≤ E 1 24
theorem TB.S {E M0 M : Mem} {l : Nat} (h : TB E M0 l) (hK : Ks (kTr l) M0 M) : STR E M := by
  have hl := h.2.2.1
  exact h.2.2.2.1.fr (hK _ _ (by omega)) (hK _ _ (by omega)) (hK _ _ (by omega)) (fun j => hK 159 j (by omega))
theorem TB.L {E M0 M : Mem} {l : Nat} (h : TB E M0 l) (hK : Ks (kTr l) M0 M) : LAW E M l := by
  have hl := h.2.2.1
  exact h.2.2.2.2.1.fr (hK _ _ (by omega)) (hK _ _ (by omega)) (fun j => hK _ j (by omega)) (fun j => hK _ j (by omega))
theorem TB.l {E M0 M : Mem} {l : Nat} (h : TB E M0 l) (hK : Ks (kTr l) M0 M) : (M 155 16).toNat = l := by
  have hl := h.2.2.1
  rw [hK 155 16 (by omega)]
  exact h.2.1
theorem trC {E M0 M : Mem} {l : Nat} {r : Int → Int} {Q : Mem → Prop} (h : TB E M0 l) (hC0 : SC E M0 1 r) (hI : IX M) (hK : Ks (kTr l) M0 M) (hQ : ∀ M' : Mem, IX M' → Ks (kTr l) M0 M' → SC E M' 8 r → Q M') : qX6_copyFrom 8 1 M Q := by
  have hl := h.2.2.1
  refine gX6_copyFrom hI (show isS 8 by decide) (show isS 1 by decide) (by decide) ?_
  intro M' i' k' s' _
  refine hQ M' i' (hK.tr (k'.mono (by intro k j q; omega))) (s' E r (hC0.fr (fun i j hi => hK _ j (by omega))))
-- the reference
theorem cr_o {r g g' : Int → Int} (h : OUT g g') : cr r g' = cr r g := by
  funext j
  unfold cr
  by_cases c : 0 ≤ j ∧ j < 38
  · rw [if_pos c, if_pos c]
  · rw [if_neg c, if_neg c]
    exact h j (by omega)
theorem OUT.cr (r g : Int → Int) : OUT g (cr r g) := fun j hj => by exact if_neg (by omega)
theorem OUT.tr {g r s : Int → Int} (h : OUT g r) (h2 : OUT r s) : OUT g s := fun j hj => (h2 j hj).trans (h j hj)
theorem OUT.up {g r : Int → Int} {i v : Int} (h : OUT g r) (hi : 0 ≤ i ∧ i < 38) : OUT g (up r i v) := fun j hj => by rw [up_j (by omega)]; exact h j hj
def TM (E : Mem) (b : Int) (r5 g : Int → Int) (M : Mem) : Prop := IM b M ∧ CE E M ∧ M 5 = r5 ∧ OUT g (M 6)
theorem TM.mono {E M : Mem} {b b' : Int} {r5 g : Int → Int} (h : TM E b r5 g M) (hb : b ≤ b') : TM E b' r5 g M := ⟨h.1.mono hb, h.2⟩
theorem cpM {E M : Mem} {b : Int} {r5 g : Int → Int} {Q : Mem → Prop} (h : TM E b r5 g M) (hQ : ∀ M' : Mem, TM E b r5 g M' → M' 6 = cr r5 g → Q M') : qX12_copies M Q := by
  obtain ⟨hI, hE, h5, h6⟩ := h
  refine gX12_copiesC hI ?_
  intro M' i' f' e'
  rw [h5, cr_o h6] at e'
  refine hQ M' ⟨i', hE.c6 f', ?_, ?_⟩ e'
  · rw [← h5]
    exact funext fun j => f' 5 j (by omega)
  · rw [e']
    exact OUT.cr _ _
theorem goM' {E M : Mem} {b n : Int} {r5 g : Int → Int} {Q : Mem → Prop} (h : TM E b r5 g M) (hn : n ≤ 200) (hb : b + 200 ≤ 2000000000) (hQ : ∀ M' : Mem, TM E (b + 200) r5 g M' → M' 6 = itF E n.toNat (M 6) → Q M') : qX12_goesOn 6 n M Q := by
  obtain ⟨hI, hE, h5, h6⟩ := h
  have E0 := hE.eb hI
  refine fmX12_goesOn (gX12_goesOn (p2 := n) hI hE hb (Or.inr rfl) hn (Q := fun M' => IM (b + 200) M' ∧ CE E M' ∧ M' 6 = itF E n.toNat (M 6)) (fun M' i e o => ⟨i, e, o⟩)) ?_
  intro M' f' q
  obtain ⟨i', e', o'⟩ := q
  refine hQ M' ⟨i', e', ?_, ?_⟩ o'
  · rw [← h5]
    exact funext fun j => f' 5 j (by omega)
  · rw [o']
    exact h6.tr (itF_out E0 _)
/-! RIGHT -/
end
section
/-! A HEARSE TAKEN AWAY: rows that are alike as far as steps see -/
def SIM (E : Mem) (r s : Int → Int) : Prop := (∀ j : Int, 0 ≤ j → j < 6 → s j = r j) ∧ s 37 = r 37 ∧ ∀ m : Int, 0 ≤ m → m < E 1 5 → s (13 + m) = r (13 + m) ∧ s (29 + m) = r (29 + m) ∧ (r (29 + m) < 0 → s (21 + m) = r (21 + m)) ∧ ∀ x : Int, 0 ≤ x → x < E 1 4 → 0 ≤ r x → (r (21 + m) = x ↔ s (21 + m) = x)
theorem SIM.rf (E : Mem) (r : Int → Int) : SIM E r r := ⟨fun _ _ _ => rfl, rfl, fun _ _ _ => ⟨rfl, rfl, fun _ => rfl, fun _ _ _ _ => Iff.rfl⟩⟩
theorem SIM.on {E : Mem} {r s : Int → Int} (h : SIM E r s) (hE : EBx E) (v : Int) : onF s (eH E) v = onF r (eH E) v := by
  have f := hE.f
  have g := hE.2
  exact onF_cg (fun i p q => by rw [h.1 i p (by omega)])
theorem bitF_ci {f g : Int → Int} {x : Int} : ∀ n : Nat, (∀ i : Int, 0 ≤ i → i < n → (f i = x ↔ g i = x)) → bitF f x n = bitF g x n := by
  intro n
  induction n with
  | zero => intro _; rfl
  | succ n ih =>
    intro h
    have e := h n (by omega) (by omega)
    unfold bitF
    rw [ih (fun i a q => h i a (by omega))]
    by_cases c : f n = x
    · rw [if_pos c, if_pos (e.mp c)]
    · rw [if_neg c, if_neg (fun q => c (e.mpr q))]
theorem SIM.mh {E : Mem} {r s : Int → Int} {x : Int} (h : SIM E r s) (hE : EBx E) (hx : 0 ≤ x ∧ x < E 1 4) (hr : 0 ≤ r x) : SIM E (mhF E r x) (mhF E s x) := by
  have f := hE.f
  have g := hE.2
  have sx : s x = r x := h.1 x hx.1 (by omega)
  have on := h.on hE
  have pa : paF E s x = paF E r x := by
    have e : envF E s x = envF E r x := by
      funext l
      unfold envF
      rw [sx, h.2.1]
      rw [frF_cg (c := s) (d := r) on, bitF_ci (f := fun m => s (21 + m)) (g := fun m => r (21 + m)) (x := x) (eO E) (fun i p q => ((h.2.2 i p (by omega)).2.2.2 x hx.1 hx.2 hr).symm)]
    unfold paF
    rw [e]
  have go : goF E s x (paF E s x) = goF E r x (paF E r x) := by
    have e : okF E s (s x) = okF E r (r x) := by
      funext z
      unfold okF
      rw [sx]
      simp only [on]
    unfold goF
    rw [e, pa, sx]
  -- what changes: the hearse's own numbers alone
  have key : ∀ (a b : Int → Int), (∀ j, j ≠ x → j ≠ 6 + x → j ≠ 12 → a j = r j) → (∀ j, j ≠ x → j ≠ 6 + x → j ≠ 12 → b j = s j) → b x = a x → SIM E a b := by
    intro a b ha hb hab
    refine ⟨fun j p q => ?_, ?_, fun m p q => ?_⟩
    · by_cases c : j = x
      · rw [c]; exact hab
      · rw [ha j c (by omega) (by omega), hb j c (by omega) (by omega)]
        exact h.1 j p q
    · rw [ha 37 (by omega) (by omega) (by omega), hb 37 (by omega) (by omega) (by omega)]
      exact h.2.1
    · obtain ⟨h1, h2, h3, h4⟩ := h.2.2 m p q
      rw [ha (13 + m) (by omega) (by omega) (by omega), hb (13 + m) (by omega) (by omega) (by omega), ha (29 + m) (by omega) (by omega) (by omega), hb (29 + m) (by omega) (by omega) (by omega), ha (21 + m) (by omega) (by omega) (by omega), hb (21 + m) (by omega) (by omega) (by omega)]
      refine ⟨h1, h2, h3, fun y y0 y1 yr => ?_⟩
      by_cases c : y = x
      · rw [c]; exact h4 x hx.1 hx.2 hr
      · rw [ha y c (by omega) (by omega)] at yr
        exact h4 y y0 y1 yr
  unfold mhF
  rw [go, sx]
  by_cases c1 : goF E r x (paF E r x) = r x
  · rw [if_pos c1, if_pos c1]
    exact h
  · rw [if_neg c1, if_neg c1]
    by_cases c2 : goF E r x (paF E r x) = eG E
    · rw [if_pos c2, if_pos c2]
      refine key _ _ (fun j a b c => by rw [up_j a, up_j b, up_j c]) (fun j a b c => by rw [up_j a, up_j b, up_j c]) (by rw [upS, upS])
    · rw [if_neg c2, if_neg c2]
      exact key _ _ (fun j a b c => up_j a) (fun j a b c => up_j a) (by rw [upS, upS])
theorem SIM.hs {E : Mem} (hE : EBx E) : ∀ (l : List Int) (r s : Int → Int), VL (eG E) r l → (∀ x, x ∈ l → x < E 1 4) → SIM E r s → SIM E (hsF E l r) (hsF E l s) := by
  intro l
  induction l with
  | nil => intro r s _ _ h; exact h
  | cons a t ih =>
    intro r s hV hl h
    obtain ⟨v1, v2, v3⟩ := hV
    have ha := hl a List.mem_cons_self
    show SIM E (hsF E t (mhF E r a)) (hsF E t (mhF E s a))
    refine ih _ _ (v3.cg (fun x hx => ?_)) (fun x hx => hl x (List.mem_cons_of_mem _ hx)) (h.mh hE ⟨v1.1, ha⟩ v1.2.2.1)
    have b := v3.i x hx
    exact mhF_oo v1.1 (by omega) (v2 x hx)
theorem SIM.mm {E : Mem} {r s : Int → Int} {m : Int} (h : SIM E r s) (hE : EBx E) (hW : WR E r) (hm : 0 ≤ m ∧ m < E 1 5) (he : r (29 + m) < 0) : SIM E (mmF E r m) (mmF E s m) := by
  have f := hE.f
  have g := hE.2
  obtain ⟨h1, h2, h3, h4⟩ := h.2.2 m hm.1 hm.2
  have b := (hW.2.2.1 m hm.1 hm.2).1
  have e21 := h3 he
  have near : nearF s (s (13 + m)) (eH E) = nearF r (r (13 + m)) (eH E) := by
    rw [h1]
    exact nearF_cg _ (fun i p q => h.1 i p (by omega))
  have nb := nearF_b r (r (13 + m)) (eH E)
  have at' : ∀ x : Int, 0 ≤ x → x < E 1 4 → s x = r x := fun x p q => h.1 x p (by omega)
  have key : ∀ (a b' : Int → Int), (∀ j, j ≠ 13 + m → j ≠ 21 + m → j ≠ 29 + m → a j = r j) → (∀ j, j ≠ 13 + m → j ≠ 21 + m → j ≠ 29 + m → b' j = s j) → b' (13 + m) = a (13 + m) → b' (21 + m) = a (21 + m) → b' (29 + m) = a (29 + m) → SIM E a b' := by
    intro a b' ha hb k1 k2 k3
    refine ⟨fun j p q => ?_, ?_, fun i p q => ?_⟩
    · rw [ha j (by omega) (by omega) (by omega), hb j (by omega) (by omega) (by omega)]
      exact h.1 j p q
    · rw [ha 37 (by omega) (by omega) (by omega), hb 37 (by omega) (by omega) (by omega)]
      exact h.2.1
    · by_cases c : i = m
      · rw [c]
        exact ⟨k1, k3, fun _ => k2, fun y _ _ _ => by rw [k2]⟩
      · rw [ha (13 + i) (by omega) (by omega) (by omega), hb (13 + i) (by omega) (by omega) (by omega), ha (21 + i) (by omega) (by omega) (by omega), hb (21 + i) (by omega) (by omega) (by omega), ha (29 + i) (by omega) (by omega) (by omega), hb (29 + i) (by omega) (by omega) (by omega)]
        obtain ⟨q1, q2, q3, q4⟩ := h.2.2 i p q
        refine ⟨q1, q2, q3, fun y y0 y1 yr => ?_⟩
        rw [ha y (by omega) (by omega) (by omega)] at yr
        exact q4 y y0 y1 yr
  unfold mmF
  by_cases c1 : 0 ≤ r (21 + m) ∧ r (r (21 + m)) < 0
  · have c1' : 0 ≤ s (21 + m) ∧ s (s (21 + m)) < 0 := by rw [e21, at' _ c1.1 b.2]; exact c1
    rw [if_pos c1, if_pos c1']
    exact key _ _ (fun j _ _ c => up_j c) (fun j _ _ c => up_j c) (by rw [up_j (by omega), up_j (by omega)]; exact h1) (by rw [up_j (by omega), up_j (by omega)]; exact e21) (by rw [upS, upS]; exact e21)
  · have c1' : ¬ (0 ≤ s (21 + m) ∧ s (s (21 + m)) < 0) := fun q => by
      rw [e21] at q
      exact c1 ⟨q.1, by rw [← at' _ q.1 b.2]; exact q.2⟩
    rw [if_neg c1, if_neg c1']
    have ch : chF E s m ↔ chF E r m := by
      show (0 ≤ nearF s (s (13 + m)) (eH E) ∧ (s (21 + m) < 0 ∨ ab (s (nearF s (s (13 + m)) (eH E)) - s (13 + m)) < ab (s (s (21 + m)) - s (13 + m)))) ↔ (0 ≤ nearF r (r (13 + m)) (eH E) ∧ (r (21 + m) < 0 ∨ ab (r (nearF r (r (13 + m)) (eH E)) - r (13 + m)) < ab (r (r (21 + m)) - r (13 + m))))
      rw [near, e21, h1]
      by_cases n0 : 0 ≤ nearF r (r (13 + m)) (eH E)
      · rw [at' _ n0 (by omega)]
        by_cases f0 : r (21 + m) < 0
        · exact ⟨fun q => ⟨q.1, Or.inl f0⟩, fun q => ⟨q.1, Or.inl f0⟩⟩
        · rw [at' _ (by omega) b.2]
      · exact ⟨fun q => absurd q.1 n0, fun q => absurd q.1 n0⟩
    by_cases c2 : chF E r m
    · rw [if_pos c2, if_pos (ch.mpr c2)]
      have n0 : 0 ≤ nearF r (r (13 + m)) (eH E) := c2.1
      have gm : goM s m (nearF s (s (13 + m)) (eH E)) = goM r m (nearF r (r (13 + m)) (eH E)) := by
        rw [near]
        unfold goM
        rw [h1, at' _ n0 (by omega)]
      exact key _ _ (fun j a c _ => by rw [up_j a, up_j c]) (fun j a c _ => by rw [up_j a, up_j c]) (by rw [upS, upS]; exact gm) (by rw [up_j (by omega), upS, up_j (by omega), upS]; exact near) (by rw [up_j (by omega), up_j (by omega), up_j (by omega), up_j (by omega)]; exact h2)
    · rw [if_neg c2, if_neg (fun q => c2 (ch.mp q))]
      by_cases c3 : r (21 + m) < 0
      · rw [if_pos c3, if_pos (show s (21 + m) < 0 by omega)]
        exact h
      · rw [if_neg c3, if_neg (show ¬ s (21 + m) < 0 by omega)]
        have gm : goM s m (s (21 + m)) = goM r m (r (21 + m)) := by
          unfold goM
          rw [h1, e21, at' _ (by omega) b.2]
        exact key _ _ (fun j a _ _ => up_j a) (fun j a _ _ => up_j a) (by rw [upS, upS]; exact gm) (by rw [up_j (by omega), up_j (by omega)]; exact e21) (by rw [up_j (by omega), up_j (by omega)]; exact h2)
theorem SIM.st {E : Mem} {r s : Int → Int} (h : SIM E r s) (hE : EBx E) (hW : WR E r) : SIM E (stF E r) (stF E s) := by
  have f := hE.f
  have g := hE.2
  have l := ln_x (r := r) hE
  have el : lnL s (eH E) (eG E).toNat = lnL r (eH E) (eG E).toNat := lnL_cg _ (fun v _ _ => h.on hE v)
  have w := hW.hs hE _ _ l.1 l.2
  have h1 := SIM.hs hE _ r s l.1 l.2 h
  have ms : ∀ n : Nat, (n : Int) ≤ E 1 5 → SIM E (msF E n (hsF E (lnL r (eH E) (eG E).toNat) r)) (msF E n (hsF E (lnL r (eH E) (eG E).toNat) s)) := by
    intro n
    induction n with
    | zero => intro _; exact h1
    | succ n ih =>
      intro hn
      have i := ih (by omega)
      have wn := w.ms hE n (by omega)
      have e29 := (i.2.2 n (by omega) (by omega)).2.1
      show SIM E (if 0 ≤ msF E n (hsF E (lnL r (eH E) (eG E).toNat) r) (29 + n) then msF E n (hsF E (lnL r (eH E) (eG E).toNat) r) else mmF E (msF E n (hsF E (lnL r (eH E) (eG E).toNat) r)) n) (if 0 ≤ msF E n (hsF E (lnL r (eH E) (eG E).toNat) s) (29 + n) then msF E n (hsF E (lnL r (eH E) (eG E).toNat) s) else mmF E (msF E n (hsF E (lnL r (eH E) (eG E).toNat) s)) n)
      rw [e29]
      by_cases c : 0 ≤ msF E n (hsF E (lnL r (eH E) (eG E).toNat) r) (29 + n)
      · rw [if_pos c, if_pos c]
        exact i
      · rw [if_neg c, if_neg c]
        exact i.mm hE wn ⟨by omega, by omega⟩ (by omega)
  have k := ms (eO E) (by omega)
  unfold stF
  rw [el]
  refine ⟨fun j p q => ?_, ?_, fun m p q => ?_⟩
  · rw [up_j (by omega), up_j (by omega)]
    exact k.1 j p q
  · rw [upS, upS, k.2.1]
  · rw [up_j (show 13 + m ≠ 37 by omega), up_j (show 13 + m ≠ 37 by omega), up_j (show 29 + m ≠ 37 by omega), up_j (show 29 + m ≠ 37 by omega), up_j (show 21 + m ≠ 37 by omega), up_j (show 21 + m ≠ 37 by omega)]
    obtain ⟨q1, q2, q3, q4⟩ := k.2.2 m p q
    refine ⟨q1, q2, q3, fun y y0 y1 yr => ?_⟩
    rw [up_j (by omega)] at yr
    exact q4 y y0 y1 yr
theorem SIM.it {E : Mem} {r s : Int → Int} (h : SIM E r s) (hE : EBx E) (hW : WR E r) : ∀ n : Nat, SIM E (itF E n r) (itF E n s) := by
  intro n
  induction n with
  | zero => exact h
  | succ n ih => exact ih.st hE (hW.it hE n)
theorem grv.tr {E : Mem} {r s t : Int → Int} (h : grv E r s) (h2 : grv E s t) : grv E r t := fun m p q => (h m p q).trans (h2 m p q)
end
section
/-! WHAT FITS WHAT WAS HEARD -/
def soF (E : Mem) (t : Int → Int) (h k v : Int) : Prop := if k = 0 then v ≤ bcF (bitF (E 3) h (eO E)) else if k = 1 then t (6 + h) = v else if k = 2 then v ≤ bcF (bitF (fun m => t (29 + m)) h (eO E)) else rmI h 2 = v
def ftP (E : Mem) (t kk vv : Int → Int) (n h : Int) : Prop := ∀ i : Int, 0 ≤ i → i < n → soF E t h (kk i) (vv i)
noncomputable def ftB (E : Mem) (t kk vv : Int → Int) (n : Int) : Int := bitF (fun h => @ite Int (ftP E t kk vv n h) (Classical.propDecidable _) 1 0) 1 (eH E)
theorem soF_cb {E : Mem} {t : Int → Int} {h k v : Int} (hc : CBv k v) : k = 0 ∨ k = 1 ∨ k = 2 ∨ k = 3 := by unfold CBv at hc; omega
theorem gX0_isOneTrueOf {p2 p3 : Int} {M E : Mem} {t : Int → Int} {Q : Int → Mem → Prop} (hS : STR E M) (hC : SC E M 8 t) (hp2 : 0 ≤ p2 ∧ p2 < E 1 4) (hp3 : 0 ≤ p3 ∧ p3 ≤ 7) (hc : CBv (M 183 p3) (M 184 p3)) (hQ : ∀ z : Int, (z = 1 ∧ soF E t p2 (M 183 p3) (M 184 p3) ∨ z = 0 ∧ ¬ soF E t p2 (M 183 p3) (M 184 p3)) → Q z M) : qX0_isOneTrueOf 8 p2 p3 M Q := by
  have hE := hS.eb
  have g := hE.2
  have f := hE.f
  have kc := soF_cb (E := E) (t := t) (h := p2) hc
  unfold soF at hQ
  unfold qX0_isOneTrueOf
  refine ⟨hp3.1, by omega, ?_⟩
  intro x3 e3 _
  rw [← e3] at hQ kc
  refine ⟨fun c => ?_, fun c => ?_, fun c => ?_, fun c => ?_⟩
  · rw [if_pos c] at hQ
    refine gX6_bitsOf hS hC.2.1 ?_
    rw [bitF_cg (f := M (8 + 4)) (g := E 3) (fun i p q => hC.2.2.2.2.2.2.1 i p (by omega))]
    intro _
    refine gJ6_bitCount ?_
    intro _ x7 e7 _
    exact ⟨fun d => hQ _ (Or.inr ⟨rfl, by omega⟩), fun d => hQ _ (Or.inl ⟨rfl, by omega⟩)⟩
  · rw [if_neg (by omega), if_pos c] at hQ
    refine ⟨hp2.1, by omega, ?_⟩
    intro x11 e11 _ x12 e12 _
    rw [hC.2.2.2.1 p2 hp2.1 (by omega)] at e11
    exact ⟨fun d => hQ _ (Or.inr ⟨rfl, by omega⟩), fun d => hQ _ (Or.inl ⟨rfl, by omega⟩)⟩
  · rw [if_neg (by omega), if_neg (by omega), if_pos c] at hQ
    refine gX6_bitsOf hS hC.2.1 ?_
    rw [bitF_cg (f := M (8 + 6)) (g := fun m => t (29 + m)) (fun i p q => hC.2.2.2.2.2.2.2.2.1 i p (by omega))]
    intro _
    refine gJ6_bitCount ?_
    intro _ x16 e16 _
    exact ⟨fun d => hQ _ (Or.inr ⟨rfl, by omega⟩), fun d => hQ _ (Or.inl ⟨rfl, by omega⟩)⟩
  · rw [if_neg (by omega), if_neg (by omega), if_neg (by omega)] at hQ
    intro x18 e18 _ x19 e19 _
    exact ⟨fun d => hQ _ (Or.inr ⟨rfl, by omega⟩), fun d => hQ _ (Or.inl ⟨rfl, by omega⟩)⟩
theorem gX0_isTrueOf_L2 {p2 n0 : Int} {M E : Mem} {t : Int → Int} {Q : Int → Mem → Prop} (hS : STR E M) (hC : SC E M 8 t) (hp2 : 0 ≤ p2 ∧ p2 < E 1 4) (hn : n0 = M 182 2) (hb : 0 ≤ n0 ∧ n0 ≤ 8) (hc : ∀ i, 0 ≤ i → i < n0 → CBv (M 183 i) (M 184 i)) (hQ : ∀ z : Int, (z = 1 ∧ ftP E t (M 183) (M 184) n0 p2 ∨ z = 0 ∧ ¬ ftP E t (M 183) (M 184) n0 p2) → Q z M) : ∀ (n : Nat) (v3 : Int), (0 ≤ v3 ∧ v3 ≤ n0) → (∀ i, 0 ≤ i → i < v3 → soF E t p2 (M 183 i) (M 184 i)) → n0 - v3 < (n : Int) → qX0_isTrueOf_L2 8 p2 Q n v3 M := by
  intro n
  induction n with
  | zero => intro v3 hv ha hm; exact absurd hm (by omega)
  | succ n ih =>
    intro v3 hv ha hm
    rw [qX0_isTrueOf_L2]
    intro x1 e1 _
    refine ⟨⟨by omega, by omega⟩, ⟨fun c => hQ 1 (Or.inl ⟨rfl, fun i p q => ha i p (by omega)⟩), fun c => ?_⟩⟩
    refine gX0_isOneTrueOf hS hC hp2 (by omega) (hc v3 hv.1 (by omega)) ?_
    intro z hz _ _
    refine ⟨fun d => ?_, fun d => hQ 0 (Or.inr ⟨rfl, fun a => ?_⟩)⟩
    · refine ih (v3 + 1) (by omega) (fun i p q => ?_) (by omega)
      by_cases e : i = v3
      · rw [e]
        rcases hz with u | u
        · exact u.2
        · omega
      · exact ha i p (by omega)
    · rcases hz with u | u
      · omega
      · exact u.2 (a v3 hv.1 (by omega))
theorem ft_i {P : Prop} : (@ite Int P (Classical.propDecidable _) 1 0 = 1) ↔ P := by
  by_cases c : P
  · rw [if_pos c]; exact ⟨fun _ => c, fun _ => rfl⟩
  · rw [if_neg c]; exact ⟨fun q => absurd q (by decide), fun q => absurd q c⟩
theorem gX11_fits_L33 {n0 : Int} {X75 : Int → Mem → Prop} {Q : Int → Mem → Prop} {M E : Mem} {t : Int → Int} (hS : STR E M) (hC : SC E M 8 t) (hn : n0 = M 182 2) (hb : 0 ≤ n0 ∧ n0 ≤ 8) (hc : ∀ i, 0 ≤ i → i < n0 → CBv (M 183 i) (M 184 i)) (hX : X75 (ftB E t (M 183) (M 184) n0) M) : ∀ (n : Nat) (v1 v2 : Int), v1 = bitF (fun h => @ite Int (ftP E t (M 183) (M 184) n0 h) (Classical.propDecidable _) 1 0) 1 v2.toNat → (0 ≤ v2 ∧ v2 ≤ E 1 4) → E 1 4 - v2 < (n : Int) → qX11_fits_L33 X75 Q n v1 v2 M := by
  have hE := hS.eb
  have g := hE.2
  have f := hE.f
  intro n
  induction n with
  | zero => intro v1 v2 h1 hv hm; exact absurd hm (by omega)
  | succ n ih =>
    intro v1 v2 h1 hv hm
    have hs := bitF_s (f := fun h => @ite Int (ftP E t (M 183) (M 184) n0 h) (Classical.propDecidable _) 1 0) (x := 1) hv.1
    rw [qX11_fits_L33]
    intro x4 e4 _
    rw [hC.1] at e4
    refine ⟨⟨by omega, by omega⟩, ⟨fun c => ?_, fun c => ?_⟩⟩
    · rw [h1, show v2.toNat = eH E from by omega]
      exact hX
    · unfold qX0_isTrueOf
      refine ⟨9, gX0_isTrueOf_L2 (p2 := v2) hS hC ⟨hv.1, by omega⟩ hn hb hc ?_ 9 0 (by omega) (fun i p q => by omega) (by omega)⟩
      intro z hz _ _
      refine ⟨fun d => ?_, fun d => ?_⟩
      · intro x9 e9 _
        refine ih _ _ ?_ (by omega) (by omega)
        have no : ¬ ftP E t (M 183) (M 184) n0 v2 := by
          rcases hz with u | u
          · omega
          · exact u.2
        rw [hs, if_neg (fun q => no (ft_i.mp q)), e9, h1]
      · intro x10 e10 _ x11 e11 _
        refine ih _ _ ?_ (by omega) (by omega)
        have yes : ftP E t (M 183) (M 184) n0 v2 := by
          rcases hz with u | u
          · exact u.2
          · omega
        rw [hs, if_pos (ft_i.mpr yes), e11, e10, h1]
theorem gX11_fits {M E : Mem} {l : Nat} {r : Int → Int} {Q : Int → Mem → Prop} (h : TB E M l) (hC : SC E M 1 r) (hW : WR E r) (h37 : r 37 ≤ 1999999000) (hb : 0 ≤ M 182 2 ∧ M 182 2 ≤ 8) (hc : ∀ i, 0 ≤ i → i < M 182 2 → CBv (M 183 i) (M 184 i)) (hQ : ∀ M' : Mem, IX M' → Q (ftB E (itF E 200 r) (M 183) (M 184) (M 182 2)) M') : qX11_fits M Q := by
  have hl := h.2.2.1
  have hE := h.2.2.2.1.eb
  have g := hE.2
  unfold qX11_fits
  refine trC h hC h.1 Ks.rf ?_
  intro M1 i1 k1 c1
  refine ⟨i1.l16, ?_⟩
  rw [h.l k1]
  refine gX10_walk i1 (show isS 8 by decide) hl (h.S k1) (h.L k1) h.2.2.2.2.2.1 c1 hW h37 (by decide) ?_
  intro M3 i3 k3 c3 w3
  have K3 : Ks (kTr l) M M3 := k1.tr (k3.mono (by intro k j q; omega))
  have e182 : M3 182 2 = M 182 2 := K3 182 2 (by omega)
  have e183 : M3 183 = M 183 := funext fun j => K3 183 j (by omega)
  have e184 : M3 184 = M 184 := funext fun j => K3 184 j (by omega)
  refine ⟨7, gX11_fits_L33 (E := E) (t := itF E 200 r) (n0 := M 182 2) (h.S K3) c3 e182.symm hb (by rw [e183, e184]; exact hc) ?_ 7 0 0 rfl (by omega) (by omega)⟩
  refine ⟨bitF_R _ _ _, ?_⟩
  refine gJ6_bitCount ?_
  intro _
  refine tell1 i3 ?_
  intro M15 i15 _
  rw [e183, e184]
  exact hQ M15 i15
-- the reference
theorem gX12_isSo {p1 p2 p3 b : Int} {M E : Mem} {Q : Int → Mem → Prop} (hI : IM b M) (hEE : CE E M) (hW : WR E (M 6)) (hp : 0 ≤ p1 ∧ p1 < E 1 4) (hc : CBv p2 p3) (hQ : ∀ z : Int, (z = 1 ∧ soF E (M 6) p1 p2 p3 ∨ z = 0 ∧ ¬ soF E (M 6) p1 p2 p3) → Q z M) : qX12_isSo p1 p2 p3 M Q := by
  have hE := hEE.eb hI
  have g := hE.2
  have kc := soF_cb (E := E) (t := M 6) (h := p1) hc
  have w := hW.2.1 p1 hp.1 hp.2
  unfold soF at hQ
  unfold qX12_isSo
  refine ⟨fun c => ?_, fun c => ?_, fun c => ?_, fun c => ?_⟩
  · rw [if_pos c] at hQ
    refine gX12_owners hI hEE ?_
    intro _
    refine gJ6_bitCount ?_
    intro _
    exact ⟨fun d => hQ _ (Or.inr ⟨rfl, by omega⟩), fun d => hQ _ (Or.inl ⟨rfl, by omega⟩)⟩
  · rw [if_neg (by omega), if_pos c] at hQ
    have v1 : 1 ≤ p3 := by unfold CBv at hc; omega
    refine gX12_isOn (k0 := 6) (by omega) ?_
    intro x5 h5 _ _
    refine ⟨fun d => hQ _ (Or.inr ⟨rfl, by omega⟩), fun d => ⟨by omega, by omega, ?_⟩⟩
    intro x9 e9 _
    exact ⟨fun d => hQ _ (Or.inr ⟨rfl, by omega⟩), fun d => hQ _ (Or.inl ⟨rfl, by omega⟩)⟩
  · rw [if_neg (by omega), if_neg (by omega), if_pos c] at hQ
    refine gX12_bitsBy (k1 := 6) hI hEE (by decide) ?_
    intro _
    refine gJ6_bitCount ?_
    intro _
    exact ⟨fun d => hQ _ (Or.inr ⟨rfl, by omega⟩), fun d => hQ _ (Or.inl ⟨rfl, by omega⟩)⟩
  · rw [if_neg (by omega), if_neg (by omega), if_neg (by omega)] at hQ
    intro x14 e14 _
    exact ⟨fun d => hQ _ (Or.inr ⟨rfl, by omega⟩), fun d => hQ _ (Or.inl ⟨rfl, by omega⟩)⟩
theorem gX12_fits_L37 {b n0 v1 v2 : Int} {X84 : Int → Int → Int → Mem → Prop} {Q : Int → Mem → Prop} {M E : Mem} {kk vv : Int → Int} (hI : IM b M) (hEE : CE E M) (hW : WR E (M 6)) (hp : 0 ≤ v2 ∧ v2 < E 1 4) (hn : n0 = M 1 45) (hb : 0 ≤ n0 ∧ n0 ≤ 8) (hk : ∀ i, 0 ≤ i → i < n0 → kk i = M 26 i ∧ vv i = M 27 i ∧ CBv (kk i) (vv i)) (hX : ∀ v3 : Int, (v3 = 1 ∧ ftP E (M 6) kk vv n0 v2 ∨ v3 = 0 ∧ ¬ ftP E (M 6) kk vv n0 v2) → X84 v1 v2 v3 M) : ∀ (n : Nat) (v3 v4 : Int), (0 ≤ v4 ∧ v4 ≤ n0) → (v3 = 1 ∧ (∀ i, 0 ≤ i → i < v4 → soF E (M 6) v2 (kk i) (vv i)) ∨ v3 = 0 ∧ ∃ i, 0 ≤ i ∧ i < v4 ∧ ¬ soF E (M 6) v2 (kk i) (vv i)) → n0 - v4 < (n : Int) → qX12_fits_L37 X84 Q n v1 v2 v3 v4 M := by
  have hE := hEE.eb hI
  have g := hE.2
  intro n
  induction n with
  | zero => intro v3 v4 hv h3 hm; exact absurd hm (by omega)
  | succ n ih =>
    intro v3 v4 hv h3 hm
    rw [qX12_fits_L37]
    intro x7 e7 _
    refine ⟨⟨by omega, by omega⟩, ⟨fun c => hX v3 ?_, fun c => ⟨by rcases h3 with q | q <;> exact ⟨by omega, by omega⟩, ⟨fun d => ?_, fun d => ⟨hv.1, by omega, ?_⟩⟩⟩⟩⟩
    · rcases h3 with ⟨a, q⟩ | ⟨a, i, p, q, u⟩
      · exact Or.inl ⟨a, fun i p r => q i p (by omega)⟩
      · exact Or.inr ⟨a, fun w => u (w i p (by omega))⟩
    · rcases h3 with ⟨a, q⟩ | ⟨a, i, p, q, u⟩
      · omega
      · exact ih 0 (v4 + 1) (by omega) (Or.inr ⟨rfl, i, p, by omega, u⟩) (by omega)
    · intro x14 e14 _ x15 e15 _
      obtain ⟨k1, k2, k3⟩ := hk v4 hv.1 (by omega)
      rw [k1, k2, ← e14, ← e15] at k3
      refine ⟨⟨by omega, by omega⟩, ?_⟩
      refine gX12_isSo hI hEE hW hp k3 ?_
      intro z hz _ _
      rw [e14, e15, ← k1, ← k2] at hz
      refine ⟨fun d2 => ih 0 (v4 + 1) (by omega) (Or.inr ⟨rfl, v4, hv.1, by omega, ?_⟩) (by omega), fun d2 => ih 1 (v4 + 1) (by omega) (Or.inl ⟨rfl, fun i p q => ?_⟩) (by omega)⟩
      · rcases hz with u | u
        · omega
        · exact u.2
      · by_cases e : i = v4
        · rw [e]
          rcases hz with u | u
          · exact u.2
          · omega
        · rcases h3 with ⟨a, w⟩ | ⟨a, _⟩
          · exact w i p (by omega)
          · omega
theorem gX12_fits_L24 {b n0 : Int} {X104 : Int → Mem → Prop} {Q : Int → Mem → Prop} {M E : Mem} {kk vv : Int → Int} (hI : IM b M) (hEE : CE E M) (hW : WR E (M 6)) (hn : n0 = M 1 45) (hb : 0 ≤ n0 ∧ n0 ≤ 8) (hk : ∀ i, 0 ≤ i → i < n0 → kk i = M 26 i ∧ vv i = M 27 i ∧ CBv (kk i) (vv i)) (hX : X104 (ftB E (M 6) kk vv n0) M) : ∀ (n : Nat) (v1 v2 : Int), v1 = bitF (fun h => @ite Int (ftP E (M 6) kk vv n0 h) (Classical.propDecidable _) 1 0) 1 v2.toNat → (0 ≤ v2 ∧ v2 ≤ E 1 4) → E 1 4 - v2 < (n : Int) → qX12_fits_L24 X104 Q n v1 v2 M := by
  have hE := hEE.eb hI
  have g := hE.2
  have f := hE.f
  intro n
  induction n with
  | zero => intro v1 v2 h1 hv hm; exact absurd hm (by omega)
  | succ n ih =>
    intro v1 v2 h1 hv hm
    have hs := bitF_s (f := fun h => @ite Int (ftP E (M 6) kk vv n0 h) (Classical.propDecidable _) 1 0) (x := 1) hv.1
    rw [qX12_fits_L24]
    intro x4 e4 _
    rw [hEE 1 4 cE14] at e4
    refine ⟨⟨by omega, by omega⟩, ⟨fun c => ?_, fun c => ?_⟩⟩
    · rw [h1, show v2.toNat = eH E from by omega]
      exact hX
    · refine ⟨9, gX12_fits_L37 (v1 := v1) (v2 := v2) hI hEE hW ⟨hv.1, by omega⟩ hn hb hk ?_ 9 1 0 (by omega) (Or.inl ⟨rfl, fun i p q => by omega⟩) (by omega)⟩
      intro v3 hz
      refine ⟨by rcases hz with u | u <;> exact ⟨by omega, by omega⟩, ⟨fun d => ?_, fun d => ?_⟩⟩
      · intro x22 e22 _
        refine ih _ _ ?_ (by omega) (by omega)
        have no : ¬ ftP E (M 6) kk vv n0 v2 := by
          rcases hz with u | u
          · omega
          · exact u.2
        rw [hs, if_neg (fun q => no (ft_i.mp q)), e22, h1]
      · intro x23 e23 _ x24 e24 _
        refine ih _ _ ?_ (by omega) (by omega)
        have yes : ftP E (M 6) kk vv n0 v2 := by
          rcases hz with u | u
          · exact u.2
          · omega
        rw [hs, if_pos (ft_i.mpr yes), e24, e23, h1]
theorem gX12_fits {b : Int} {M E : Mem} {kk vv : Int → Int} {Q : Int → Mem → Prop} (hI : IM b M) (hE : CE E M) (hW : WR E (cr (M 5) (M 6))) (hb : b + 200 ≤ 2000000000) (hk : ∀ i, 0 ≤ i → i < M 1 45 → kk i = M 26 i ∧ vv i = M 27 i ∧ CBv (kk i) (vv i)) (hQ : ∀ M' : Mem, IM (b + 200) M' → Q (ftB E (itF E 200 (cr (M 5) (M 6))) kk vv (M 1 45)) M') : qX12_fits M Q := by
  have E0 := hE.eb hI
  have g := E0.2
  have b45 := bm_c1_45.mp (hI.bx 1 45)
  unfold qX12_fits
  intro M1 h1
  obtain ⟨i1, E1, k5, k6, kk1⟩ := th0 hI hE h1
  refine fmX12_copies (cpM (b := b) (E := E) (r5 := M 5) (g := M 6) ⟨i1, E1, k5, by rw [k6]; exact fun _ _ => rfl⟩ (Q := fun M' => TM E b (M 5) (M 6) M' ∧ M' 6 = cr (M 5) (M 6)) (fun M' t e => ⟨t, e⟩)) ?_
  intro M2 f2 h2
  obtain ⟨t2, e2⟩ := h2
  refine fmX12_goesOn (goM' t2 (n := 200) (by decide) hb (Q := fun M' => TM E (b + 200) (M 5) (M 6) M' ∧ M' 6 = itF E 200 (cr (M 5) (M 6))) (fun M' t e => ⟨t, by rw [e, e2]; rfl⟩)) ?_
  intro M3 f3 h3
  obtain ⟨t3, e3⟩ := h3
  have K : ∀ (k : Nat) (j : Int), k = 26 ∨ k = 27 ∨ (k = 1 ∧ j = 45) → M3 k j = M k j := fun k j h => by rw [f3 k j (by omega), f2 k j (by omega), kk1 k j (by omega)]
  have e45 : M3 1 45 = M 1 45 := K 1 45 (by omega)
  have W3 : WR E (M3 6) := by rw [e3]; exact hW.it E0 200
  refine ⟨7, gX12_fits_L24 (E := E) (n0 := M 1 45) (kk := kk) (vv := vv) t3.1 t3.2.1 W3 e45.symm b45 (fun i p q => by rw [K 26 i (by omega), K 27 i (by omega)]; exact hk i p q) ?_ 7 0 0 rfl (by omega) (by omega)⟩
  intro M26 h26
  have i26 : IM (b + 200) M26 := by rw [h26]; exact t3.1.up (by omega) (bm_c1_1.mpr (by decide))
  have q26 : M26 1 1 = 0 := by rw [h26, up2_s]
  refine ⟨bitF_R _ _ _, ?_⟩
  refine gJ6_bitCount ?_
  intro _
  refine entC i26 (by omega) ?_
  intro M29 i29 _ _
  rw [e3]
  exact hQ M29 i29
end
section
/-! QUESTIONS that go to THE END, alike on both sides -/
theorem Rel.tb {k : Nat} {MX MM : Mem} (h : Rel k MX MM) : TB (cut MM) MX (MX 155 16).toNat :=
  ⟨h.1, rfl, h.1.l16, h.S.1, h.S.2.1, h.W, ((cut_CE MM).w h.2.1).2⟩
end
section
/-! fits, alike on both sides -/
theorem Cl_fits (k : Nat) (MX MM : Mem)  (hk : k < 512) (hMX : MR MX) (hMM : MR MM) (hR : Rel k MX MM) : qX11_fits  MX (fun z MX1 => qX12_fits  MM (fun b MM1 => z = b ∧ Rel (k + 1) MX1 MM1)) := by
  have S := hR.S
  have r37 := hR.r37 hk
  have h37 : (cr (MM 5) (MM 6)) 37 ≤ 1999990000 := by rw [cr_i (by decide) (by decide)]; omega
  have C := S.2.2.1.cr hR.E0 (g := MM 6)
  have W := S.2.2.2.1.cr hR.E0 (g := MM 6)
  have ec : MX 182 2 = MM 1 45 := hR.2.2.2.1
  refine fmX11_fits (gX11_fits (E := cut MM) (r := (cr (MM 5) (MM 6))) hR.tb C W (by omega) (bx_c182_2.mp (hR.1.bx _ _)) (fun i p q => (hR.H i p q).2.2) (Q := fun z M' => z = ftB (cut MM) (itF (cut MM) 200 (cr (MM 5) (MM 6))) (MX 183) (MX 184) (MX 182 2) ∧ IX M') (fun M' i => ⟨rfl, i⟩)) ?_
  intro z MX1 fX hX
  refine fmX12_fits (gX12_fits (E := cut MM) (kk := MX 183) (vv := MX 184) hR.2.1 (cut_CE MM) W (by omega) (fun i p q => hR.H i p (by omega)) (Q := fun z M' => z = ftB (cut MM) (itF (cut MM) 200 (cr (MM 5) (MM 6))) (MX 183) (MX 184) (MM 1 45) ∧ IM (60000 * (k : Int) + 200) M') (fun M' i => ⟨rfl, i⟩)) ?_
  intro b MM1 fM hM
  exact ⟨by rw [hX.1, hM.1, ec], hR.q hX.2 hM.2 (by omega) (fX 156 1 (by first | omega | exact fun h => h)) (fM 1 14 (by first | omega | exact fun h => h)) (fX 182 2 (by first | omega | exact fun h => h)) (fM 1 45 (by first | omega | exact fun h => h)) (fun j => fX 157 j (by first | omega | exact fun h => h)) (fun j => fM 7 j (by first | omega | exact fun h => h)) (fun j => ⟨fX 183 j (by first | omega | exact fun h => h), fX 184 j (by first | omega | exact fun h => h), fM 26 j (by first | omega | exact fun h => h), fM 27 j (by first | omega | exact fun h => h)⟩) (fun k j q => fX k j (by first | omega | exact fun h => h)) (fun k j q => fM k j (by first | omega | exact fun h => h))⟩
end
section
theorem Rl_sign (k : Nat) (MX MM : Mem) (y1 : Int) (hy1 : iR y1) (hk : k < 512) (hMX : MR MX) (hMM : MR MM) (hR : Rel k MX MM) : qX11_sign y1 MX (fun z MX1 => qX12_sign y1 MM (fun b MM1 => Rel (k + 1) MX1 MM1)) :=
  fmX11_sign (Cl_sign k MX MM y1 hy1 hk hMX hMM hR) (fun _ _ _ h => fmX12_sign h (fun _ _ _ h2 => h2.2))
theorem Rl_end (k : Nat) (MX MM : Mem) (y1 : Int) (hy1 : iR y1) (hk : k < 512) (hMX : MR MX) (hMM : MR MM) (hR : Rel k MX MM) : qX11_end y1 MX (fun z MX1 => qX12_end y1 MM (fun b MM1 => Rel (k + 1) MX1 MM1)) :=
  fmX11_end (Cl_end k MX MM y1 hy1 hk hMX hMM hR) (fun _ _ _ h => fmX12_end h (fun _ _ _ h2 => h2.2))
theorem Rl_avenue (k : Nat) (MX MM : Mem)  (hk : k < 512) (hMX : MR MX) (hMM : MR MM) (hR : Rel k MX MM) : qX11_avenue  MX (fun z MX1 => qX12_avenue  MM (fun b MM1 => Rel (k + 1) MX1 MM1)) :=
  fmX11_avenue (Cl_avenue k MX MM   hk hMX hMM hR) (fun _ _ _ h => fmX12_avenue h (fun _ _ _ h2 => h2.2))
theorem Rl_hearses (k : Nat) (MX MM : Mem)  (hk : k < 512) (hMX : MR MX) (hMM : MR MM) (hR : Rel k MX MM) : qX11_hearses  MX (fun z MX1 => qX12_hearses  MM (fun b MM1 => Rel (k + 1) MX1 MM1)) :=
  fmX11_hearses (Cl_hearses k MX MM   hk hMX hMM hR) (fun _ _ _ h => fmX12_hearses h (fun _ _ _ h2 => h2.2))
theorem Rl_mourners (k : Nat) (MX MM : Mem)  (hk : k < 512) (hMX : MR MX) (hMM : MR MM) (hR : Rel k MX MM) : qX11_mourners  MX (fun z MX1 => qX12_mourners  MM (fun b MM1 => Rel (k + 1) MX1 MM1)) :=
  fmX11_mourners (Cl_mourners k MX MM   hk hMX hMM hR) (fun _ _ _ h => fmX12_mourners h (fun _ _ _ h2 => h2.2))
theorem Rl_weather (k : Nat) (MX MM : Mem)  (hk : k < 512) (hMX : MR MX) (hMM : MR MM) (hR : Rel k MX MM) : qX11_weather  MX (fun z MX1 => qX12_weather  MM (fun b MM1 => Rel (k + 1) MX1 MM1)) :=
  fmX11_weather (Cl_weather k MX MM   hk hMX hMM hR) (fun _ _ _ h => fmX12_weather h (fun _ _ _ h2 => h2.2))
theorem Rl_rule (k : Nat) (MX MM : Mem)  (hk : k < 512) (hMX : MR MX) (hMM : MR MM) (hR : Rel k MX MM) : qX11_rule  MX (fun z MX1 => qX12_rule  MM (fun b MM1 => Rel (k + 1) MX1 MM1)) :=
  fmX11_rule (Cl_rule k MX MM   hk hMX hMM hR) (fun _ _ _ h => fmX12_rule h (fun _ _ _ h2 => h2.2))
theorem Rl_hearse (k : Nat) (MX MM : Mem) (y1 y2 : Int) (hy1 : iR y1) (hy2 : iR y2) (hk : k < 512) (hMX : MR MX) (hMM : MR MM) (hR : Rel k MX MM) : qX11_hearse y1 y2 MX (fun z MX1 => qX12_hearse y1 y2 MM (fun b MM1 => Rel (k + 1) MX1 MM1)) (fun MX1 => qX12_hearse y1 y2 MM (fun b MM1 => Rel (k + 1) MX1 MM1)) :=
  Rk_hearse k MX MM y1 y2 hy1 hy2 hk hMX hMM hR
theorem Rl_mourner (k : Nat) (MX MM : Mem) (y1 y2 : Int) (hy1 : iR y1) (hy2 : iR y2) (hk : k < 512) (hMX : MR MX) (hMM : MR MM) (hR : Rel k MX MM) : qX11_mourner y1 y2 MX (fun z MX1 => qX12_mourner y1 y2 MM (fun b MM1 => Rel (k + 1) MX1 MM1)) (fun MX1 => qX12_mourner y1 y2 MM (fun b MM1 => Rel (k + 1) MX1 MM1)) :=
  Rk_mourner k MX MM y1 y2 hy1 hy2 hk hMX hMM hR
theorem Rl_sheet (k : Nat) (MX MM : Mem) (y1 y2 y3 y4 : Int) (hy1 : iR y1) (hy2 : iR y2) (hy3 : iR y3) (hy4 : iR y4) (hk : k < 512) (hMX : MR MX) (hMM : MR MM) (hR : Rel k MX MM) : qX11_sheet y1 y2 y3 y4 MX (fun z MX1 => qX12_sheet y1 y2 y3 y4 MM (fun b MM1 => Rel (k + 1) MX1 MM1)) :=
  fmX11_sheet (Cl_sheet k MX MM y1 y2 y3 y4 hy1 hy2 hy3 hy4 hk hMX hMM hR) (fun _ _ _ h => fmX12_sheet h (fun _ _ _ h2 => h2.2))
theorem Rl_steps (k : Nat) (MX MM : Mem) (y1 : Int) (hy1 : iR y1) (hk : k < 512) (hMX : MR MX) (hMM : MR MM) (hR : Rel k MX MM) : qX11_steps y1 MX (fun z MX1 => qX12_steps y1 MM (fun b MM1 => Rel (k + 1) MX1 MM1)) :=
  fmX11_steps (Cl_steps k MX MM y1 hy1 hk hMX hMM hR) (fun _ _ _ h => fmX12_steps h (fun _ _ _ h2 => h2.2))
theorem Rl_turnsTo (k : Nat) (MX MM : Mem) (y1 : Int) (hy1 : iR y1) (hk : k < 512) (hMX : MR MX) (hMM : MR MM) (hR : Rel k MX MM) : qX11_turnsTo y1 MX (fun z MX1 => qX12_turnsTo y1 MM (fun b MM1 => Rel (k + 1) MX1 MM1)) :=
  fmX11_turnsTo (Cl_turnsTo k MX MM y1 hy1 hk hMX hMM hR) (fun _ _ _ h => fmX12_turnsTo h (fun _ _ _ h2 => h2.2))
theorem Rl_pushes (k : Nat) (MX MM : Mem) (y1 y2 : Int) (hy1 : iR y1) (hy2 : iR y2) (hk : k < 512) (hMX : MR MX) (hMM : MR MM) (hR : Rel k MX MM) : qX11_pushes y1 y2 MX (fun z MX1 => qX12_pushes y1 y2 MM (fun b MM1 => Rel (k + 1) MX1 MM1)) :=
  fmX11_pushes (Cl_pushes k MX MM y1 y2 hy1 hy2 hk hMX hMM hR) (fun _ _ _ h => fmX12_pushes h (fun _ _ _ h2 => h2.2))
theorem Rl_swaps (k : Nat) (MX MM : Mem) (y1 y2 : Int) (hy1 : iR y1) (hy2 : iR y2) (hk : k < 512) (hMX : MR MX) (hMM : MR MM) (hR : Rel k MX MM) : qX11_swaps y1 y2 MX (fun z MX1 => qX12_swaps y1 y2 MM (fun b MM1 => Rel (k + 1) MX1 MM1)) :=
  fmX11_swaps (Cl_swaps k MX MM y1 y2 hy1 hy2 hk hMX hMM hR) (fun _ _ _ h => fmX12_swaps h (fun _ _ _ h2 => h2.2))
theorem Rl_hour (k : Nat) (MX MM : Mem)  (hk : k < 512) (hMX : MR MX) (hMM : MR MM) (hR : Rel k MX MM) : qX11_hour  MX (fun z MX1 => qX12_hour  MM (fun b MM1 => Rel (k + 1) MX1 MM1)) :=
  fmX11_hour (Cl_hour k MX MM   hk hMX hMM hR) (fun _ _ _ h => fmX12_hour h (fun _ _ _ h2 => h2.2))
theorem Rl_undo (k : Nat) (MX MM : Mem)  (hk : k < 512) (hMX : MR MX) (hMM : MR MM) (hR : Rel k MX MM) : qX11_undo  MX (fun z MX1 => qX12_undo  MM (fun b MM1 => Rel (k + 1) MX1 MM1)) :=
  fmX11_undo (Cl_undo k MX MM   hk hMX hMM hR) (fun _ _ _ h => fmX12_undo h (fun _ _ _ h2 => h2.2))
theorem Rl_line (k : Nat) (MX MM : Mem)  (hk : k < 512) (hMX : MR MX) (hMM : MR MM) (hR : Rel k MX MM) : qX11_line  MX (fun z MX1 => qX12_line  MM (fun b MM1 => Rel (k + 1) MX1 MM1)) :=
  Rk_line k MX MM   hk hMX hMM hR
theorem Rl_ahead (k : Nat) (MX MM : Mem) (y1 : Int) (hy1 : iR y1) (hk : k < 512) (hMX : MR MX) (hMM : MR MM) (hR : Rel k MX MM) : qX11_ahead y1 MX (fun z MX1 => qX12_ahead y1 MM (fun b MM1 => Rel (k + 1) MX1 MM1)) :=
  Rk_ahead k MX MM y1 hy1 hk hMX hMM hR
theorem Rl_arrives (k : Nat) (MX MM : Mem) (y1 : Int) (hy1 : iR y1) (hk : k < 512) (hMX : MR MX) (hMM : MR MM) (hR : Rel k MX MM) : qX11_arrives y1 MX (fun z MX1 => qX12_arrives y1 MM (fun b MM1 => Rel (k + 1) MX1 MM1)) :=
  Rk_arrives k MX MM y1 hy1 hk hMX hMM hR
theorem Rl_jam (k : Nat) (MX MM : Mem) (y1 : Int) (hy1 : iR y1) (hk : k < 512) (hMX : MR MX) (hMM : MR MM) (hR : Rel k MX MM) : qX11_jam y1 MX (fun z MX1 => qX12_jam y1 MM (fun b MM1 => Rel (k + 1) MX1 MM1)) :=
  Rk_jam k MX MM y1 hy1 hk hMX hMM hR
theorem Rl_passes (k : Nat) (MX MM : Mem) (y1 y2 : Int) (hy1 : iR y1) (hy2 : iR y2) (hk : k < 512) (hMX : MR MX) (hMM : MR MM) (hR : Rel k MX MM) : qX11_passes y1 y2 MX (fun z MX1 => qX12_passes y1 y2 MM (fun b MM1 => Rel (k + 1) MX1 MM1)) :=
  Rk_passes k MX MM y1 y2 hy1 hy2 hk hMX hMM hR
theorem Rl_ends (k : Nat) (MX MM : Mem) (y1 : Int) (hy1 : iR y1) (hk : k < 512) (hMX : MR MX) (hMM : MR MM) (hR : Rel k MX MM) : qX11_ends y1 MX (fun z MX1 => qX12_ends y1 MM (fun b MM1 => Rel (k + 1) MX1 MM1)) :=
  Rk_ends k MX MM y1 hy1 hk hMX hMM hR
theorem Rl_right (k : Nat) (MX MM : Mem)  (hk : k < 512) (hMX : MR MX) (hMM : MR MM) (hR : Rel k MX MM) : qX11_right  MX (fun z MX1 => qX12_right  MM (fun b MM1 => Rel (k + 1) MX1 MM1)) :=
  Rk_right k MX MM   hk hMX hMM hR
theorem Rl_order (k : Nat) (MX MM : Mem)  (hk : k < 512) (hMX : MR MX) (hMM : MR MM) (hR : Rel k MX MM) : qX11_order  MX (fun z MX1 => qX12_order  MM (fun b MM1 => Rel (k + 1) MX1 MM1)) :=
  Rk_order k MX MM   hk hMX hMM hR
theorem Rl_stands (k : Nat) (MX MM : Mem) (y1 : Int) (hy1 : iR y1) (hk : k < 512) (hMX : MR MX) (hMM : MR MM) (hR : Rel k MX MM) : qX11_stands y1 MX (fun z MX1 => qX12_stands y1 MM (fun b MM1 => Rel (k + 1) MX1 MM1)) :=
  Rk_stands k MX MM y1 hy1 hk hMX hMM hR
theorem Rl_when (k : Nat) (MX MM : Mem) (y1 : Int) (hy1 : iR y1) (hk : k < 512) (hMX : MR MX) (hMM : MR MM) (hR : Rel k MX MM) : qX11_when y1 MX (fun z MX1 => qX12_when y1 MM (fun b MM1 => Rel (k + 1) MX1 MM1)) :=
  Rk_when k MX MM y1 hy1 hk hMX hMM hR
theorem Rl_mends (k : Nat) (MX MM : Mem) (y1 : Int) (hy1 : iR y1) (hk : k < 512) (hMX : MR MX) (hMM : MR MM) (hR : Rel k MX MM) : qX11_mends y1 MX (fun z MX1 => qX12_mends y1 MM (fun b MM1 => Rel (k + 1) MX1 MM1)) :=
  Rk_mends k MX MM y1 hy1 hk hMX hMM hR
theorem Rl_misleads (k : Nat) (MX MM : Mem)  (hk : k < 512) (hMX : MR MX) (hMM : MR MM) (hR : Rel k MX MM) : qX11_misleads  MX (fun z MX1 => qX12_misleads  MM (fun b MM1 => Rel (k + 1) MX1 MM1)) :=
  Rk_misleads k MX MM   hk hMX hMM hR
theorem Rl_crowd (k : Nat) (MX MM : Mem)  (hk : k < 512) (hMX : MR MX) (hMM : MR MM) (hR : Rel k MX MM) : qX11_crowd  MX (fun z MX1 => qX12_crowd  MM (fun b MM1 => Rel (k + 1) MX1 MM1)) :=
  Rk_crowd k MX MM   hk hMX hMM hR
theorem Rl_shares (k : Nat) (MX MM : Mem) (y1 : Int) (hy1 : iR y1) (hk : k < 512) (hMX : MR MX) (hMM : MR MM) (hR : Rel k MX MM) : qX11_shares y1 MX (fun z MX1 => qX12_shares y1 MM (fun b MM1 => Rel (k + 1) MX1 MM1)) :=
  Rk_shares k MX MM y1 hy1 hk hMX hMM hR
theorem Rl_strangers (k : Nat) (MX MM : Mem)  (hk : k < 512) (hMX : MR MX) (hMM : MR MM) (hR : Rel k MX MM) : qX11_strangers  MX (fun z MX1 => qX12_strangers  MM (fun b MM1 => Rel (k + 1) MX1 MM1)) :=
  Rk_strangers k MX MM   hk hMX hMM hR
theorem Rl_doubts (k : Nat) (MX MM : Mem)  (hk : k < 512) (hMX : MR MX) (hMM : MR MM) (hR : Rel k MX MM) : qX11_doubts  MX (fun z MX1 => qX12_doubts  MM (fun b MM1 => Rel (k + 1) MX1 MM1)) :=
  Rk_doubts k MX MM   hk hMX hMM hR
theorem Rl_heard (k : Nat) (MX MM : Mem) (y1 y2 : Int) (hy1 : iR y1) (hy2 : iR y2) (hk : k < 512) (hMX : MR MX) (hMM : MR MM) (hR : Rel k MX MM) : qX11_heard y1 y2 MX (fun z MX1 => qX12_heard y1 y2 MM (fun b MM1 => Rel (k + 1) MX1 MM1)) :=
  fmX11_heard (Cl_heard k MX MM y1 y2 hy1 hy2 hk hMX hMM hR) (fun _ _ _ h => fmX12_heard h (fun _ _ _ h2 => h2.2))
theorem Rl_forget (k : Nat) (MX MM : Mem)  (hk : k < 512) (hMX : MR MX) (hMM : MR MM) (hR : Rel k MX MM) : qX11_forget  MX (fun z MX1 => qX12_forget  MM (fun b MM1 => Rel (k + 1) MX1 MM1)) :=
  fmX11_forget (Cl_forget k MX MM   hk hMX hMM hR) (fun _ _ _ h => fmX12_forget h (fun _ _ _ h2 => h2.2))
theorem Rl_fits (k : Nat) (MX MM : Mem)  (hk : k < 512) (hMX : MR MX) (hMM : MR MM) (hR : Rel k MX MM) : qX11_fits  MX (fun z MX1 => qX12_fits  MM (fun b MM1 => z = b ∧ Rel (k + 1) MX1 MM1)) :=
  Cl_fits k MX MM   hk hMX hMM hR
theorem Rl_rains (k : Nat) (MX MM : Mem) (y1 y2 y3 : Int) (hy1 : iR y1) (hy2 : iR y2) (hy3 : iR y3) (hk : k < 512) (hMX : MR MX) (hMM : MR MM) (hR : Rel k MX MM) : qX11_rains y1 y2 y3 MX (fun z MX1 => qX12_rains y1 y2 y3 MM (fun b MM1 => Rel (k + 1) MX1 MM1)) :=
  fmX11_rains (Cl_rains k MX MM y1 y2 y3 hy1 hy2 hy3 hk hMX hMM hR) (fun _ _ _ h => fmX12_rains h (fun _ _ _ h2 => h2.2))
theorem Rl_law (k : Nat) (MX MM : Mem)  (hk : k < 512) (hMX : MR MX) (hMM : MR MM) (hR : Rel k MX MM) : qX11_law  MX (fun z MX1 => qX12_law  MM (fun b MM1 => Rel (k + 1) MX1 MM1)) :=
  Rk_law k MX MM   hk hMX hMM hR
theorem Rl_rests (k : Nat) (MX MM : Mem) (y1 : Int) (hy1 : iR y1) (hk : k < 512) (hMX : MR MX) (hMM : MR MM) (hR : Rel k MX MM) : qX11_rests y1 MX (fun z MX1 => qX12_rests y1 MM (fun b MM1 => Rel (k + 1) MX1 MM1)) :=
  fmX11_rests (Cl_rests k MX MM y1 hy1 hk hMX hMM hR) (fun _ _ _ h => fmX12_rests h (fun _ _ _ h2 => h2.2))
theorem Rl_years (k : Nat) (MX MM : Mem) (y1 y2 : Int) (hy1 : iR y1) (hy2 : iR y2) (hk : k < 512) (hMX : MR MX) (hMM : MR MM) (hR : Rel k MX MM) : qX11_years y1 y2 MX (fun z MX1 => qX12_years y1 y2 MM (fun b MM1 => Rel (k + 1) MX1 MM1)) :=
  Rk_years k MX MM y1 y2 hy1 hy2 hk hMX hMM hR
theorem Rl_keep (k : Nat) (MX MM : Mem) (y1 : Int) (hy1 : iR y1) (hk : k < 512) (hMX : MR MX) (hMM : MR MM) (hR : Rel k MX MM) : qX11_keep y1 MX (fun z MX1 => qX12_keep y1 MM (fun b MM1 => Rel (k + 1) MX1 MM1)) :=
  fmX11_keep (Cl_keep k MX MM y1 hy1 hk hMX hMM hR) (fun _ _ _ h => fmX12_keep h (fun _ _ _ h2 => h2.2))
theorem Rl_again (k : Nat) (MX MM : Mem) (y1 : Int) (hy1 : iR y1) (hk : k < 512) (hMX : MR MX) (hMM : MR MM) (hR : Rel k MX MM) : qX11_again y1 MX (fun z MX1 => qX12_again y1 MM (fun b MM1 => Rel (k + 1) MX1 MM1)) :=
  fmX11_again (Cl_again k MX MM y1 hy1 hk hMX hMM hR) (fun _ _ _ h => fmX12_again h (fun _ _ _ h2 => h2.2))
theorem Rl_count (k : Nat) (MX MM : Mem) (y1 : Int) (hy1 : iR y1) (hk : k < 512) (hMX : MR MX) (hMM : MR MM) (hR : Rel k MX MM) : qX11_count y1 MX (fun z MX1 => qX12_count y1 MM (fun b MM1 => Rel (k + 1) MX1 MM1)) :=
  Rk_count k MX MM y1 hy1 hk hMX hMM hR
theorem Rl_row (k : Nat) (MX MM : Mem) (y1 : Int) (hy1 : iR y1) (hk : k < 512) (hMX : MR MX) (hMM : MR MM) (hR : Rel k MX MM) : qX11_row y1 MX (fun z MX1 => qX12_row y1 MM (fun b MM1 => Rel (k + 1) MX1 MM1)) (fun MX1 => qX12_row y1 MM (fun b MM1 => Rel (k + 1) MX1 MM1)) :=
  Rk_row k MX MM y1 hy1 hk hMX hMM hR
theorem BM_0 {k : Nat} {j : Int} (h : ¬ (k = 1 ∧ j = 3)) (h2 : ¬ (k = 1 ∧ j = 7)) : BM 0 k j 0 := by
  by_cases c : k = 5 ∨ k = 6
  · exact (bm_n c).mpr ⟨by omega, by omega, by omega, by omega⟩
  by_cases c15 : k = 15
  · subst c15; exact bm_c15.mpr ⟨by omega, by omega, by omega, by omega⟩
  by_cases c31 : k = 31
  · subst c31; exact bm_c31.mpr ⟨by omega, by omega, by omega, by omega⟩
  by_cases c1 : k = 1
  · subst c1
    by_cases d1 : j = 1
    · subst d1; exact bm_c1_1.mpr (by decide)
    by_cases d3 : j = 3
    · exact absurd ⟨rfl, d3⟩ h
    by_cases d4 : j = 4
    · subst d4; exact bm_c1_4.mpr (by decide)
    by_cases d5 : j = 5
    · subst d5; exact bm_c1_5.mpr (by decide)
    by_cases d6 : j = 6
    · subst d6; exact bm_c1_6.mpr (by decide)
    by_cases d7 : j = 7
    · exact absurd ⟨rfl, d7⟩ h2
    by_cases d14 : j = 14
    · subst d14; exact bm_c1_14.mpr (by decide)
    by_cases d15 : j = 15
    · subst d15; exact bm_c1_15.mpr (by decide)
    by_cases d16 : j = 16
    · subst d16; exact bm_c1_16.mpr (by decide)
    by_cases d20 : j = 20
    · subst d20; exact bm_c1_20.mpr (by decide)
    by_cases d24 : j = 24
    · subst d24; exact bm_c1_24.mpr (by decide)
    by_cases d25 : j = 25
    · subst d25; exact bm_c1_25.mpr (by decide)
    by_cases d28 : j = 28
    · subst d28; exact bm_c1_28.mpr (by decide)
    by_cases d35 : j = 35
    · subst d35; exact bm_c1_35.mpr (by decide)
    by_cases d39 : j = 39
    · subst d39; exact bm_c1_39.mpr (by decide)
    by_cases d45 : j = 45
    · subst d45; exact bm_c1_45.mpr (by decide)
    simp [BM, d1, d3, d4, d5, d6, d7, d14, d15, d16, d20, d24, d25, d28, d35, d39, d45]
  by_cases c3 : k = 3
  · subst c3; exact bm_c3.mpr (by decide)
  by_cases c7 : k = 7
  · subst c7; exact bm_c7.mpr (by decide)
  by_cases c8 : k = 8
  · subst c8; exact bm_c8.mpr (by decide)
  by_cases c9 : k = 9
  · subst c9; exact bm_c9.mpr (by decide)
  by_cases c18 : k = 18
  · subst c18; exact bm_c18.mpr (by decide)
  by_cases c20 : k = 20
  · subst c20; exact bm_c20.mpr (by decide)
  by_cases c21 : k = 21
  · subst c21; exact bm_c21.mpr (by decide)
  by_cases c22 : k = 22
  · subst c22; exact bm_c22.mpr (by decide)
  unfold BM
  rw [if_neg c, if_neg (by omega)]
  simp [c1, c3, c7, c8, c9, c18, c20, c21, c22]
theorem BX_0 {k : Nat} {j : Int} (h : ¬ (k = 158 ∧ j = 1)) : BX k j 0 := by
  by_cases h0 : k = 0
  · simp [BX, h0]
  by_cases h155 : k < 155
  · unfold BX
    rw [if_neg h0, if_pos h155]
    by_cases r0 : (k - 1) % 7 = 0
    · rw [if_pos r0]
      by_cases d6 : j = 6
      · rw [if_pos d6]; decide
      · rw [if_neg d6]
        by_cases d7 : j = 7
        · rw [if_pos d7]; decide
        · rw [if_neg d7]; trivial
    · rw [if_neg r0]
      by_cases r1 : (k - 1) % 7 = 1
      · rw [if_pos r1]; decide
      · rw [if_neg r1]
        by_cases r3 : (k - 1) % 7 = 3
        · rw [if_pos r3]; decide
        · rw [if_neg r3]
          by_cases r4 : (k - 1) % 7 = 4
          · rw [if_pos r4]; decide
          · rw [if_neg r4]
            by_cases r5 : (k - 1) % 7 = 5
            · rw [if_pos r5]; decide
            · rw [if_neg r5]; trivial
  by_cases c156 : k = 156
  · subst c156
    by_cases d1 : j = 1
    · subst d1; exact bx_c156_1.mpr (by decide)
    by_cases d2 : j = 2
    · subst d2; exact bx_c156_2.mpr (by decide)
    by_cases d3 : j = 3
    · subst d3; exact bx_c156_3.mpr (by decide)
    simp [BX, d1, d2, d3]
  by_cases c157 : k = 157
  · subst c157; exact bx_c157.mpr (by decide)
  by_cases c158 : k = 158
  · subst c158
    by_cases d1 : j = 1
    · exact absurd ⟨rfl, d1⟩ h
    by_cases d3 : j = 3
    · subst d3; exact bx_c158_3.mpr (by decide)
    simp [BX, d1, d3]
  by_cases c163 : k = 163
  · subst c163
    by_cases d1 : j = 1
    · subst d1; exact bx_c163_1.mpr (by decide)
    by_cases d2 : j = 2
    · subst d2; exact bx_c163_2.mpr (by decide)
    simp [BX, d1, d2]
  by_cases c167 : k = 167
  · subst c167
    by_cases d1 : j = 1
    · subst d1; exact bx_c167_1.mpr (by decide)
    simp [BX, d1]
  by_cases c168 : k = 168
  · subst c168
    by_cases d1 : j = 1
    · subst d1; exact bx_c168_1.mpr (by decide)
    simp [BX, d1]
  by_cases c179 : k = 179
  · subst c179
    by_cases d2 : j = 2
    · subst d2; exact bx_c179_2.mpr (by decide)
    simp [BX, d2]
  by_cases c180 : k = 180
  · subst c180; exact bx_c180.mpr (by decide)
  by_cases c182 : k = 182
  · subst c182
    by_cases d2 : j = 2
    · subst d2; exact bx_c182_2.mpr (by decide)
    simp [BX, d2]
  by_cases c185 : k = 185
  · subst c185
    by_cases d1 : j = 1
    · subst d1; exact bx_c185_1.mpr (by decide)
    by_cases d2 : j = 2
    · subst d2; exact bx_c185_2.mpr (by decide)
    simp [BX, d1, d2]
  by_cases cl : k = 187 ∨ k = 192
  · by_cases d4 : j = 4
    · subst d4; exact (bx_l4 cl).mpr (by decide)
    · exact bx_lf0 cl d4
  by_cases cr : 170 ≤ k ∧ k ≤ 178
  · have e : k = 170 + ((k : Int) - 170).toNat := by omega
    rw [e]
    exact (bx_sh (e := (k : Int) - 170) (by omega) (by omega)).mpr ⟨by omega, by omega⟩
  unfold BX
  rw [if_neg h0, if_neg h155]
  simp only [if_neg cl, if_neg cr, if_neg c156, if_neg c157, if_neg c158, if_neg c163, if_neg c167, if_neg c168, if_neg c179, if_neg c180, if_neg c182, if_neg c185]
theorem IX_MX0 : IX MX0 := by
  refine ⟨fun k j => ?_, Or.inl ⟨by simp [MX0], by simp [MX0]⟩, fun k j hk he => ?_⟩
  · unfold MX0
    split
    · rename_i c; rw [c.1, c.2]; exact bx_c158_1.mpr (by decide)
    · rename_i c1
      split
      · rename_i c; rw [c.1, c.2]; exact bx_c158_3.mpr (by decide)
      · split
        · rename_i c; rw [c.1, c.2]; simp [BX]
        · split
          · rename_i c; rw [c.1, c.2]; simp [BX]
          · split
            · rename_i c; rw [c.1, c.2]; simp [BX]
            · exact BX_0 c1
  · exfalso
    have : MX0 (k + 1) j = 0 := by
      unfold MX0
      rcases hk with rfl | rfl <;> simp
    omega
theorem IM_MM0 : IM 0 MM0 := by
  refine ⟨fun k j => ?_, ?_⟩
  · unfold MM0
    split
    · rename_i c; rw [c.1, c.2]; exact bm_c1_3.mpr (by decide)
    · rename_i c1
      split
      · rename_i c; rw [c.1, c.2]; exact bm_c1_7.mpr (by decide)
      · rename_i c2
        exact BM_0 c1 c2
  · intro j hj
    exfalso
    have : MM0 1 24 = 0 := by simp [MM0]
    omega
theorem Rel_init : qInit (fun MX => Rel 0 MX MM0) := by
  unfold qInit
  refine gX2_plain (k0 := 187) IX_MX0 (Or.inl rfl) ?_
  intro M1 h1 f1 o1
  refine ⟨h1.l17, ?_⟩
  have e17 : (M1 155 17).toNat = 192 := by rw [f1 155 17 (by omega)]; simp [MX0]
  rw [e17]
  refine gX2_plain (k0 := 192) h1 (Or.inr rfl) ?_
  intro M2 h2 f2 _
  have K : ∀ (k : Nat) (j : Int), k < 187 → M2 k j = MX0 k j := fun k j h => by rw [f2 k j (by omega), f1 k j (by omega)]
  have Z : ∀ (k : Nat) (j : Int), k < 155 → M2 k j = 0 := fun k j h => by
    rw [K k j (by omega)]
    unfold MX0
    rw [if_neg (by omega), if_neg (by omega), if_neg (by omega), if_neg (by omega), if_neg (by omega)]
  have Y : ∀ (k : Nat) (j : Int), ¬ (k = 1 ∧ j = 3) → ¬ (k = 1 ∧ j = 7) → MM0 k j = 0 := fun k j h h' => by
    unfold MM0
    rw [if_neg h, if_neg h']
  have C : ∀ (k : Nat) (j : Int), ¬ (k = 1 ∧ j = 3) → ¬ (k = 1 ∧ j = 7) → cut MM0 k j = 0 := fun k j h h' => by
    unfold cut
    split
    · exact Y k j h h'
    · rfl
  have c3 : cut MM0 1 3 = 4 := by rw [cut13]; simp [MM0]
  have c4 : cut MM0 1 4 = 0 := C 1 4 (by omega) (by omega)
  have c5 : cut MM0 1 5 = 0 := C 1 5 (by omega) (by omega)
  have c7 : cut MM0 1 7 = 1 := by rw [cut17]; simp [MM0]
  have e0 : eO (cut MM0) = 0 := by show (cut MM0 1 5).toNat = 0; rw [c5]; rfl
  have eh : eH (cut MM0) = 0 := by show (cut MM0 1 4).toNat = 0; rw [c4]; rfl
  refine ⟨h2, IM_MM0.mono (by omega), ?_, ?_, fun j a q => ?_, ⟨?_, ?_, ?_, ?_, ?_, ?_⟩, FOLS.z (Y 1 5 (by omega) (by omega)), HRD.nil (by rw [K 182 2 (by omega)]; simp [MX0])⟩
  · rw [K 156 1 (by omega)]; simp [MX0, MM0]
  · rw [K 182 2 (by omega)]; simp [MX0, MM0]
  · rw [K 156 1 (by omega)] at q
    simp [MX0] at q
    omega
  · unfold STR
    rw [c3, c4, c5, c7]
    refine ⟨by rw [K 158 1 (by omega)]; simp [MX0], by decide, fun c hc => ?_, by rw [K 158 3 (by omega)]; simp [MX0], by decide, fun j p q => ?_, by decide, by decide, fun m p q => by omega⟩
    · have e2 : M2 158 2 = 0 := by rw [K 158 2 (by omega)]; simp [MX0]
      rw [e2, show iI 0 = (0 : Int32) from rfl, b_0, C 2 c (by omega) (by omega)]
      exact ⟨fun q => absurd q (by decide), fun q => absurd rfl q⟩
    · rw [K 159 j (by omega), C 4 j (by omega) (by omega)]
      unfold MX0
      rw [if_neg (by omega), if_neg (by omega), if_neg (by omega), if_neg (by omega), if_neg (by omega)]
  · have e16 : (M2 155 16).toNat = 187 := by rw [K 155 16 (by omega)]; simp [MX0]
    rw [e16]
    refine Or.inr ⟨C 1 24 (by omega) (by omega), ?_⟩
    have o2 : ROl 187 M2 plO := o1.fr (f2 _ _ (by omega)) (f2 _ _ (by omega)) (funext fun j => f2 _ j (by omega)) (funext fun j => f2 _ j (by omega))
    exact ⟨o2.1, SO_SCd o2.2 SCd_pl⟩
  · unfold SC
    rw [c4, c5, e0]
    refine ⟨Z 1 6 (by omega), Z 1 7 (by omega), fun j p q => ?_, fun j p q => ?_, ?_, fun m p q => ?_, fun m p q => ?_, fun m p q => ?_, fun m p q => ?_, ?_, ?_⟩
    · rw [Z _ _ (by omega), Y 5 _ (by omega) (by omega)]
    · rw [Z _ _ (by omega), Y 5 _ (by omega) (by omega)]
    · rw [Z 1 8 (by omega), Y 5 _ (by omega) (by omega)]
    · rw [Z _ _ (by omega), Y 5 _ (by omega) (by omega)]
    · rw [Z _ _ (by omega), C 3 _ (by omega) (by omega)]
    · rw [Z _ _ (by omega), Y 5 _ (by omega) (by omega)]
    · rw [Z _ _ (by omega), Y 5 _ (by omega) (by omega)]
    · rw [Z 1 10 (by omega), Y 5 _ (by omega) (by omega)]
    · rw [Z 1 9 (by omega)]
      rfl
  · unfold WR
    rw [c4, c5, eh]
    refine ⟨fun i j p q => by omega, fun i p q => by omega, fun i p q => by omega, ?_, ?_⟩
    · rw [Y 5 12 (by omega) (by omega)]
      rfl
    · rw [Y 5 37 (by omega) (by omega)]
      decide
  · exact HIS.nil (by rw [K 163 2 (by omega)]; simp [MX0]) (Y 1 28 (by omega) (by omega))
  · intro i p q
    have x0 : M2 166 i = 0 := by
      rw [K 166 i (by omega)]
      unfold MX0
      rw [if_neg (by omega), if_neg (by omega), if_neg (by omega), if_neg (by omega), if_neg (by omega)]
    exact ⟨⟨fun _ => Y 29 i (by omega) (by omega), fun _ => x0⟩, fun h => absurd x0 h⟩
end
