section
/-! THE CALLS over the relation of the whole state -/
theorem up2_id (M : Mem) (k : Nat) (j : Int) : up2 M k j (M k j) = M := by
  funext i x
  rw [up2_a]
  by_cases c : i = k
  · rw [if_pos c]
    by_cases c2 : x = j
    · rw [if_pos c2, c, c2]
    · rw [if_neg c2]
  · rw [if_neg c]
theorem Cl_sign (k : Nat) (MX MM : Mem) (y1 : Int) (hy1 : iR y1) (hk : k < 512) (hMX : MR MX) (hMM : MR MM) (hR : Rel k MX MM) : qX11_sign y1 MX (fun z MX1 => qX12_sign y1 MM (fun b MM1 => z = b ∧ Rel (k + 1) MX1 MM1)) := by
  refine fmX11_sign (gX11_signC (p1 := y1) hR.1 (Q := fun z M' => IX M' ∧ (77 ≤ MX 156 1 ∧ z = -1 ∧ M' 156 1 = MX 156 1 ∧ (∀ j, M' 157 j = MX 157 j) ∨ MX 156 1 ≤ 76 ∧ z = MX 156 1 + 4 ∧ M' 156 1 = MX 156 1 + 4 ∧ (∀ j, 0 ≤ j → j < MX 156 1 → M' 157 j = MX 157 j) ∧ (∀ i, 0 ≤ i → i < 4 → M' 157 (MX 156 1 + i) = byt y1 i))) (fun z M' h q => ⟨h, q⟩)) ?_
  intro z MX1 fX hX
  refine fmX12_sign (gX12_signC (p1 := y1) hR.2.1 (Q := fun z M' => IM (60000 * (k : Int)) M' ∧ (77 ≤ MM 1 14 ∧ z = -1 ∧ M' 1 14 = MM 1 14 ∧ (∀ j, M' 7 j = MM 7 j) ∨ MM 1 14 ≤ 76 ∧ z = MM 1 14 + 4 ∧ M' 1 14 = MM 1 14 + 4 ∧ (∀ j, 0 ≤ j → j < MM 1 14 → M' 7 j = MM 7 j) ∧ (∀ i, 0 ≤ i → i < 4 → M' 7 (MM 1 14 + i) = byt y1 i))) (fun z M' h q => ⟨h, q⟩)) ?_
  intro b MM1 fM hM
  have e := hR.2.2.1
  have e2 : MX1 182 2 = MM1 1 45 := by rw [fX 182 2 (by omega), fM 1 45 (by omega)]; exact hR.2.2.2.1
  have eS : STA (cut MM1) MX1 MM1 := by
    rw [cut_of (fun k j c => fM k j (by omega))]
    exact hR.S.fr hR.E0 hR.1 (fun k j q => fX k j (by omega)) (fun k j q => fM k j (by omega))
  obtain ⟨iX, gX⟩ := hX
  obtain ⟨iM, gM⟩ := hM
  have T := hR.2.2.2.2.1
  rcases gX with g | g
  · rcases gM with h | h
    · exact ⟨by omega, iX, iM.mono (by omega), by omega, e2, fun j a q => by rw [g.2.2.2, h.2.2.2]; exact T j a (by omega), eS, hR.F.fr (fun k j q => fM k j (by omega)), hR.H.fr (fX 182 2 (by omega)) (fun j => ⟨fX 183 j (by omega), fX 184 j (by omega), fM 26 j (by omega), fM 27 j (by omega)⟩)⟩
    · exact absurd g.1 (by omega)
  · rcases gM with h | h
    · exact absurd g.1 (by omega)
    · refine ⟨by omega, iX, iM.mono (by omega), by omega, e2, fun j a q => ?_, eS, hR.F.fr (fun k j q => fM k j (by omega)), hR.H.fr (fX 182 2 (by omega)) (fun j => ⟨fX 183 j (by omega), fX 184 j (by omega), fM 26 j (by omega), fM 27 j (by omega)⟩)⟩
      by_cases cj : j < MX 156 1
      · rw [g.2.2.2.1 j a cj, h.2.2.2.1 j a (by omega)]
        exact T j a cj
      · have u := g.2.2.2.2 (j - MX 156 1) (by omega) (by omega)
        have v := h.2.2.2.2 (j - MX 156 1) (by omega) (by omega)
        rw [show MX 156 1 + (j - MX 156 1) = j from by omega] at u
        rw [show MM 1 14 + (j - MX 156 1) = j from by omega] at v
        rw [u, v]
theorem Cl_end (k : Nat) (MX MM : Mem) (y1 : Int) (hy1 : iR y1) (hk : k < 512) (hMX : MR MX) (hMM : MR MM) (hR : Rel k MX MM) : qX11_end y1 MX (fun z MX1 => qX12_end y1 MM (fun b MM1 => z = b ∧ Rel (k + 1) MX1 MM1)) := by
  refine fmX11_end (gX11_end (p1 := y1) hR.1 (Q := fun z M' => IX M' ∧ ((0 ≤ y1 ∧ y1 ≤ MX 156 1) ∧ z = 1 ∧ M' 156 1 = y1 ∨ (y1 < 0 ∨ MX 156 1 < y1) ∧ z = 0 ∧ M' 156 1 = MX 156 1)) (fun z M' h q => ⟨h, q⟩)) ?_
  intro z MX1 fX hX
  refine fmX12_end (gX12_end (p1 := y1) hR.2.1 (Q := fun z M' => IM (60000 * (k : Int)) M' ∧ ((0 ≤ y1 ∧ y1 ≤ MM 1 14) ∧ z = 1 ∧ M' 1 14 = y1 ∨ (y1 < 0 ∨ MM 1 14 < y1) ∧ z = 0 ∧ M' 1 14 = MM 1 14)) (fun z M' h q => ⟨h, q⟩)) ?_
  intro b MM1 fM hM
  have e := hR.2.2.1
  have e2 : MX1 182 2 = MM1 1 45 := by rw [fX 182 2 (by omega), fM 1 45 (by omega)]; exact hR.2.2.2.1
  have eS : STA (cut MM1) MX1 MM1 := by
    rw [cut_of (fun k j c => fM k j (by omega))]
    exact hR.S.fr hR.E0 hR.1 (fun k j q => fX k j (by omega)) (fun k j q => fM k j (by omega))
  obtain ⟨iX, gX⟩ := hX
  obtain ⟨iM, gM⟩ := hM
  exact ⟨by omega, iX, iM.mono (by omega), by omega, e2, fun j a q => by rw [fX 157 j (by omega), fM 7 j (by omega)]; exact hR.2.2.2.2.1 j a (by omega), eS, hR.F.fr (fun k j q => fM k j (by omega)), hR.H.fr (fX 182 2 (by omega)) (fun j => ⟨fX 183 j (by omega), fX 184 j (by omega), fM 26 j (by omega), fM 27 j (by omega)⟩)⟩
theorem Cl_avenue (k : Nat) (MX MM : Mem)  (hk : k < 512) (hMX : MR MX) (hMM : MR MM) (hR : Rel k MX MM) : qX11_avenue  MX (fun z MX1 => qX12_avenue  MM (fun b MM1 => z = b ∧ Rel (k + 1) MX1 MM1)) := by
  refine fmX11_avenue (gX11_avenueC hR.1 (Q := fun z M' => ∃ q, z = avz (MX 156 1) q ∧ IX M' ∧ AV (MX 157) (MX 156 1) q ∧ M' 156 1 = 0 ∧ (q = MX 156 1 ∧ 4 ≤ q → Ks kAv MX M' ∧ M' 158 1 = MX 156 1 ∧ (∀ c : Nat, c < 32 → (bt (iI (M' 158 2)) c = true ↔ (c : Int) < MX 156 1 ∧ MX 157 c = 99)) ∧ M' 163 2 = 0 ∧ (∀ i, 0 ≤ i → i < 3 → M' 166 i = 0) ∧ M' 1 6 = 0 ∧ M' 1 7 = 0 ∧ M' 1 8 = 0 ∧ M' 1 9 = 0 ∧ M' 1 10 = 0) ∧ (¬ (q = MX 156 1 ∧ 4 ≤ q) → Ks (fun k j => k = 156 ∧ j = 1) MX M')) (fun q M' i a l y n => ⟨q, rfl, i, a, l, y, n⟩)) ?_
  intro z MX1 fX hX
  obtain ⟨q, ez, iX, aX, lX, yX, nX⟩ := hX
  refine fmX12_avenue (gX12_avenueC hR.2.1 (by omega) (Q := fun z M' => ∃ q, z = avz (MM 1 14) q ∧ IM (60000 * (k : Int) + 1) M' ∧ AV (MM 7) (MM 1 14) q ∧ M' 1 14 = 0 ∧ (q = MM 1 14 ∧ 4 ≤ q → FrJ kAw MM M' ∧ M' 1 3 = MM 1 14 ∧ (∀ i, 0 ≤ i → i < MM 1 14 → (M' 2 i = 0 ↔ MM 7 i ≠ 99)) ∧ M' 1 4 = 0 ∧ M' 1 5 = 0 ∧ M' 5 = up (up (MM 5) 12 0) 37 0 ∧ M' 1 28 = 0 ∧ (∀ i, 0 ≤ i → i < 3 → M' 29 i = 0)) ∧ (¬ (q = MM 1 14 ∧ 4 ≤ q) → FrJ (fun k j => k = 8 ∨ (k = 1 ∧ (j = 0 ∨ j = 14 ∨ j = 15 ∨ j = 16 ∨ j = 17))) MM M')) (fun q M' i a l y n => ⟨q, rfl, i, a, l, y, n⟩)) ?_
  intro b MM1 fM hM
  obtain ⟨q2, eb, iM, aM, lM, yM, nM⟩ := hM
  have e := hR.2.2.1
  rw [← e] at eb aM yM nM
  have eq := aX.uq aM hR.2.2.2.2.1
  subst eq
  have hF : FOLS MM1 := by
    by_cases c : q = MX 156 1 ∧ 4 ≤ q
    · obtain ⟨m0, m1, m2, m3, m4, m5, m6, m7⟩ := yM c
      exact FOLS.z m4
    · exact hR.F.fr (fun k j h => nM c k j (by omega))
  refine ⟨by rw [ez, eb], hR.t iX iM (by omega) lX lM (fX 182 2 (by omega)) (fM 1 45 (by omega)) (fun j => ⟨fX 183 j (by omega), fX 184 j (by omega), fM 26 j (by omega), fM 27 j (by omega)⟩) hF ?_⟩
  by_cases c : q = MX 156 1 ∧ 4 ≤ q
  · obtain ⟨x0, x1, x2, x3, x4, x5, x6, x7, x8, x9⟩ := yX c
    obtain ⟨m0, m1, m2, m3, m4, m5, m6, m7⟩ := yM c
    have ck : ∀ (k : Nat) (j : Int), cE k j → k ≠ 2 → ¬ (k = 1 ∧ (j = 3 ∨ j = 4 ∨ j = 5)) → cut MM1 k j = cut MM k j := by
      intro k j h1 h2 h3
      rw [cut_p h1, cut_p h1]
      exact m0 k j (by omega)
    have a30 := aX.1
    refine hR.S.avenue hR.1 (len := MX 156 1) (f := MX 157) (by omega) (by rw [cut13]; exact m1) (by rw [cut14]; exact m3) (by rw [cut15]; exact m4) (ck 1 7 (by omega) (by decide) (by omega)) (ck 1 24 (by omega) (by decide) (by omega)) (fun i p q => ?_) (funext fun j => ck 3 j (by omega) (by decide) (by omega)) (funext fun j => ck 4 j (by omega) (by decide) (by omega)) (funext fun j => ck 11 j (by omega) (by decide) (by omega)) x0 x1 x2 x3 x4 x5 x6 x7 x8 x9 m5 m6 m7
    rw [cut2, hR.2.2.2.2.1 i p q]
    exact m2 i p q
  · have x0 := nX c
    have m0 := nM c
    rw [cut_of (M0 := MM) (fun k j h => m0 k j (by omega))]
    exact hR.S.fr hR.E0 hR.1 (fun k j q => x0 k j (by omega)) (fun k j q => m0 k j (by omega))
theorem Cl_hearses (k : Nat) (MX MM : Mem)  (hk : k < 512) (hMX : MR MX) (hMM : MR MM) (hR : Rel k MX MM) : qX11_hearses  MX (fun z MX1 => qX12_hearses  MM (fun b MM1 => z = b ∧ Rel (k + 1) MX1 MM1)) := by
  have S := hR.S
  have e := hR.2.2.1
  have bL := bm_c1_14.mp (hR.2.1.bx 1 14)
  have eT : hsT (MX 157) (MX 156 1) (eG (cut MM)) (cut MM 1 4) (MM 5) = hsT (MM 7) (MM 1 14) (eG (cut MM)) (cut MM 1 4) (MM 5) := by
    rw [e]
    exact rdH_cg (fun j p q => hR.2.2.2.2.1 j p (by omega)) 7 _ _ 0 (Int.le_refl _) (by omega)
  have eA : hsA (MX 157) (MX 156 1) (eG (cut MM)) (cut MM 1 4) (MM 5) = hsA (MM 7) (MM 1 14) (eG (cut MM)) (cut MM 1 4) (MM 5) := by
    unfold hsA hsOK
    rw [eT, e]
  refine fmX11_hearses (gX11_hearses (E := cut MM) (r := MM 5) hR.1 S.1 S.2.2.1 (Q := fun z M' => z = hsA (MM 7) (MM 1 14) (eG (cut MM)) (cut MM 1 4) (MM 5) ∧ IX M' ∧ M' 156 1 = 0 ∧ (hsOK (MM 7) (MM 1 14) (eG (cut MM)) (cut MM 1 4) (MM 5) ∧ MM 1 14 ≠ 0 → Ks (fun k j => (1 ≤ k ∧ k ≤ 14) ∨ k = 156 ∨ (k = 163 ∧ j = 2)) MX M' ∧ M' 163 2 = 0 ∧ SC (up2 (cut MM) 1 4 (hsT (MM 7) (MM 1 14) (eG (cut MM)) (cut MM 1 4) (MM 5)).2.2.1) M' 1 (hsT (MM 7) (MM 1 14) (eG (cut MM)) (cut MM 1 4) (MM 5)).2.2.2) ∧ (¬ (hsOK (MM 7) (MM 1 14) (eG (cut MM)) (cut MM 1 4) (MM 5) ∧ MM 1 14 ≠ 0) → Ks (fun k j => (8 ≤ k ∧ k ≤ 14) ∨ k = 156) MX M')) (fun M' i l y n => by unfold hsOK at y n; rw [eT, e] at y n; exact ⟨eA, i, l, y, n⟩)) ?_
  intro z MX1 fX hX
  obtain ⟨ez, iX, lX, yX, nX⟩ := hX
  refine fmX12_hearses (gX12_hearses (E := cut MM) hR.2.1 (cut_CE MM) (by omega) (Q := fun z M' => z = hsA (MM 7) (MM 1 14) (eG (cut MM)) (cut MM 1 4) (MM 5) ∧ IM (60000 * (k : Int) + 1) M' ∧ M' 1 14 = 0 ∧ (hsOK (MM 7) (MM 1 14) (eG (cut MM)) (cut MM 1 4) (MM 5) ∧ MM 1 14 ≠ 0 → M' 1 4 = (hsT (MM 7) (MM 1 14) (eG (cut MM)) (cut MM 1 4) (MM 5)).2.2.1 ∧ M' 5 = (hsT (MM 7) (MM 1 14) (eG (cut MM)) (cut MM 1 4) (MM 5)).2.2.2 ∧ M' 1 28 = 0 ∧ M' 1 6 = MM 1 6 + 1 ∧ FrJ (fun k j => k = 5 ∨ k = 9 ∨ (k = 1 ∧ (j = 0 ∨ j = 4 ∨ j = 6 ∨ j = 14 ∨ j = 15 ∨ j = 16 ∨ j = 17 ∨ j = 20 ∨ j = 28))) MM M') ∧ (¬ (hsOK (MM 7) (MM 1 14) (eG (cut MM)) (cut MM 1 4) (MM 5) ∧ MM 1 14 ≠ 0) → FrJ (fun k j => k = 9 ∨ (k = 1 ∧ (j = 0 ∨ j = 14 ∨ j = 15 ∨ j = 16 ∨ j = 17 ∨ j = 20))) MM M' ∧ M' 1 6 = MM 1 6)) (fun M' i l y n => ⟨rfl, i, l, y, n⟩)) ?_
  intro b MM1 fM hM
  obtain ⟨eb, iM, lM, yM, nM⟩ := hM
  have hF : FOLS MM1 := by
    by_cases c : hsOK (MM 7) (MM 1 14) (eG (cut MM)) (cut MM 1 4) (MM 5) ∧ MM 1 14 ≠ 0
    · obtain ⟨m0, m1, m2, m3, m4⟩ := yM c
      refine FOLS.new S m2 m3 (fun i => m4 29 i (by omega)) (fun i => m4 30 i (by omega)) ?_
      rw [m1]
      exact (fol_rdH (E := cut MM) (f := MM 7) (t := min (MM 1 14) 17) (g := eG (cut MM)) (a := 0) (n := 7) hR.f hR.E0 S.2.2.2.1 ⟨Int.le_refl _, by omega⟩).e (by rw [m4 1 5 (by omega), cut15])
    · exact hR.F.fr (fun k j h => (nM c).1 k j (by omega))
  refine ⟨by rw [ez, eb], hR.t iX iM (by omega) lX lM (fX 182 2 (by omega)) (fM 1 45 (by omega)) (fun j => ⟨fX 183 j (by omega), fX 184 j (by omega), fM 26 j (by omega), fM 27 j (by omega)⟩) hF ?_⟩
  by_cases c : hsOK (MM 7) (MM 1 14) (eG (cut MM)) (cut MM 1 4) (MM 5) ∧ MM 1 14 ≠ 0
  · obtain ⟨x0, x1, x2⟩ := yX c
    obtain ⟨m0, m1, m2, m3, m4⟩ := yM c
    have E0 := hR.E0
    have eb' := E0.2
    have b := rdH_b (f := MM 7) (t := min (MM 1 14) 17) (g := eG (cut MM)) 7 (cut MM 1 4) (MM 5) 0 ⟨Int.le_refl _, by omega⟩ eb'.1 (by omega)
    have b' : cut MM 1 4 < (hsT (MM 7) (MM 1 14) (eG (cut MM)) (cut MM 1 4) (MM 5)).2.2.1 ∧ (hsT (MM 7) (MM 1 14) (eG (cut MM)) (cut MM 1 4) (MM 5)).2.2.1 ≤ 6 := by
      rcases b.2 with q | q
      · exact absurd (c.1.1.symm.trans q) (by decide)
      · exact q.2
    have W := WR.rds (E := cut MM) (f := MM 7) (t := min (MM 1 14) 17) eb'.2.2 7 (cut MM 1 4) (MM 5) 0 (by rw [show up2 (cut MM) 1 4 (cut MM 1 4) = cut MM from up2_id _ _ _]; exact S.2.2.2.1) eb'.1 ⟨Int.le_refl _, by omega⟩ c.1.1
    refine (S.hearses (H' := (hsT (MM 7) (MM 1 14) (eG (cut MM)) (cut MM 1 4) (MM 5)).2.2.1) (r' := (hsT (MM 7) (MM 1 14) (eG (cut MM)) (cut MM 1 4) (MM 5)).2.2.2) E0 hR.1 b' x0 x1 x2 m1 m2 m3 m4 W).c ?_
    funext k j
    by_cases h4 : k = 1 ∧ j = 4
    · rw [h4.1, h4.2, cut14, up2_s]
      exact m0
    · have hu : up2 (cut MM) 1 4 (hsT (MM 7) (MM 1 14) (eG (cut MM)) (cut MM 1 4) (MM 5)).2.2.1 k j = cut MM k j := by
        rw [up2_a]
        by_cases c1 : k = 1
        · rw [if_pos c1, if_neg (fun q => h4 ⟨c1, q⟩)]
        · rw [if_neg c1]
      rw [hu]
      by_cases h : cE k j
      · rw [cut_p h, cut_p h]
        exact m4 k j (by omega)
      · unfold cut
        rw [if_neg h, if_neg h]
  · have x0 := nX c
    obtain ⟨m0, m6⟩ := nM c
    rw [cut_of (M0 := MM) (fun k j h => m0 k j (by omega))]
    exact S.fr hR.E0 hR.1 (fun k j q => x0 k j (by omega)) (fun k j q => m0 k j (by omega))
theorem Cl_mourners (k : Nat) (MX MM : Mem)  (hk : k < 512) (hMX : MR MX) (hMM : MR MM) (hR : Rel k MX MM) : qX11_mourners  MX (fun z MX1 => qX12_mourners  MM (fun b MM1 => z = b ∧ Rel (k + 1) MX1 MM1)) := by
  have S := hR.S
  have e := hR.2.2.1
  have bL := bm_c1_14.mp (hR.2.1.bx 1 14)
  have eT : msT (MX 157) (MX 156 1) (eG (cut MM)) (cut MM 1 4) (cut MM 1 5) (MM 5) (cut MM 3) = msT (MM 7) (MM 1 14) (eG (cut MM)) (cut MM 1 4) (cut MM 1 5) (MM 5) (cut MM 3) := by
    rw [e]
    exact rdM_cg (fun j p q => hR.2.2.2.2.1 j p (by omega)) 9 _ _ _ 0 (Int.le_refl _) (by omega)
  have eA : msA (MX 157) (MX 156 1) (eG (cut MM)) (cut MM 1 4) (cut MM 1 5) (MM 5) (cut MM 3) = msA (MM 7) (MM 1 14) (eG (cut MM)) (cut MM 1 4) (cut MM 1 5) (MM 5) (cut MM 3) := by
    unfold msA msOK
    rw [eT, e]
  refine fmX11_mourners (gX11_mourners (E := cut MM) (r := MM 5) hR.1 S.1 S.2.2.1 (Q := fun z M' => z = msA (MM 7) (MM 1 14) (eG (cut MM)) (cut MM 1 4) (cut MM 1 5) (MM 5) (cut MM 3) ∧ IX M' ∧ M' 156 1 = 0 ∧ (msOK (MM 7) (MM 1 14) (eG (cut MM)) (cut MM 1 4) (cut MM 1 5) (MM 5) (cut MM 3) ∧ MM 1 14 ≠ 0 → Ks (fun k j => (1 ≤ k ∧ k ≤ 14) ∨ k = 156 ∨ (k = 163 ∧ j = 2)) MX M' ∧ M' 163 2 = 0 ∧ SC (eM (cut MM) (msT (MM 7) (MM 1 14) (eG (cut MM)) (cut MM 1 4) (cut MM 1 5) (MM 5) (cut MM 3)).2.2.2.2 (msT (MM 7) (MM 1 14) (eG (cut MM)) (cut MM 1 4) (cut MM 1 5) (MM 5) (cut MM 3)).2.2.1) M' 1 (msT (MM 7) (MM 1 14) (eG (cut MM)) (cut MM 1 4) (cut MM 1 5) (MM 5) (cut MM 3)).2.2.2.1) ∧ (¬ (msOK (MM 7) (MM 1 14) (eG (cut MM)) (cut MM 1 4) (cut MM 1 5) (MM 5) (cut MM 3) ∧ MM 1 14 ≠ 0) → Ks (fun k j => (8 ≤ k ∧ k ≤ 14) ∨ k = 156) MX M')) (fun M' i l y n => by unfold msOK at y n; rw [eT, e] at y n; exact ⟨eA, i, l, y, n⟩)) ?_
  intro z MX1 fX hX
  obtain ⟨ez, iX, lX, yX, nX⟩ := hX
  refine fmX12_mourners (gX12_mourners (E := cut MM) hR.2.1 (cut_CE MM) (by omega) (Q := fun z M' => z = msA (MM 7) (MM 1 14) (eG (cut MM)) (cut MM 1 4) (cut MM 1 5) (MM 5) (cut MM 3) ∧ IM (60000 * (k : Int) + 1) M' ∧ M' 1 14 = 0 ∧ (msOK (MM 7) (MM 1 14) (eG (cut MM)) (cut MM 1 4) (cut MM 1 5) (MM 5) (cut MM 3) ∧ MM 1 14 ≠ 0 → M' 1 5 = (msT (MM 7) (MM 1 14) (eG (cut MM)) (cut MM 1 4) (cut MM 1 5) (MM 5) (cut MM 3)).2.2.1 ∧ M' 5 = (msT (MM 7) (MM 1 14) (eG (cut MM)) (cut MM 1 4) (cut MM 1 5) (MM 5) (cut MM 3)).2.2.2.1 ∧ M' 3 = (msT (MM 7) (MM 1 14) (eG (cut MM)) (cut MM 1 4) (cut MM 1 5) (MM 5) (cut MM 3)).2.2.2.2 ∧ M' 1 28 = 0 ∧ M' 1 6 = MM 1 6 + 1 ∧ FrJ (fun k j => k = 3 ∨ k = 5 ∨ k = 9 ∨ (k = 1 ∧ (j = 0 ∨ j = 5 ∨ j = 6 ∨ j = 14 ∨ j = 15 ∨ j = 16 ∨ j = 17 ∨ j = 20 ∨ j = 28))) MM M') ∧ (¬ (msOK (MM 7) (MM 1 14) (eG (cut MM)) (cut MM 1 4) (cut MM 1 5) (MM 5) (cut MM 3) ∧ MM 1 14 ≠ 0) → FrJ (fun k j => k = 9 ∨ (k = 1 ∧ (j = 0 ∨ j = 14 ∨ j = 15 ∨ j = 16 ∨ j = 17 ∨ j = 20))) MM M')) (fun M' i l y n => ⟨rfl, i, l, y, n⟩)) ?_
  intro b MM1 fM hM
  obtain ⟨eb, iM, lM, yM, nM⟩ := hM
  have hF : FOLS MM1 := by
    by_cases c : msOK (MM 7) (MM 1 14) (eG (cut MM)) (cut MM 1 4) (cut MM 1 5) (MM 5) (cut MM 3) ∧ MM 1 14 ≠ 0
    · obtain ⟨m0, m1, m1', m2, m3, m4⟩ := yM c
      refine FOLS.new S m2 m3 (fun i => m4 29 i (by omega)) (fun i => m4 30 i (by omega)) ?_
      rw [m1]
      exact fol_rdM (E := cut MM) (f := MM 7) (t := min (MM 1 14) 39) (g := eG (cut MM)) (H := cut MM 1 4) (a := 0) (n := 9) (w := cut MM 3) hR.f hR.E0 S.2.2.2.1 ⟨Int.le_refl _, by omega⟩ m0
    · exact hR.F.fr (fun k j h => nM c k j (by omega))
  refine ⟨by rw [ez, eb], hR.t iX iM (by omega) lX lM (fX 182 2 (by omega)) (fM 1 45 (by omega)) (fun j => ⟨fX 183 j (by omega), fX 184 j (by omega), fM 26 j (by omega), fM 27 j (by omega)⟩) hF ?_⟩
  by_cases c : msOK (MM 7) (MM 1 14) (eG (cut MM)) (cut MM 1 4) (cut MM 1 5) (MM 5) (cut MM 3) ∧ MM 1 14 ≠ 0
  · obtain ⟨x0, x1, x2⟩ := yX c
    obtain ⟨m0, m1, m1', m2, m3, m4⟩ := yM c
    have E0 := hR.E0
    have eb' := E0.2
    have b := rdM_b (f := MM 7) (t := min (MM 1 14) 39) (g := eG (cut MM)) (H := cut MM 1 4) 9 (cut MM 1 5) (MM 5) (cut MM 3) 0 ⟨Int.le_refl _, by omega⟩ eb'.2 (by omega)
    have b' : cut MM 1 5 < (msT (MM 7) (MM 1 14) (eG (cut MM)) (cut MM 1 4) (cut MM 1 5) (MM 5) (cut MM 3)).2.2.1 ∧ (msT (MM 7) (MM 1 14) (eG (cut MM)) (cut MM 1 4) (cut MM 1 5) (MM 5) (cut MM 3)).2.2.1 ≤ 8 := by
      rcases b.2 with q | q
      · exact absurd (c.1.1.symm.trans q) (by decide)
      · exact q.2
    have W := WR.rdm (E := cut MM) (f := MM 7) (t := min (MM 1 14) 39) eb'.1 9 (cut MM 1 5) (MM 5) (cut MM 3) 0 (by rw [eM_id]; exact S.2.2.2.1) hR.own eb'.2 ⟨Int.le_refl _, by omega⟩ c.1.1
    refine (S.mourners (m' := (msT (MM 7) (MM 1 14) (eG (cut MM)) (cut MM 1 4) (cut MM 1 5) (MM 5) (cut MM 3)).2.2.1) (r' := (msT (MM 7) (MM 1 14) (eG (cut MM)) (cut MM 1 4) (cut MM 1 5) (MM 5) (cut MM 3)).2.2.2.1) (w' := (msT (MM 7) (MM 1 14) (eG (cut MM)) (cut MM 1 4) (cut MM 1 5) (MM 5) (cut MM 3)).2.2.2.2) E0 hR.1 b' W.2 x0 x1 x2 m1 m2 m3 m4 W.1).c ?_
    funext k j
    by_cases h3 : k = 3
    · rw [h3, cut3]
      exact congrFun m1' j
    · rw [show eM (cut MM) (msT (MM 7) (MM 1 14) (eG (cut MM)) (cut MM 1 4) (cut MM 1 5) (MM 5) (cut MM 3)).2.2.2.2 (msT (MM 7) (MM 1 14) (eG (cut MM)) (cut MM 1 4) (cut MM 1 5) (MM 5) (cut MM 3)).2.2.1 k j = up2 (cut MM) 1 5 (msT (MM 7) (MM 1 14) (eG (cut MM)) (cut MM 1 4) (cut MM 1 5) (MM 5) (cut MM 3)).2.2.1 k j from by unfold eM; rw [if_neg h3]]
      by_cases h4 : k = 1 ∧ j = 5
      · rw [h4.1, h4.2, cut15, up2_s]
        exact m0
      · have hu : up2 (cut MM) 1 5 (msT (MM 7) (MM 1 14) (eG (cut MM)) (cut MM 1 4) (cut MM 1 5) (MM 5) (cut MM 3)).2.2.1 k j = cut MM k j := by
          rw [up2_a]
          by_cases c1 : k = 1
          · rw [if_pos c1, if_neg (fun q => h4 ⟨c1, q⟩)]
          · rw [if_neg c1]
        rw [hu]
        by_cases h : cE k j
        · rw [cut_p h, cut_p h]
          exact m4 k j (by omega)
        · unfold cut
          rw [if_neg h, if_neg h]
  · have x0 := nX c
    have m0 := nM c
    rw [cut_of (M0 := MM) (fun k j h => m0 k j (by omega))]
    exact S.fr hR.E0 hR.1 (fun k j q => x0 k j (by omega)) (fun k j q => m0 k j (by omega))
theorem Cl_weather (k : Nat) (MX MM : Mem)  (hk : k < 512) (hMX : MR MX) (hMM : MR MM) (hR : Rel k MX MM) : qX11_weather  MX (fun z MX1 => qX12_weather  MM (fun b MM1 => z = b ∧ Rel (k + 1) MX1 MM1)) := by
  refine fmX11_weather (gX11_weatherC hR.1 (Q := fun z M' => ∃ q, z = wvz (MX 156 1) q ∧ IX M' ∧ WV (MX 157) (MX 156 1) q ∧ M' 156 1 = 0 ∧ (q = MX 156 1 ∧ 1 ≤ q → Ks (fun k j => k = 156 ∨ k = 159 ∨ (k = 158 ∧ j = 3)) MX M' ∧ M' 158 3 = MX 156 1 ∧ ∀ i, 0 ≤ i → i < MX 156 1 → M' 159 i = MX 157 i - 48) ∧ (¬ (q = MX 156 1 ∧ 1 ≤ q) → Ks (fun k j => k = 156 ∧ j = 1) MX M')) (fun q M' i a l y n => ⟨q, rfl, i, a, l, y, n⟩)) ?_
  intro z MX1 fX hX
  obtain ⟨q, ez, iX, aX, lX, yX, nX⟩ := hX
  refine fmX12_weather (gX12_weatherC hR.2.1 (Q := fun z M' => ∃ q, z = wvz (MM 1 14) q ∧ IM (60000 * (k : Int)) M' ∧ WV (MM 7) (MM 1 14) q ∧ M' 1 14 = 0 ∧ (q = MM 1 14 ∧ 1 ≤ q → FrJ (fun k j => k = 4 ∨ k = 10 ∨ (k = 1 ∧ (j = 0 ∨ j = 7 ∨ j = 14 ∨ j = 15 ∨ j = 16 ∨ j = 17))) MM M' ∧ M' 1 7 = MM 1 14 ∧ ∀ i, 0 ≤ i → i < MM 1 14 → M' 4 i = MM 7 i - 48) ∧ (¬ (q = MM 1 14 ∧ 1 ≤ q) → FrJ (fun k j => k = 10 ∨ (k = 1 ∧ (j = 0 ∨ j = 14 ∨ j = 15 ∨ j = 16 ∨ j = 17))) MM M')) (fun q M' i a l y n => ⟨q, rfl, i, a, l, y, n⟩)) ?_
  intro b MM1 fM hM
  obtain ⟨q2, eb, iM, aM, lM, yM, nM⟩ := hM
  have e := hR.2.2.1
  rw [← e] at eb aM yM nM
  have eq := aX.uq aM hR.2.2.2.2.1
  subst eq
  have hF : FOLS MM1 := hR.F.fr (fun k j q => fM k j (by omega))
  refine ⟨by rw [ez, eb], hR.t iX iM (by omega) lX lM (fX 182 2 (by omega)) (fM 1 45 (by omega)) (fun j => ⟨fX 183 j (by omega), fX 184 j (by omega), fM 26 j (by omega), fM 27 j (by omega)⟩) hF ?_⟩
  by_cases c : q = MX 156 1 ∧ 1 ≤ q
  · obtain ⟨x0, x1, x2⟩ := yX c
    obtain ⟨m0, m1, m2⟩ := yM c
    have a20 := aX.1
    refine hR.S.weather hR.E0 hR.1 (len := MX 156 1) (f := MX 157) (by omega) (fun k j h1 h2 => ?_) (by rw [cut17]; exact m1) (fun i p q => ?_) x0 x1 x2 m0
    · by_cases h : cE k j
      · rw [cut_p h, cut_p h]
        exact m0 k j (by omega)
      · unfold cut
        rw [if_neg h, if_neg h]
    · rw [cut4, hR.2.2.2.2.1 i p q]
      exact m2 i p q
  · have x0 := nX c
    have m0 := nM c
    rw [cut_of (M0 := MM) (fun k j h => m0 k j (by omega))]
    exact hR.S.fr hR.E0 hR.1 (fun k j q => x0 k j (by omega)) (fun k j q => m0 k j (by omega))
theorem Cl_rule (k : Nat) (MX MM : Mem)  (hk : k < 512) (hMX : MR MX) (hMM : MR MM) (hR : Rel k MX MM) : qX11_rule  MX (fun z MX1 => qX12_rule  MM (fun b MM1 => z = b ∧ Rel (k + 1) MX1 MM1)) := by
  have S := hR.S
  have e := hR.2.2.1
  refine fmX11_rule (fzX11_rule (gX11_rule (f := MM 7) hR.1 hR.2.2.2.2.1 (Q := fun z M' => z = rly (MM 7) (MX 156 1) ∧ IX M' ∧ (rlz (MM 7) (MX 156 1) = -1 → ROl (M' 155 16).toNat M' (rlO (MM 7) (MX 156 1))) ∧ (rlz (MM 7) (MX 156 1) ≠ -1 → M' 155 16 = MX 155 16 ∧ ∀ (k : Nat) (j : Int), (MX 155 16).toNat ≤ k → k ≤ (MX 155 16).toNat + 2 → M' k j = MX k j)) (fun M' i y n => ⟨rfl, i, y, n⟩)) (Q' := fun z M' => M' 156 1 = 0 ∧ z = rly (MM 7) (MX 156 1) ∧ IX M' ∧ (rlz (MM 7) (MX 156 1) = -1 → ROl (M' 155 16).toNat M' (rlO (MM 7) (MX 156 1))) ∧ (rlz (MM 7) (MX 156 1) ≠ -1 → M' 155 16 = MX 155 16 ∧ ∀ (k : Nat) (j : Int), (MX 155 16).toNat ≤ k → k ≤ (MX 155 16).toNat + 2 → M' k j = MX k j)) (fun _ M' z h => ⟨z, h⟩)) ?_
  intro z MX1 fX hX
  obtain ⟨lX, ez, iX, yX, nX⟩ := hX
  refine fmX12_rule (fzX12_rule (gX12_rule (f := MM 7) hR.2.1 (fun _ _ _ => rfl) (Q := fun z M' => z = rly (MM 7) (MM 1 14) ∧ IM (60000 * (k : Int)) M' ∧ (rlz (MM 7) (MM 1 14) ≠ -1 → Ks kRu MM M') ∧ (rlz (MM 7) (MM 1 14) = -1 → Ks (fun k j => kRu k j ∨ k = 11 ∨ (k = 1 ∧ j = 24)) MM M' ∧ RUL M' (MM 7) (MM 1 14))) (fun M' i n y => ⟨rfl, i, n, y⟩)) (Q' := fun z M' => M' 1 14 = 0 ∧ z = rly (MM 7) (MM 1 14) ∧ IM (60000 * (k : Int)) M' ∧ (rlz (MM 7) (MM 1 14) ≠ -1 → Ks kRu MM M') ∧ (rlz (MM 7) (MM 1 14) = -1 → Ks (fun k j => kRu k j ∨ k = 11 ∨ (k = 1 ∧ j = 24)) MM M' ∧ RUL M' (MM 7) (MM 1 14))) (fun _ M' z h => ⟨z, h⟩)) ?_
  intro b MM1 fM hM
  obtain ⟨lM, eb, iM, nM, yM⟩ := hM
  rw [← e] at eb nM yM
  have hF : FOLS MM1 := hR.F.fr (fun k j q => fM k j (by omega))
  refine ⟨by rw [ez, eb], hR.t iX iM (by omega) lX lM (fX 182 2 (by omega)) (fM 1 45 (by omega)) (fun j => ⟨fX 183 j (by omega), fX 184 j (by omega), fM 26 j (by omega), fM 27 j (by omega)⟩) hF ?_⟩
  by_cases c : rlz (MM 7) (MX 156 1) = -1
  · have x0 := yX c
    obtain ⟨m0, m1⟩ := yM c
    refine S.rule hR.E0 hR.1 (fun k j h1 h2 => ?_) (fun k j h => fX k j (by omega)) ?_ (fun k j h => m0 k j (by omega))
    · by_cases h : cE k j
      · rw [cut_p h, cut_p h]
        exact m0 k j (by omega)
      · unfold cut
        rw [if_neg h, if_neg h]
    · exact m1.law (cut124 MM1) (cut11 MM1) x0
  · obtain ⟨x0, x1⟩ := nX c
    have m0 := nM c
    have ec : cut MM1 = cut MM := cut_of (fun k j h => m0 k j (by omega))
    rw [ec]
    refine S.rule hR.E0 hR.1 (fun _ _ _ _ => rfl) (fun k j h => fX k j (by omega)) ?_ (fun k j h => m0 k j (by omega))
    rw [x0]
    exact S.2.1.fr (x1 _ _ (by omega) (by omega)) (x1 _ _ (by omega) (by omega)) (fun j => x1 _ j (by omega) (by omega)) (fun j => x1 _ j (by omega) (by omega))
theorem Rk_hearse (k : Nat) (MX MM : Mem) (y1 y2 : Int) (hy1 : iR y1) (hy2 : iR y2) (hk : k < 512) (hMX : MR MX) (hMM : MR MM) (hR : Rel k MX MM) : qX11_hearse y1 y2 MX (fun z MX1 => qX12_hearse y1 y2 MM (fun b MM1 => Rel (k + 1) MX1 MM1)) (fun MX1 => qX12_hearse y1 y2 MM (fun b MM1 => Rel (k + 1) MX1 MM1)) := by
  refine fmX11_hearse (sX11_hearse (p1 := y1) (p2 := y2) hR.1 (Q := fun _ M' => IX M') (E := fun M' => IX M') (fun _ _ h => h) (fun _ h => h)) ?_ ?_
  · intro z MX1 fX hX
    refine fmX12_hearse (sX12_hearse (p1 := y1) (p2 := y2) hR.2.1 (Q := fun _ M' => IM (60000 * (k : Int)) M') (fun _ _ h => h)) ?_
    intro b MM1 fM hM
    exact hR.q hX hM (by omega) (fX 156 1 (by first | omega | exact fun h => h)) (fM 1 14 (by first | omega | exact fun h => h)) (fX 182 2 (by first | omega | exact fun h => h)) (fM 1 45 (by first | omega | exact fun h => h)) (fun j => fX 157 j (by first | omega | exact fun h => h)) (fun j => fM 7 j (by first | omega | exact fun h => h)) (fun j => ⟨fX 183 j (by first | omega | exact fun h => h), fX 184 j (by first | omega | exact fun h => h), fM 26 j (by first | omega | exact fun h => h), fM 27 j (by first | omega | exact fun h => h)⟩) (fun k j q => fX k j (by first | omega | exact fun h => h)) (fun k j q => fM k j (by first | omega | exact fun h => h))
  · intro MX1 fX hX
    refine fmX12_hearse (sX12_hearse (p1 := y1) (p2 := y2) hR.2.1 (Q := fun _ M' => IM (60000 * (k : Int)) M') (fun _ _ h => h)) ?_
    intro b MM1 fM hM
    exact hR.q hX hM (by omega) (fX 156 1 (by first | omega | exact fun h => h)) (fM 1 14 (by first | omega | exact fun h => h)) (fX 182 2 (by first | omega | exact fun h => h)) (fM 1 45 (by first | omega | exact fun h => h)) (fun j => fX 157 j (by first | omega | exact fun h => h)) (fun j => fM 7 j (by first | omega | exact fun h => h)) (fun j => ⟨fX 183 j (by first | omega | exact fun h => h), fX 184 j (by first | omega | exact fun h => h), fM 26 j (by first | omega | exact fun h => h), fM 27 j (by first | omega | exact fun h => h)⟩) (fun k j q => fX k j (by first | omega | exact fun h => h)) (fun k j q => fM k j (by first | omega | exact fun h => h))
theorem Rk_mourner (k : Nat) (MX MM : Mem) (y1 y2 : Int) (hy1 : iR y1) (hy2 : iR y2) (hk : k < 512) (hMX : MR MX) (hMM : MR MM) (hR : Rel k MX MM) : qX11_mourner y1 y2 MX (fun z MX1 => qX12_mourner y1 y2 MM (fun b MM1 => Rel (k + 1) MX1 MM1)) (fun MX1 => qX12_mourner y1 y2 MM (fun b MM1 => Rel (k + 1) MX1 MM1)) := by
  refine fmX11_mourner (sX11_mourner (p1 := y1) (p2 := y2) hR.1 (Q := fun _ M' => IX M') (E := fun M' => IX M') (fun _ _ h => h) (fun _ h => h)) ?_ ?_
  · intro z MX1 fX hX
    refine fmX12_mourner (sX12_mourner (p1 := y1) (p2 := y2) hR.2.1 (Q := fun _ M' => IM (60000 * (k : Int)) M') (fun _ _ h => h)) ?_
    intro b MM1 fM hM
    exact hR.q hX hM (by omega) (fX 156 1 (by first | omega | exact fun h => h)) (fM 1 14 (by first | omega | exact fun h => h)) (fX 182 2 (by first | omega | exact fun h => h)) (fM 1 45 (by first | omega | exact fun h => h)) (fun j => fX 157 j (by first | omega | exact fun h => h)) (fun j => fM 7 j (by first | omega | exact fun h => h)) (fun j => ⟨fX 183 j (by first | omega | exact fun h => h), fX 184 j (by first | omega | exact fun h => h), fM 26 j (by first | omega | exact fun h => h), fM 27 j (by first | omega | exact fun h => h)⟩) (fun k j q => fX k j (by first | omega | exact fun h => h)) (fun k j q => fM k j (by first | omega | exact fun h => h))
  · intro MX1 fX hX
    refine fmX12_mourner (sX12_mourner (p1 := y1) (p2 := y2) hR.2.1 (Q := fun _ M' => IM (60000 * (k : Int)) M') (fun _ _ h => h)) ?_
    intro b MM1 fM hM
    exact hR.q hX hM (by omega) (fX 156 1 (by first | omega | exact fun h => h)) (fM 1 14 (by first | omega | exact fun h => h)) (fX 182 2 (by first | omega | exact fun h => h)) (fM 1 45 (by first | omega | exact fun h => h)) (fun j => fX 157 j (by first | omega | exact fun h => h)) (fun j => fM 7 j (by first | omega | exact fun h => h)) (fun j => ⟨fX 183 j (by first | omega | exact fun h => h), fX 184 j (by first | omega | exact fun h => h), fM 26 j (by first | omega | exact fun h => h), fM 27 j (by first | omega | exact fun h => h)⟩) (fun k j q => fX k j (by first | omega | exact fun h => h)) (fun k j q => fM k j (by first | omega | exact fun h => h))
theorem Cl_sheet (k : Nat) (MX MM : Mem) (y1 y2 y3 y4 : Int) (hy1 : iR y1) (hy2 : iR y2) (hy3 : iR y3) (hy4 : iR y4) (hk : k < 512) (hMX : MR MX) (hMM : MR MM) (hR : Rel k MX MM) : qX11_sheet y1 y2 y3 y4 MX (fun z MX1 => qX12_sheet y1 y2 y3 y4 MM (fun b MM1 => z = b ∧ Rel (k + 1) MX1 MM1)) := by
  have S := hR.S
  refine fmX11_sheet (gX11_sheet (E := cut MM) (r := MM 5) (p1 := y1) (p2 := y2) (p3 := y3) (p4 := y4) hR.1 S.1 S.2.2.1 S.2.2.2.1 (Q := fun z M' => z = shA (cut MM) y1 y2 y3 y4 (MM 5) ∧ IX M' ∧ SC (cut MM) M' 1 (shRR (cut MM) y1 y2 y3 y4 (MM 5))) (fun M' i _ c => ⟨rfl, i, c⟩)) ?_
  intro z MX1 fX hX
  obtain ⟨ez, iX, cX⟩ := hX
  refine fmX12_sheet (gX12_sheet (E := cut MM) (p1 := y1) (p2 := y2) (p3 := y3) (p4 := y4) hR.2.1 (cut_CE MM) hR.E0 hy3 (Q := fun z M' => z = shA (cut MM) y1 y2 y3 y4 (MM 5) ∧ IM (60000 * (k : Int)) M' ∧ M' 5 = shRR (cut MM) y1 y2 y3 y4 (MM 5)) (fun M' i _ c => ⟨rfl, i, c⟩)) ?_
  intro b MM1 fM hM
  obtain ⟨eb, iM, cM⟩ := hM
  have hF : FOLS MM1 := hR.F.now (fun k j h => fM k j (by omega)) cM (fol_sh hR.f hR.E0 S.2.2.2.1)
  refine ⟨by rw [ez, eb], hR.s iX iM (by omega) (fX 156 1 (by omega)) (fM 1 14 (by omega)) (fX 182 2 (by omega)) (fM 1 45 (by omega)) (fun j => fX 157 j (by omega)) (fun j => fM 7 j (by omega)) (fun j => ⟨fX 183 j (by omega), fX 184 j (by omega), fM 26 j (by omega), fM 27 j (by omega)⟩) (fun k j q => fM k j (by omega)) hF ?_⟩
  exact S.now hR.E0 hR.1 (fun k j h => fX k j (by omega)) cX (fun k j h => fM k j (by omega)) cM (S.2.2.2.1.shAll hR.E0)
theorem Cl_steps (k : Nat) (MX MM : Mem) (y1 : Int) (hy1 : iR y1) (hk : k < 512) (hMX : MR MX) (hMM : MR MM) (hR : Rel k MX MM) : qX11_steps y1 MX (fun z MX1 => qX12_steps y1 MM (fun b MM1 => z = b ∧ Rel (k + 1) MX1 MM1)) := by
  have S := hR.S
  have r37 := hR.r37 hk
  refine fmX11_steps (gX11_steps (E := cut MM) (r := MM 5) (p1 := y1) hR.1 S.1 S.2.1 hR.W S.2.2.1 S.2.2.2.1 (by omega) (Q := fun z M' => IX M' ∧ (0 ≤ y1 ∧ y1 ≤ 60 → z = itF (cut MM) y1.toNat (MM 5) 12 ∧ WR (cut MM) (itF (cut MM) y1.toNat (MM 5)) ∧ CACT (cut MM) MX M' (MM 5) (itF (cut MM) y1.toNat (MM 5))) ∧ (¬ (0 ≤ y1 ∧ y1 ≤ 60) → z = -1 ∧ M' = MX)) (fun c M' i wr a => ⟨i, fun _ => ⟨rfl, wr, a⟩, fun n => absurd c n⟩) (fun n => ⟨hR.1, fun c => absurd c n, fun _ => ⟨rfl, rfl⟩⟩)) ?_
  intro z MX1 fX hX
  obtain ⟨iX, yX, nX⟩ := hX
  refine fmX12_steps (gX12_steps (E := cut MM) (p1 := y1) hR.2.1 (cut_CE MM) (by omega) (Q := fun z M' => IM (60000 * (k : Int) + 200) M' ∧ (0 ≤ y1 ∧ y1 ≤ 60 → z = itF (cut MM) y1.toNat (MM 5) 12 ∧ RACT MM M' (itF (cut MM) y1.toNat (MM 5))) ∧ (¬ (0 ≤ y1 ∧ y1 ≤ 60) → z = -1 ∧ RNOP MM M')) (fun c M' i a => ⟨i, fun _ => ⟨rfl, a⟩, fun n => absurd c n⟩) (fun n M' i a => ⟨i, fun c => absurd c n, fun _ => ⟨rfl, a⟩⟩)) ?_
  intro b MM1 fM hM
  obtain ⟨iM, yM, nM⟩ := hM
  by_cases c : 0 ≤ y1 ∧ y1 ≤ 60
  · obtain ⟨ez, wr, aX⟩ := yX c
    obtain ⟨eb, aM⟩ := yM c
    have hF : FOLS MM1 := hR.F.act S hR.E0 aM (fol_it hR.E0 S.2.2.2.1 hR.f _)
    refine ⟨by rw [ez, eb], hR.s iX iM (by omega) (fX 156 1 (by omega)) (fM 1 14 (by omega)) (fX 182 2 (by omega)) (fM 1 45 (by omega)) (fun j => fX 157 j (by omega)) (fun j => fM 7 j (by omega)) (fun j => ⟨fX 183 j (by omega), fX 184 j (by omega), fM 26 j (by omega), fM 27 j (by omega)⟩) (fun k j q => fM k j (by omega)) hF ?_⟩
    exact S.act hR.E0 hR.1 aX aM wr
  · obtain ⟨ez, aX⟩ := nX c
    obtain ⟨eb, aM⟩ := nM c
    have hF : FOLS MM1 := hR.F.nop S hR.E0 aM
    refine ⟨by rw [ez, eb], hR.s iX iM (by omega) (fX 156 1 (by omega)) (fM 1 14 (by omega)) (fX 182 2 (by omega)) (fM 1 45 (by omega)) (fun j => fX 157 j (by omega)) (fun j => fM 7 j (by omega)) (fun j => ⟨fX 183 j (by omega), fX 184 j (by omega), fM 26 j (by omega), fM 27 j (by omega)⟩) (fun k j q => fM k j (by omega)) hF ?_⟩
    refine S.nop hR.E0 hR.1 ?_ aM
    rw [aX]
    exact ⟨fun _ _ _ _ => rfl, S.2.2.1⟩
theorem Cl_turnsTo (k : Nat) (MX MM : Mem) (y1 : Int) (hy1 : iR y1) (hk : k < 512) (hMX : MR MX) (hMM : MR MM) (hR : Rel k MX MM) : qX11_turnsTo y1 MX (fun z MX1 => qX12_turnsTo y1 MM (fun b MM1 => z = b ∧ Rel (k + 1) MX1 MM1)) := by
  have S := hR.S
  refine fmX11_turnsTo (gX11_turnsTo (E := cut MM) (r := MM 5) (p1 := y1) hR.1 S.1 S.2.2.1 S.2.2.2.1 (Q := fun z M' => z = tnA (cut MM) (MM 5) y1 ∧ IX M' ∧ (isDn (tnA (cut MM) (MM 5) y1) → CACT (cut MM) MX M' (MM 5) (tnR (cut MM) (MM 5) y1)) ∧ (¬ isDn (tnA (cut MM) (MM 5) y1) → CNOP (cut MM) MX M' (MM 5))) (fun M' i a n => ⟨rfl, i, a, n⟩)) ?_
  intro z MX1 fX hX
  obtain ⟨ez, iX, aX, nX⟩ := hX
  refine fmX12_turnsTo (gX12_turnsTo (E := cut MM) (p1 := y1) hR.2.1 (cut_CE MM) (Q := fun z M' => z = tnA (cut MM) (MM 5) y1 ∧ IM (60000 * (k : Int)) M' ∧ (isDn (tnA (cut MM) (MM 5) y1) → RACT MM M' (tnR (cut MM) (MM 5) y1)) ∧ (¬ isDn (tnA (cut MM) (MM 5) y1) → RNOP MM M')) (fun M' i a n => ⟨rfl, i, a, n⟩)) ?_
  intro b MM1 fM hM
  obtain ⟨eb, iM, aM, nM⟩ := hM
  have hF : FOLS MM1 := by
    by_cases d : isDn (tnA (cut MM) (MM 5) y1)
    · exact hR.F.act S hR.E0 (aM d) (fol_tn hR.f hR.E0 S.2.2.2.1 hR.own)
    · exact hR.F.nop S hR.E0 (nM d)
  refine ⟨by rw [ez, eb], hR.s iX iM (by omega) (fX 156 1 (by omega)) (fM 1 14 (by omega)) (fX 182 2 (by omega)) (fM 1 45 (by omega)) (fun j => fX 157 j (by omega)) (fun j => fM 7 j (by omega)) (fun j => ⟨fX 183 j (by omega), fX 184 j (by omega), fM 26 j (by omega), fM 27 j (by omega)⟩) (fun k j q => fM k j (by omega)) hF ?_⟩
  by_cases d : isDn (tnA (cut MM) (MM 5) y1)
  · exact S.act hR.E0 hR.1 (aX d) (aM d) (S.2.2.2.1.tn hR.E0 hR.own)
  · exact S.nop hR.E0 hR.1 (nX d) (nM d)
theorem Cl_pushes (k : Nat) (MX MM : Mem) (y1 y2 : Int) (hy1 : iR y1) (hy2 : iR y2) (hk : k < 512) (hMX : MR MX) (hMM : MR MM) (hR : Rel k MX MM) : qX11_pushes y1 y2 MX (fun z MX1 => qX12_pushes y1 y2 MM (fun b MM1 => z = b ∧ Rel (k + 1) MX1 MM1)) := by
  have S := hR.S
  refine fmX11_pushes (gX11_pushes (E := cut MM) (r := MM 5) (p1 := y1) (p2 := y2) hR.1 S.1 S.2.2.1 S.2.2.2.1 (Q := fun z M' => z = psA (cut MM) (MM 5) y1 y2 ∧ IX M' ∧ (isDn (psA (cut MM) (MM 5) y1 y2) → CACT (cut MM) MX M' (MM 5) (psR (cut MM) (MM 5) y1 y2)) ∧ (¬ isDn (psA (cut MM) (MM 5) y1 y2) → CNOP (cut MM) MX M' (MM 5))) (fun M' i a n => ⟨rfl, i, a, n⟩)) ?_
  intro z MX1 fX hX
  obtain ⟨ez, iX, aX, nX⟩ := hX
  refine fmX12_pushes (gX12_pushes (E := cut MM) (p1 := y1) (p2 := y2) hR.2.1 (cut_CE MM) (Q := fun z M' => z = psA (cut MM) (MM 5) y1 y2 ∧ IM (60000 * (k : Int)) M' ∧ (isDn (psA (cut MM) (MM 5) y1 y2) → RACT MM M' (psR (cut MM) (MM 5) y1 y2)) ∧ (¬ isDn (psA (cut MM) (MM 5) y1 y2) → RNOP MM M')) (fun M' i a n => ⟨rfl, i, a, n⟩)) ?_
  intro b MM1 fM hM
  obtain ⟨eb, iM, aM, nM⟩ := hM
  have hF : FOLS MM1 := by
    by_cases d : isDn (psA (cut MM) (MM 5) y1 y2)
    · exact hR.F.act S hR.E0 (aM d) (fol_ps hR.f hR.E0 S.2.2.2.1)
    · exact hR.F.nop S hR.E0 (nM d)
  refine ⟨by rw [ez, eb], hR.s iX iM (by omega) (fX 156 1 (by omega)) (fM 1 14 (by omega)) (fX 182 2 (by omega)) (fM 1 45 (by omega)) (fun j => fX 157 j (by omega)) (fun j => fM 7 j (by omega)) (fun j => ⟨fX 183 j (by omega), fX 184 j (by omega), fM 26 j (by omega), fM 27 j (by omega)⟩) (fun k j q => fM k j (by omega)) hF ?_⟩
  by_cases d : isDn (psA (cut MM) (MM 5) y1 y2)
  · exact S.act hR.E0 hR.1 (aX d) (aM d) (S.2.2.2.1.ps hR.E0)
  · exact S.nop hR.E0 hR.1 (nX d) (nM d)
theorem Cl_swaps (k : Nat) (MX MM : Mem) (y1 y2 : Int) (hy1 : iR y1) (hy2 : iR y2) (hk : k < 512) (hMX : MR MX) (hMM : MR MM) (hR : Rel k MX MM) : qX11_swaps y1 y2 MX (fun z MX1 => qX12_swaps y1 y2 MM (fun b MM1 => z = b ∧ Rel (k + 1) MX1 MM1)) := by
  have S := hR.S
  refine fmX11_swaps (gX11_swaps (E := cut MM) (r := MM 5) (p1 := y1) (p2 := y2) hR.1 S.1 S.2.2.1 S.2.2.2.1 (Q := fun z M' => z = swA (cut MM) (MM 5) y1 y2 ∧ IX M' ∧ (isDn (swA (cut MM) (MM 5) y1 y2) → CACT (cut MM) MX M' (MM 5) (swR (cut MM) (MM 5) y1 y2)) ∧ (¬ isDn (swA (cut MM) (MM 5) y1 y2) → CNOP (cut MM) MX M' (MM 5))) (fun M' i a n => ⟨rfl, i, a, n⟩)) ?_
  intro z MX1 fX hX
  obtain ⟨ez, iX, aX, nX⟩ := hX
  refine fmX12_swaps (gX12_swaps (E := cut MM) (p1 := y1) (p2 := y2) hR.2.1 (cut_CE MM) (Q := fun z M' => z = swA (cut MM) (MM 5) y1 y2 ∧ IM (60000 * (k : Int)) M' ∧ (isDn (swA (cut MM) (MM 5) y1 y2) → RACT MM M' (swR (cut MM) (MM 5) y1 y2)) ∧ (¬ isDn (swA (cut MM) (MM 5) y1 y2) → RNOP MM M')) (fun M' i a n => ⟨rfl, i, a, n⟩)) ?_
  intro b MM1 fM hM
  obtain ⟨eb, iM, aM, nM⟩ := hM
  have hF : FOLS MM1 := by
    by_cases d : isDn (swA (cut MM) (MM 5) y1 y2)
    · exact hR.F.act S hR.E0 (aM d) (fol_sw hR.f hR.E0)
    · exact hR.F.nop S hR.E0 (nM d)
  refine ⟨by rw [ez, eb], hR.s iX iM (by omega) (fX 156 1 (by omega)) (fM 1 14 (by omega)) (fX 182 2 (by omega)) (fM 1 45 (by omega)) (fun j => fX 157 j (by omega)) (fun j => fM 7 j (by omega)) (fun j => ⟨fX 183 j (by omega), fX 184 j (by omega), fM 26 j (by omega), fM 27 j (by omega)⟩) (fun k j q => fM k j (by omega)) hF ?_⟩
  by_cases d : isDn (swA (cut MM) (MM 5) y1 y2)
  · exact S.act hR.E0 hR.1 (aX d) (aM d) (S.2.2.2.1.sw hR.E0)
  · exact S.nop hR.E0 hR.1 (nX d) (nM d)
theorem Cl_hour (k : Nat) (MX MM : Mem)  (hk : k < 512) (hMX : MR MX) (hMM : MR MM) (hR : Rel k MX MM) : qX11_hour  MX (fun z MX1 => qX12_hour  MM (fun b MM1 => z = b ∧ Rel (k + 1) MX1 MM1)) := by
  have S := hR.S
  have r37 := hR.r37 hk
  have e := hR.2.2.1
  have eZ : hfz (MX 157) (MX 156 1) = hfz (MM 7) (MM 1 14) := by
    rw [e]
    exact hfz_cg (fun j p q => hR.2.2.2.2.1 j p (by omega))
  have eG' : hGO (cut MM) (MX 157) (MX 156 1) (MM 5) = (hGO (cut MM) (MM 7) (MM 1 14) (MM 5)) := by
    rw [e]
    exact hGO_cg (fun j p q => hR.2.2.2.2.1 j p (by omega))
  refine fmX11_hour (fzX11_hour (gX11_hour (E := cut MM) (r := MM 5) hR.1 S.1 S.2.1 hR.W S.2.2.1 S.2.2.2.1 r37 (Q := fun z M' => IX M' ∧ (hfz (MM 7) (MM 1 14) = -1 → z = (hGO (cut MM) (MM 7) (MM 1 14) (MM 5)).1 ∧ WR (cut MM) (hGO (cut MM) (MM 7) (MM 1 14) (MM 5)).2.2 ∧ (0 < (hGO (cut MM) (MM 7) (MM 1 14) (MM 5)).1 → CACT (cut MM) MX M' (MM 5) (hGO (cut MM) (MM 7) (MM 1 14) (MM 5)).2.2) ∧ (¬ 0 < (hGO (cut MM) (MM 7) (MM 1 14) (MM 5)).1 → CNOP (cut MM) MX M' (MM 5))) ∧ (hfz (MM 7) (MM 1 14) ≠ -1 → z = -1 - hfz (MM 7) (MM 1 14) ∧ CNOP (cut MM) MX M' (MM 5))) (fun c M' i wr a n => by rw [eZ] at c; rw [eG'] at wr a n ⊢; exact ⟨i, fun _ => ⟨rfl, wr, a, n⟩, fun q => absurd c q⟩) (fun c M' i n => by rw [eZ] at c ⊢; exact ⟨i, fun q => absurd q c, fun _ => ⟨rfl, n⟩⟩)) (Q' := fun z M' => M' 156 1 = 0 ∧ IX M' ∧ (hfz (MM 7) (MM 1 14) = -1 → z = (hGO (cut MM) (MM 7) (MM 1 14) (MM 5)).1 ∧ WR (cut MM) (hGO (cut MM) (MM 7) (MM 1 14) (MM 5)).2.2 ∧ (0 < (hGO (cut MM) (MM 7) (MM 1 14) (MM 5)).1 → CACT (cut MM) MX M' (MM 5) (hGO (cut MM) (MM 7) (MM 1 14) (MM 5)).2.2) ∧ (¬ 0 < (hGO (cut MM) (MM 7) (MM 1 14) (MM 5)).1 → CNOP (cut MM) MX M' (MM 5))) ∧ (hfz (MM 7) (MM 1 14) ≠ -1 → z = -1 - hfz (MM 7) (MM 1 14) ∧ CNOP (cut MM) MX M' (MM 5))) (fun _ M' z h => ⟨z, h⟩)) ?_
  intro z MX1 fX hX
  obtain ⟨lX, iX, yX, nX⟩ := hX
  refine fmX12_hour (fzX12_hour (gX12_hour (E := cut MM) hR.2.1 (cut_CE MM) hR.E0 S.2.2.2.1 hR.own (by omega) (Q := fun z M' => IM (60000 * (k : Int) + 300) M' ∧ (hfz (MM 7) (MM 1 14) = -1 → z = (hGO (cut MM) (MM 7) (MM 1 14) (MM 5)).1 ∧ (0 < (hGO (cut MM) (MM 7) (MM 1 14) (MM 5)).1 → RACT MM M' (hGO (cut MM) (MM 7) (MM 1 14) (MM 5)).2.2) ∧ (¬ 0 < (hGO (cut MM) (MM 7) (MM 1 14) (MM 5)).1 → RNOP MM M')) ∧ (hfz (MM 7) (MM 1 14) ≠ -1 → z = -1 - hfz (MM 7) (MM 1 14) ∧ RNOP MM M')) (fun c M' i a n => ⟨i, fun _ => ⟨rfl, a, n⟩, fun q => absurd c q⟩) (fun c M' i n => ⟨i, fun q => absurd q c, fun _ => ⟨rfl, n⟩⟩)) (Q' := fun z M' => M' 1 14 = 0 ∧ IM (60000 * (k : Int) + 300) M' ∧ (hfz (MM 7) (MM 1 14) = -1 → z = (hGO (cut MM) (MM 7) (MM 1 14) (MM 5)).1 ∧ (0 < (hGO (cut MM) (MM 7) (MM 1 14) (MM 5)).1 → RACT MM M' (hGO (cut MM) (MM 7) (MM 1 14) (MM 5)).2.2) ∧ (¬ 0 < (hGO (cut MM) (MM 7) (MM 1 14) (MM 5)).1 → RNOP MM M')) ∧ (hfz (MM 7) (MM 1 14) ≠ -1 → z = -1 - hfz (MM 7) (MM 1 14) ∧ RNOP MM M')) (fun _ M' z h => ⟨z, h⟩)) ?_
  intro b MM1 fM hM
  obtain ⟨lM, iM, yM, nM⟩ := hM
  have ec : cut MM1 = cut MM := cut_of (fun k j h => fM k j (by omega))
  have fin : z = b → FOLS MM1 → STA (cut MM) MX1 MM1 → z = b ∧ Rel (k + 1) MX1 MM1 := fun q hF s => ⟨q, hR.t iX iM (by omega) lX lM (fX 182 2 (by omega)) (fM 1 45 (by omega)) (fun j => ⟨fX 183 j (by omega), fX 184 j (by omega), fM 26 j (by omega), fM 27 j (by omega)⟩) hF (by rw [ec]; exact s)⟩
  by_cases c : hfz (MM 7) (MM 1 14) = -1
  · obtain ⟨ez, wr, aX, oX⟩ := yX c
    obtain ⟨eb, aM, oM⟩ := yM c
    by_cases d : 0 < (hGO (cut MM) (MM 7) (MM 1 14) (MM 5)).1
    · exact fin (by rw [ez, eb]) (hR.F.act S hR.E0 (aM d) (fol_hr hR.E0 hR.own _ _ _ hR.f S.2.2.2.1)) (S.act hR.E0 hR.1 (aX d) (aM d) wr)
    · exact fin (by rw [ez, eb]) (hR.F.nop S hR.E0 (oM d)) (S.nop hR.E0 hR.1 (oX d) (oM d))
  · obtain ⟨ez, aX⟩ := nX c
    obtain ⟨eb, aM⟩ := nM c
    exact fin (by rw [ez, eb]) (hR.F.nop S hR.E0 aM) (S.nop hR.E0 hR.1 aX aM)
theorem Cl_undo (k : Nat) (MX MM : Mem)  (hk : k < 512) (hMX : MR MX) (hMM : MR MM) (hR : Rel k MX MM) : qX11_undo  MX (fun z MX1 => qX12_undo  MM (fun b MM1 => z = b ∧ Rel (k + 1) MX1 MM1)) := by
  have S := hR.S
  have eh : MX 163 2 = MM 1 28 := S.2.2.2.2.1.1
  refine fmX11_undo (gX11_undo hR.1 (Q := fun z M' => IX M' ∧ Ks (fun k j => (1 ≤ k ∧ k ≤ 7) ∨ (k = 163 ∧ j = 2)) MX M' ∧ (MX 163 2 = 0 ∧ z = -1 ∧ M' = MX ∨ 0 < MX 163 2 ∧ z = MX 163 2 - 1 ∧ M' 163 2 = MX 163 2 - 1 ∧ ∀ (E : Mem) (r : Int → Int), SC E MX (50 + 7 * ((MX 163 1 + (MX 163 2 - 1)) % 15).toNat) r → SC E M' 1 r)) (fun z M' i kx h => ⟨i, kx, h⟩)) ?_
  intro z MX1 fX hX
  obtain ⟨iX, kX, gX⟩ := hX
  refine fmX12_undo (gX12_undo hR.2.1 (Q := fun z M' => IM (60000 * (k : Int)) M' ∧ FrJ (fun k j => k = 5 ∨ (k = 1 ∧ (j = 0 ∨ j = 28))) MM M' ∧ (MM 1 28 = 0 ∧ z = -1 ∧ M' 1 28 = 0 ∧ (∀ j, M' 5 j = MM 5 j) ∨ 0 < MM 1 28 ∧ z = MM 1 28 - 1 ∧ M' 1 28 = MM 1 28 - 1 ∧ ∀ j, 0 ≤ j → j < 38 → M' 5 j = MM 15 (38 * (MM 1 28 - 1) + j))) (fun z M' i kx h => ⟨i, kx, h⟩)) ?_
  intro b MM1 fM hM
  obtain ⟨iM, kM, gM⟩ := hM
  rcases gX with ⟨x0, x1, x2⟩ | ⟨x0, x1, x2, x3⟩
  · rcases gM with ⟨m0, m1, m2, m3⟩ | ⟨m0, m1, m2, m3⟩
    · have hF : FOLS MM1 := hR.F.fr (fun k j q => by
        by_cases c5 : k = 5
        · rw [c5]; exact m3 j
        · by_cases c28 : k = 1 ∧ j = 28
          · rw [c28.1, c28.2, m2, m0]
          · exact kM k j (by omega))
      refine ⟨by rw [x1, m1], hR.s iX iM (by omega) (fX 156 1 (by omega)) (fM 1 14 (by omega)) (fX 182 2 (by omega)) (fM 1 45 (by omega)) (fun j => fX 157 j (by omega)) (fun j => fM 7 j (by omega)) (fun j => ⟨fX 183 j (by omega), fX 184 j (by omega), fM 26 j (by omega), fM 27 j (by omega)⟩) (fun k j q => fM k j (by omega)) hF ?_⟩
      refine S.fr hR.E0 hR.1 (fun k j q => by rw [x2]) (fun k j q => ?_)
      by_cases c5 : k = 5
      · rw [c5]; exact m3 j
      · by_cases c28 : k = 1 ∧ j = 28
        · rw [c28.1, c28.2, m2, m0]
        · exact kM k j (by omega)
    · omega
  · rcases gM with ⟨m0, m1, m2, m3⟩ | ⟨m0, m1, m2, m3⟩
    · omega
    · have hF : FOLS MM1 := hR.F.undo S hR.E0 m0 kM m2 m3
      refine ⟨by omega, hR.s iX iM (by omega) (fX 156 1 (by omega)) (fM 1 14 (by omega)) (fX 182 2 (by omega)) (fM 1 45 (by omega)) (fun j => fX 157 j (by omega)) (fun j => fM 7 j (by omega)) (fun j => ⟨fX 183 j (by omega), fX 184 j (by omega), fM 26 j (by omega), fM 27 j (by omega)⟩) (fun k j q => fM k j (by omega)) hF ?_⟩
      exact S.undo hR.E0 hR.1 m0 kX x2 x3 kM m2 m3
theorem Rk_line (k : Nat) (MX MM : Mem)  (hk : k < 512) (hMX : MR MX) (hMM : MR MM) (hR : Rel k MX MM) : qX11_line  MX (fun z MX1 => qX12_line  MM (fun b MM1 => Rel (k + 1) MX1 MM1)) := by
  refine fmX11_line (sX11_line  hR.1 (Q := fun _ M' => IX M') (fun _ _ h => h)) ?_
  intro z MX1 fX hX
  refine fmX12_line (sX12_line  hR.2.1 (Q := fun _ M' => IM (60000 * (k : Int)) M') (fun _ _ h => h)) ?_
  intro b MM1 fM hM
  exact hR.q hX hM (by omega) (fX 156 1 (by first | omega | exact fun h => h)) (fM 1 14 (by first | omega | exact fun h => h)) (fX 182 2 (by first | omega | exact fun h => h)) (fM 1 45 (by first | omega | exact fun h => h)) (fun j => fX 157 j (by first | omega | exact fun h => h)) (fun j => fM 7 j (by first | omega | exact fun h => h)) (fun j => ⟨fX 183 j (by first | omega | exact fun h => h), fX 184 j (by first | omega | exact fun h => h), fM 26 j (by first | omega | exact fun h => h), fM 27 j (by first | omega | exact fun h => h)⟩) (fun k j q => fX k j (by first | omega | exact fun h => h)) (fun k j q => fM k j (by first | omega | exact fun h => h))
theorem Rk_ahead (k : Nat) (MX MM : Mem) (y1 : Int) (hy1 : iR y1) (hk : k < 512) (hMX : MR MX) (hMM : MR MM) (hR : Rel k MX MM) : qX11_ahead y1 MX (fun z MX1 => qX12_ahead y1 MM (fun b MM1 => Rel (k + 1) MX1 MM1)) := by
  refine fmX11_ahead (sX11_ahead (p1 := y1) hR.1 (Q := fun _ M' => IX M') (fun _ _ h => h)) ?_
  intro z MX1 fX hX
  refine fmX12_ahead (sX12_ahead (p1 := y1) hR.2.1 (by omega) (Q := fun _ M' => IM (60000 * (k : Int) + 200) M') (fun _ _ h => h)) ?_
  intro b MM1 fM hM
  exact hR.q hX hM (by omega) (fX 156 1 (by first | omega | exact fun h => h)) (fM 1 14 (by first | omega | exact fun h => h)) (fX 182 2 (by first | omega | exact fun h => h)) (fM 1 45 (by first | omega | exact fun h => h)) (fun j => fX 157 j (by first | omega | exact fun h => h)) (fun j => fM 7 j (by first | omega | exact fun h => h)) (fun j => ⟨fX 183 j (by first | omega | exact fun h => h), fX 184 j (by first | omega | exact fun h => h), fM 26 j (by first | omega | exact fun h => h), fM 27 j (by first | omega | exact fun h => h)⟩) (fun k j q => fX k j (by first | omega | exact fun h => h)) (fun k j q => fM k j (by first | omega | exact fun h => h))
theorem Rk_arrives (k : Nat) (MX MM : Mem) (y1 : Int) (hy1 : iR y1) (hk : k < 512) (hMX : MR MX) (hMM : MR MM) (hR : Rel k MX MM) : qX11_arrives y1 MX (fun z MX1 => qX12_arrives y1 MM (fun b MM1 => Rel (k + 1) MX1 MM1)) := by
  refine fmX11_arrives (sX11_arrives (p1 := y1) hR.1 (Q := fun _ M' => IX M') (fun _ _ h => h)) ?_
  intro z MX1 fX hX
  refine fmX12_arrives (sX12_arrives (p1 := y1) hR.2.1 (by omega) (Q := fun _ M' => IM (60000 * (k : Int) + 201) M') (fun _ _ h => h)) ?_
  intro b MM1 fM hM
  exact hR.q hX hM (by omega) (fX 156 1 (by first | omega | exact fun h => h)) (fM 1 14 (by first | omega | exact fun h => h)) (fX 182 2 (by first | omega | exact fun h => h)) (fM 1 45 (by first | omega | exact fun h => h)) (fun j => fX 157 j (by first | omega | exact fun h => h)) (fun j => fM 7 j (by first | omega | exact fun h => h)) (fun j => ⟨fX 183 j (by first | omega | exact fun h => h), fX 184 j (by first | omega | exact fun h => h), fM 26 j (by first | omega | exact fun h => h), fM 27 j (by first | omega | exact fun h => h)⟩) (fun k j q => fX k j (by first | omega | exact fun h => h)) (fun k j q => fM k j (by first | omega | exact fun h => h))
theorem Rk_jam (k : Nat) (MX MM : Mem) (y1 : Int) (hy1 : iR y1) (hk : k < 512) (hMX : MR MX) (hMM : MR MM) (hR : Rel k MX MM) : qX11_jam y1 MX (fun z MX1 => qX12_jam y1 MM (fun b MM1 => Rel (k + 1) MX1 MM1)) := by
  refine fmX11_jam (sX11_jam (p1 := y1) hR.1 (Q := fun _ M' => IX M') (fun _ _ h => h)) ?_
  intro z MX1 fX hX
  refine fmX12_jam (sX12_jam (p1 := y1) hR.2.1 (by omega) (Q := fun _ M' => IM (60000 * (k : Int) + 200) M') (fun _ _ h => h)) ?_
  intro b MM1 fM hM
  exact hR.q hX hM (by omega) (fX 156 1 (by first | omega | exact fun h => h)) (fM 1 14 (by first | omega | exact fun h => h)) (fX 182 2 (by first | omega | exact fun h => h)) (fM 1 45 (by first | omega | exact fun h => h)) (fun j => fX 157 j (by first | omega | exact fun h => h)) (fun j => fM 7 j (by first | omega | exact fun h => h)) (fun j => ⟨fX 183 j (by first | omega | exact fun h => h), fX 184 j (by first | omega | exact fun h => h), fM 26 j (by first | omega | exact fun h => h), fM 27 j (by first | omega | exact fun h => h)⟩) (fun k j q => fX k j (by first | omega | exact fun h => h)) (fun k j q => fM k j (by first | omega | exact fun h => h))
theorem Rk_passes (k : Nat) (MX MM : Mem) (y1 y2 : Int) (hy1 : iR y1) (hy2 : iR y2) (hk : k < 512) (hMX : MR MX) (hMM : MR MM) (hR : Rel k MX MM) : qX11_passes y1 y2 MX (fun z MX1 => qX12_passes y1 y2 MM (fun b MM1 => Rel (k + 1) MX1 MM1)) := by
  refine fmX11_passes (sX11_passes (p1 := y1) (p2 := y2) hR.1 (Q := fun _ M' => IX M') (fun _ _ h => h)) ?_
  intro z MX1 fX hX
  refine fmX12_passes (sX12_passes (p1 := y1) (p2 := y2) hR.2.1 (by omega) (Q := fun _ M' => IM (60000 * (k : Int) + 62) M') (fun _ _ h => h)) ?_
  intro b MM1 fM hM
  exact hR.q hX hM (by omega) (fX 156 1 (by first | omega | exact fun h => h)) (fM 1 14 (by first | omega | exact fun h => h)) (fX 182 2 (by first | omega | exact fun h => h)) (fM 1 45 (by first | omega | exact fun h => h)) (fun j => fX 157 j (by first | omega | exact fun h => h)) (fun j => fM 7 j (by first | omega | exact fun h => h)) (fun j => ⟨fX 183 j (by first | omega | exact fun h => h), fX 184 j (by first | omega | exact fun h => h), fM 26 j (by first | omega | exact fun h => h), fM 27 j (by first | omega | exact fun h => h)⟩) (fun k j q => fX k j (by first | omega | exact fun h => h)) (fun k j q => fM k j (by first | omega | exact fun h => h))
theorem Rk_ends (k : Nat) (MX MM : Mem) (y1 : Int) (hy1 : iR y1) (hk : k < 512) (hMX : MR MX) (hMM : MR MM) (hR : Rel k MX MM) : qX11_ends y1 MX (fun z MX1 => qX12_ends y1 MM (fun b MM1 => Rel (k + 1) MX1 MM1)) := by
  refine fmX11_ends (sX11_ends (p1 := y1) hR.1 (Q := fun _ M' => IX M') (fun _ _ h => h)) ?_
  intro z MX1 fX hX
  refine fmX12_ends (sX12_ends (p1 := y1) hR.2.1 (by omega) (Q := fun _ M' => IM (60000 * (k : Int) + 402) M') (fun _ _ h => h)) ?_
  intro b MM1 fM hM
  exact hR.q hX hM (by omega) (fX 156 1 (by first | omega | exact fun h => h)) (fM 1 14 (by first | omega | exact fun h => h)) (fX 182 2 (by first | omega | exact fun h => h)) (fM 1 45 (by first | omega | exact fun h => h)) (fun j => fX 157 j (by first | omega | exact fun h => h)) (fun j => fM 7 j (by first | omega | exact fun h => h)) (fun j => ⟨fX 183 j (by first | omega | exact fun h => h), fX 184 j (by first | omega | exact fun h => h), fM 26 j (by first | omega | exact fun h => h), fM 27 j (by first | omega | exact fun h => h)⟩) (fun k j q => fX k j (by first | omega | exact fun h => h)) (fun k j q => fM k j (by first | omega | exact fun h => h))
theorem Rk_right (k : Nat) (MX MM : Mem)  (hk : k < 512) (hMX : MR MX) (hMM : MR MM) (hR : Rel k MX MM) : qX11_right  MX (fun z MX1 => qX12_right  MM (fun b MM1 => Rel (k + 1) MX1 MM1)) := by
  refine fmX11_right (sX11_right  hR.1 (Q := fun _ M' => IX M') (fun _ _ h => h)) ?_
  intro z MX1 fX hX
  refine fmX12_right (sX12_right  hR.2.1 (by omega) (Q := fun _ M' => IM (60000 * (k : Int) + 200) M') (fun _ _ h => h)) ?_
  intro b MM1 fM hM
  exact hR.q hX hM (by omega) (fX 156 1 (by first | omega | exact fun h => h)) (fM 1 14 (by first | omega | exact fun h => h)) (fX 182 2 (by first | omega | exact fun h => h)) (fM 1 45 (by first | omega | exact fun h => h)) (fun j => fX 157 j (by first | omega | exact fun h => h)) (fun j => fM 7 j (by first | omega | exact fun h => h)) (fun j => ⟨fX 183 j (by first | omega | exact fun h => h), fX 184 j (by first | omega | exact fun h => h), fM 26 j (by first | omega | exact fun h => h), fM 27 j (by first | omega | exact fun h => h)⟩) (fun k j q => fX k j (by first | omega | exact fun h => h)) (fun k j q => fM k j (by first | omega | exact fun h => h))
theorem Rk_order (k : Nat) (MX MM : Mem)  (hk : k < 512) (hMX : MR MX) (hMM : MR MM) (hR : Rel k MX MM) : qX11_order  MX (fun z MX1 => qX12_order  MM (fun b MM1 => Rel (k + 1) MX1 MM1)) := by
  refine fmX11_order (sX11_order  hR.1 (Q := fun _ M' => IX M') (fun _ _ h => h)) ?_
  intro z MX1 fX hX
  refine fmX12_order (sX12_order  hR.2.1 (by omega) (Q := fun _ M' => IM (60000 * (k : Int) + 200) M') (fun _ _ h => h)) ?_
  intro b MM1 fM hM
  exact hR.q hX hM (by omega) (fX 156 1 (by first | omega | exact fun h => h)) (fM 1 14 (by first | omega | exact fun h => h)) (fX 182 2 (by first | omega | exact fun h => h)) (fM 1 45 (by first | omega | exact fun h => h)) (fun j => fX 157 j (by first | omega | exact fun h => h)) (fun j => fM 7 j (by first | omega | exact fun h => h)) (fun j => ⟨fX 183 j (by first | omega | exact fun h => h), fX 184 j (by first | omega | exact fun h => h), fM 26 j (by first | omega | exact fun h => h), fM 27 j (by first | omega | exact fun h => h)⟩) (fun k j q => fX k j (by first | omega | exact fun h => h)) (fun k j q => fM k j (by first | omega | exact fun h => h))
theorem Rk_stands (k : Nat) (MX MM : Mem) (y1 : Int) (hy1 : iR y1) (hk : k < 512) (hMX : MR MX) (hMM : MR MM) (hR : Rel k MX MM) : qX11_stands y1 MX (fun z MX1 => qX12_stands y1 MM (fun b MM1 => Rel (k + 1) MX1 MM1)) := by
  refine fmX11_stands (sX11_stands (p1 := y1) hR.1 (Q := fun _ M' => IX M') (fun _ _ h => h)) ?_
  intro z MX1 fX hX
  refine fmX12_stands (sX12_stands (p1 := y1) hR.2.1 (by omega) (Q := fun _ M' => IM (60000 * (k : Int) + 6000) M') (fun _ _ h => h)) ?_
  intro b MM1 fM hM
  exact hR.q hX hM (by omega) (fX 156 1 (by first | omega | exact fun h => h)) (fM 1 14 (by first | omega | exact fun h => h)) (fX 182 2 (by first | omega | exact fun h => h)) (fM 1 45 (by first | omega | exact fun h => h)) (fun j => fX 157 j (by first | omega | exact fun h => h)) (fun j => fM 7 j (by first | omega | exact fun h => h)) (fun j => ⟨fX 183 j (by first | omega | exact fun h => h), fX 184 j (by first | omega | exact fun h => h), fM 26 j (by first | omega | exact fun h => h), fM 27 j (by first | omega | exact fun h => h)⟩) (fun k j q => fX k j (by first | omega | exact fun h => h)) (fun k j q => fM k j (by first | omega | exact fun h => h))
theorem Rk_when (k : Nat) (MX MM : Mem) (y1 : Int) (hy1 : iR y1) (hk : k < 512) (hMX : MR MX) (hMM : MR MM) (hR : Rel k MX MM) : qX11_when y1 MX (fun z MX1 => qX12_when y1 MM (fun b MM1 => Rel (k + 1) MX1 MM1)) := by
  refine fmX11_when (sX11_when (p1 := y1) hR.1 (Q := fun _ M' => IX M') (fun _ _ h => h)) ?_
  intro z MX1 fX hX
  refine fmX12_when (sX12_when (p1 := y1) hR.2.1 (by omega) (Q := fun _ M' => IM (60000 * (k : Int) + 24400) M') (fun _ _ h => h)) ?_
  intro b MM1 fM hM
  exact hR.q hX hM (by omega) (fX 156 1 (by first | omega | exact fun h => h)) (fM 1 14 (by first | omega | exact fun h => h)) (fX 182 2 (by first | omega | exact fun h => h)) (fM 1 45 (by first | omega | exact fun h => h)) (fun j => fX 157 j (by first | omega | exact fun h => h)) (fun j => fM 7 j (by first | omega | exact fun h => h)) (fun j => ⟨fX 183 j (by first | omega | exact fun h => h), fX 184 j (by first | omega | exact fun h => h), fM 26 j (by first | omega | exact fun h => h), fM 27 j (by first | omega | exact fun h => h)⟩) (fun k j q => fX k j (by first | omega | exact fun h => h)) (fun k j q => fM k j (by first | omega | exact fun h => h))
theorem Rk_mends (k : Nat) (MX MM : Mem) (y1 : Int) (hy1 : iR y1) (hk : k < 512) (hMX : MR MX) (hMM : MR MM) (hR : Rel k MX MM) : qX11_mends y1 MX (fun z MX1 => qX12_mends y1 MM (fun b MM1 => Rel (k + 1) MX1 MM1)) := by
  refine fmX11_mends (sX11_mends (p1 := y1) hR.1 (Q := fun _ M' => IX M') (fun _ _ h => h)) ?_
  intro z MX1 fX hX
  refine fmX12_mends (sX12_mends (p1 := y1) hR.2.1 (by omega) (Q := fun _ M' => IM (60000 * (k : Int) + 51200) M') (fun _ _ h => h)) ?_
  intro b MM1 fM hM
  exact hR.q hX hM (by omega) (fX 156 1 (by first | omega | exact fun h => h)) (fM 1 14 (by first | omega | exact fun h => h)) (fX 182 2 (by first | omega | exact fun h => h)) (fM 1 45 (by first | omega | exact fun h => h)) (fun j => fX 157 j (by first | omega | exact fun h => h)) (fun j => fM 7 j (by first | omega | exact fun h => h)) (fun j => ⟨fX 183 j (by first | omega | exact fun h => h), fX 184 j (by first | omega | exact fun h => h), fM 26 j (by first | omega | exact fun h => h), fM 27 j (by first | omega | exact fun h => h)⟩) (fun k j q => fX k j (by first | omega | exact fun h => h)) (fun k j q => fM k j (by first | omega | exact fun h => h))
theorem Rk_misleads (k : Nat) (MX MM : Mem)  (hk : k < 512) (hMX : MR MX) (hMM : MR MM) (hR : Rel k MX MM) : qX11_misleads  MX (fun z MX1 => qX12_misleads  MM (fun b MM1 => Rel (k + 1) MX1 MM1)) := by
  refine fmX11_misleads (sX11_misleads  hR.1 (Q := fun _ M' => IX M') (fun _ _ h => h)) ?_
  intro z MX1 fX hX
  refine fmX12_misleads (sX12_misleads  hR.2.1 (by omega) (Q := fun _ M' => IM (60000 * (k : Int) + 1600) M') (fun _ _ h => h)) ?_
  intro b MM1 fM hM
  exact hR.q hX hM (by omega) (fX 156 1 (by first | omega | exact fun h => h)) (fM 1 14 (by first | omega | exact fun h => h)) (fX 182 2 (by first | omega | exact fun h => h)) (fM 1 45 (by first | omega | exact fun h => h)) (fun j => fX 157 j (by first | omega | exact fun h => h)) (fun j => fM 7 j (by first | omega | exact fun h => h)) (fun j => ⟨fX 183 j (by first | omega | exact fun h => h), fX 184 j (by first | omega | exact fun h => h), fM 26 j (by first | omega | exact fun h => h), fM 27 j (by first | omega | exact fun h => h)⟩) (fun k j q => fX k j (by first | omega | exact fun h => h)) (fun k j q => fM k j (by first | omega | exact fun h => h))
theorem Rk_crowd (k : Nat) (MX MM : Mem)  (hk : k < 512) (hMX : MR MX) (hMM : MR MM) (hR : Rel k MX MM) : qX11_crowd  MX (fun z MX1 => qX12_crowd  MM (fun b MM1 => Rel (k + 1) MX1 MM1)) := by
  refine fmX11_crowd (sX11_crowd  hR.1 (Q := fun _ M' => IX M') (fun _ _ h => h)) ?_
  intro z MX1 fX hX
  refine fmX12_crowd (sX12_crowd  hR.2.1 (by omega) (Q := fun _ M' => IM (60000 * (k : Int) + 200) M') (fun _ _ h => h)) ?_
  intro b MM1 fM hM
  exact hR.q hX hM (by omega) (fX 156 1 (by first | omega | exact fun h => h)) (fM 1 14 (by first | omega | exact fun h => h)) (fX 182 2 (by first | omega | exact fun h => h)) (fM 1 45 (by first | omega | exact fun h => h)) (fun j => fX 157 j (by first | omega | exact fun h => h)) (fun j => fM 7 j (by first | omega | exact fun h => h)) (fun j => ⟨fX 183 j (by first | omega | exact fun h => h), fX 184 j (by first | omega | exact fun h => h), fM 26 j (by first | omega | exact fun h => h), fM 27 j (by first | omega | exact fun h => h)⟩) (fun k j q => fX k j (by first | omega | exact fun h => h)) (fun k j q => fM k j (by first | omega | exact fun h => h))
theorem Rk_shares (k : Nat) (MX MM : Mem) (y1 : Int) (hy1 : iR y1) (hk : k < 512) (hMX : MR MX) (hMM : MR MM) (hR : Rel k MX MM) : qX11_shares y1 MX (fun z MX1 => qX12_shares y1 MM (fun b MM1 => Rel (k + 1) MX1 MM1)) := by
  refine fmX11_shares (sX11_shares (p1 := y1) hR.1 (Q := fun _ M' => IX M') (fun _ _ h => h)) ?_
  intro z MX1 fX hX
  refine fmX12_shares (sX12_shares (p1 := y1) hR.2.1 (Q := fun _ M' => IM (60000 * (k : Int)) M') (fun _ _ h => h)) ?_
  intro b MM1 fM hM
  exact hR.q hX hM (by omega) (fX 156 1 (by first | omega | exact fun h => h)) (fM 1 14 (by first | omega | exact fun h => h)) (fX 182 2 (by first | omega | exact fun h => h)) (fM 1 45 (by first | omega | exact fun h => h)) (fun j => fX 157 j (by first | omega | exact fun h => h)) (fun j => fM 7 j (by first | omega | exact fun h => h)) (fun j => ⟨fX 183 j (by first | omega | exact fun h => h), fX 184 j (by first | omega | exact fun h => h), fM 26 j (by first | omega | exact fun h => h), fM 27 j (by first | omega | exact fun h => h)⟩) (fun k j q => fX k j (by first | omega | exact fun h => h)) (fun k j q => fM k j (by first | omega | exact fun h => h))
theorem Rk_strangers (k : Nat) (MX MM : Mem)  (hk : k < 512) (hMX : MR MX) (hMM : MR MM) (hR : Rel k MX MM) : qX11_strangers  MX (fun z MX1 => qX12_strangers  MM (fun b MM1 => Rel (k + 1) MX1 MM1)) := by
  refine fmX11_strangers (sX11_strangers  hR.1 (Q := fun _ M' => IX M') (fun _ _ h => h)) ?_
  intro z MX1 fX hX
  refine fmX12_strangers (sX12_strangers  hR.2.1 (Q := fun _ M' => IM (60000 * (k : Int)) M') (fun _ _ h => h)) ?_
  intro b MM1 fM hM
  exact hR.q hX hM (by omega) (fX 156 1 (by first | omega | exact fun h => h)) (fM 1 14 (by first | omega | exact fun h => h)) (fX 182 2 (by first | omega | exact fun h => h)) (fM 1 45 (by first | omega | exact fun h => h)) (fun j => fX 157 j (by first | omega | exact fun h => h)) (fun j => fM 7 j (by first | omega | exact fun h => h)) (fun j => ⟨fX 183 j (by first | omega | exact fun h => h), fX 184 j (by first | omega | exact fun h => h), fM 26 j (by first | omega | exact fun h => h), fM 27 j (by first | omega | exact fun h => h)⟩) (fun k j q => fX k j (by first | omega | exact fun h => h)) (fun k j q => fM k j (by first | omega | exact fun h => h))
theorem Rk_doubts (k : Nat) (MX MM : Mem)  (hk : k < 512) (hMX : MR MX) (hMM : MR MM) (hR : Rel k MX MM) : qX11_doubts  MX (fun z MX1 => qX12_doubts  MM (fun b MM1 => Rel (k + 1) MX1 MM1)) := by
  refine fmX11_doubts (sX11_doubts  hR.1 (Q := fun _ M' => IX M') (fun _ _ h => h)) ?_
  intro z MX1 fX hX
  refine fmX12_doubts (sX12_doubts  hR.2.1 (Q := fun _ M' => IM (60000 * (k : Int)) M') (fun _ _ h => h)) ?_
  intro b MM1 fM hM
  exact hR.q hX hM (by omega) (fX 156 1 (by first | omega | exact fun h => h)) (fM 1 14 (by first | omega | exact fun h => h)) (fX 182 2 (by first | omega | exact fun h => h)) (fM 1 45 (by first | omega | exact fun h => h)) (fun j => fX 157 j (by first | omega | exact fun h => h)) (fun j => fM 7 j (by first | omega | exact fun h => h)) (fun j => ⟨fX 183 j (by first | omega | exact fun h => h), fX 184 j (by first | omega | exact fun h => h), fM 26 j (by first | omega | exact fun h => h), fM 27 j (by first | omega | exact fun h => h)⟩) (fun k j q => fX k j (by first | omega | exact fun h => h)) (fun k j q => fM k j (by first | omega | exact fun h => h))
theorem Cl_heard (k : Nat) (MX MM : Mem) (y1 y2 : Int) (hy1 : iR y1) (hy2 : iR y2) (hk : k < 512) (hMX : MR MX) (hMM : MR MM) (hR : Rel k MX MM) : qX11_heard y1 y2 MX (fun z MX1 => qX12_heard y1 y2 MM (fun b MM1 => z = b ∧ Rel (k + 1) MX1 MM1)) := by
  refine fmX11_heard (gX11_heardC (p0 := y1) (p1 := y2) hR.1 (Q := fun z M' => IX M' ∧ ((MX 182 2 ≤ 7 ∧ ((y1 = 0 ∨ y1 = 2) ∧ 0 ≤ y2 ∧ y2 ≤ 8 ∨ y1 = 1 ∧ 1 ≤ y2 ∧ y2 ≤ 6 ∨ y1 = 3 ∧ (y2 = 0 ∨ y2 = 1))) ∧ z = MX 182 2 + 1 ∧ M' 182 2 = MX 182 2 + 1 ∧ M' 183 = up (MX 183) (MX 182 2) y1 ∧ M' 184 = up (MX 184) (MX 182 2) y2 ∨ ¬ (MX 182 2 ≤ 7 ∧ ((y1 = 0 ∨ y1 = 2) ∧ 0 ≤ y2 ∧ y2 ≤ 8 ∨ y1 = 1 ∧ 1 ≤ y2 ∧ y2 ≤ 6 ∨ y1 = 3 ∧ (y2 = 0 ∨ y2 = 1))) ∧ z = -1 ∧ M' 182 2 = MX 182 2 ∧ M' 183 = MX 183 ∧ M' 184 = MX 184)) (fun z M' h q => ⟨h, q⟩)) ?_
  intro z MX1 fX hX
  refine fmX12_heard (gX12_heardC (p0 := y1) (p1 := y2) hR.2.1 hy2 (Q := fun z M' => IM (60000 * (k : Int)) M' ∧ ((MM 1 45 ≤ 7 ∧ ((y1 = 0 ∨ y1 = 2) ∧ 0 ≤ y2 ∧ y2 ≤ 8 ∨ y1 = 1 ∧ 1 ≤ y2 ∧ y2 ≤ 6 ∨ y1 = 3 ∧ (y2 = 0 ∨ y2 = 1))) ∧ z = MM 1 45 + 1 ∧ M' 1 45 = MM 1 45 + 1 ∧ M' 26 = up (MM 26) (MM 1 45) y1 ∧ M' 27 = up (MM 27) (MM 1 45) y2 ∨ ¬ (MM 1 45 ≤ 7 ∧ ((y1 = 0 ∨ y1 = 2) ∧ 0 ≤ y2 ∧ y2 ≤ 8 ∨ y1 = 1 ∧ 1 ≤ y2 ∧ y2 ≤ 6 ∨ y1 = 3 ∧ (y2 = 0 ∨ y2 = 1))) ∧ z = -1 ∧ M' 1 45 = MM 1 45 ∧ M' 26 = MM 26 ∧ M' 27 = MM 27)) (fun z M' h q => ⟨h, q⟩)) ?_
  intro b MM1 fM hM
  have e : MX 182 2 = MM 1 45 := hR.2.2.2.1
  have e2 : MX1 156 1 = MM1 1 14 := by rw [fX 156 1 (by omega), fM 1 14 (by omega)]; exact hR.2.2.1
  have eS : STA (cut MM1) MX1 MM1 := by
    rw [cut_of (fun k j c => fM k j (by omega))]
    exact hR.S.fr hR.E0 hR.1 (fun k j q => fX k j (by omega)) (fun k j q => fM k j (by omega))
  obtain ⟨iX, gX⟩ := hX
  obtain ⟨iM, gM⟩ := hM
  have eH : HRD MX1 MM1 := by
    rcases gX with ⟨c, _, n, x3, x4⟩ | ⟨c, _, n, x3, x4⟩
    · rcases gM with ⟨d, _, _, m3, m4⟩ | ⟨d, _, _, m3, m4⟩
      · exact hR.H.add c.2 n e x3 x4 m3 m4
      · exact absurd ⟨by omega, c.2⟩ d
    · rcases gM with ⟨d, _, _, m3, m4⟩ | ⟨d, _, _, m3, m4⟩
      · exact absurd ⟨by omega, d.2⟩ c
      · exact hR.H.fr n (fun j => ⟨by rw [x3], by rw [x4], by rw [m3], by rw [m4]⟩)
  have ez : z = b ∧ MX1 182 2 = MM1 1 45 := by
    rcases gX with ⟨c, q, n, _⟩ | ⟨c, q, n, _⟩
    · rcases gM with ⟨d, q2, n2, _⟩ | ⟨d, q2, n2, _⟩
      · exact ⟨by omega, by omega⟩
      · exact absurd ⟨by omega, c.2⟩ d
    · rcases gM with ⟨d, q2, n2, _⟩ | ⟨d, q2, n2, _⟩
      · exact absurd ⟨by omega, d.2⟩ c
      · exact ⟨by omega, by omega⟩
  exact ⟨ez.1, iX, iM.mono (by omega), e2, ez.2, fun j a q => by rw [fX 157 j (by omega), fM 7 j (by omega)]; exact hR.2.2.2.2.1 j a (by rw [fX 156 1 (by omega)] at q; exact q), eS, hR.F.fr (fun k j q => fM k j (by omega)), eH⟩
theorem Cl_forget (k : Nat) (MX MM : Mem)  (hk : k < 512) (hMX : MR MX) (hMM : MR MM) (hR : Rel k MX MM) : qX11_forget  MX (fun z MX1 => qX12_forget  MM (fun b MM1 => z = b ∧ Rel (k + 1) MX1 MM1)) := by
  refine fmX11_forget (gX11_forget hR.1 (Q := fun z M' => IX M' ∧ z = MX 182 2 ∧ M' 182 2 = 0) (fun z M' h q r => ⟨h, q, r⟩)) ?_
  intro z MX1 fX hX
  refine fmX12_forget (gX12_forget hR.2.1 (Q := fun z M' => IM (60000 * (k : Int)) M' ∧ z = MM 1 45 ∧ M' 1 45 = 0) (fun z M' h q r => ⟨h, q, r⟩)) ?_
  intro b MM1 fM hM
  have e : MX 182 2 = MM 1 45 := hR.2.2.2.1
  have e2 : MX1 156 1 = MM1 1 14 := by rw [fX 156 1 (by omega), fM 1 14 (by omega)]; exact hR.2.2.1
  have eS : STA (cut MM1) MX1 MM1 := by
    rw [cut_of (fun k j c => fM k j (by omega))]
    exact hR.S.fr hR.E0 hR.1 (fun k j q => fX k j (by omega)) (fun k j q => fM k j (by omega))
  exact ⟨by rw [hX.2.1, hM.2.1]; exact e, hX.1, hM.1.mono (by omega), e2, by rw [hX.2.2, hM.2.2], fun j a q => by rw [fX 157 j (by omega), fM 7 j (by omega)]; exact hR.2.2.2.2.1 j a (by rw [fX 156 1 (by omega)] at q; exact q), eS, hR.F.fr (fun k j q => fM k j (by omega)), HRD.nil hX.2.2⟩
theorem Rk_fits (k : Nat) (MX MM : Mem)  (hk : k < 512) (hMX : MR MX) (hMM : MR MM) (hR : Rel k MX MM) : qX11_fits  MX (fun z MX1 => qX12_fits  MM (fun b MM1 => Rel (k + 1) MX1 MM1)) := by
  refine fmX11_fits (sX11_fits  hR.1 (Q := fun _ M' => IX M') (fun _ _ h => h)) ?_
  intro z MX1 fX hX
  refine fmX12_fits (sX12_fits  hR.2.1 (by omega) (Q := fun _ M' => IM (60000 * (k : Int) + 200) M') (fun _ _ h => h)) ?_
  intro b MM1 fM hM
  exact hR.q hX hM (by omega) (fX 156 1 (by first | omega | exact fun h => h)) (fM 1 14 (by first | omega | exact fun h => h)) (fX 182 2 (by first | omega | exact fun h => h)) (fM 1 45 (by first | omega | exact fun h => h)) (fun j => fX 157 j (by first | omega | exact fun h => h)) (fun j => fM 7 j (by first | omega | exact fun h => h)) (fun j => ⟨fX 183 j (by first | omega | exact fun h => h), fX 184 j (by first | omega | exact fun h => h), fM 26 j (by first | omega | exact fun h => h), fM 27 j (by first | omega | exact fun h => h)⟩) (fun k j q => fX k j (by first | omega | exact fun h => h)) (fun k j q => fM k j (by first | omega | exact fun h => h))
theorem Cl_rains (k : Nat) (MX MM : Mem) (y1 y2 y3 : Int) (hy1 : iR y1) (hy2 : iR y2) (hy3 : iR y3) (hk : k < 512) (hMX : MR MX) (hMM : MR MM) (hR : Rel k MX MM) : qX11_rains y1 y2 y3 MX (fun z MX1 => qX12_rains y1 y2 y3 MM (fun b MM1 => z = b ∧ Rel (k + 1) MX1 MM1)) := by
  refine fmX11_rains (gX11_rains (p1 := y1) (p2 := y2) (p3 := y3) hR.1 (Q := fun z M' => IX M' ∧ (z = if (1 ≤ y1 ∧ y1 ≤ 12) ∧ (0 ≤ y2 ∧ y2 ≤ 12) ∧ (0 ≤ y3 ∧ y3 ≤ 10) then 0 else -1)) (fun z M' h q => ⟨h, q⟩)) ?_
  intro z MX1 fX hX
  refine fmX12_rains (sX12_rains (p1 := y1) (p2 := y2) (p3 := y3) hR.2.1 (Q := fun z M' => IM (60000 * (k : Int)) M' ∧ (z = if (1 ≤ y1 ∧ y1 ≤ 12) ∧ (0 ≤ y2 ∧ y2 ≤ 12) ∧ (0 ≤ y3 ∧ y3 ≤ 10) then 0 else -1)) (fun z M' h q => ⟨h, q⟩)) ?_
  intro b MM1 fM hM
  exact ⟨by rw [hX.2, hM.2], hR.q hX.1 hM.1 (by omega) (fX 156 1 (by omega)) (fM 1 14 (by omega)) (fX 182 2 (by omega)) (fM 1 45 (by omega)) (fun j => fX 157 j (by omega)) (fun j => fM 7 j (by omega)) (fun j => ⟨fX 183 j (by omega), fX 184 j (by omega), fM 26 j (by omega), fM 27 j (by omega)⟩) (fun k j q => fX k j (by omega)) (fun k j q => fM k j (by omega))⟩
theorem Cl_rests (k : Nat) (MX MM : Mem) (y1 : Int) (hy1 : iR y1) (hk : k < 512) (hMX : MR MX) (hMM : MR MM) (hR : Rel k MX MM) : qX11_rests y1 MX (fun z MX1 => qX12_rests y1 MM (fun b MM1 => z = b ∧ Rel (k + 1) MX1 MM1)) := by
  refine fmX11_rests (gX11_rests (p1 := y1) hR.1 (Q := fun z M' => IX M' ∧ (z = RSF y1)) (fun z M' h q => ⟨h, q⟩)) ?_
  intro z MX1 fX hX
  refine fmX12_rests (gX12_rests (p1 := y1) hR.2.1 (Q := fun z M' => IM (60000 * (k : Int)) M' ∧ (z = RSF y1)) (fun z M' h q => ⟨h, q⟩)) ?_
  intro b MM1 fM hM
  exact ⟨by rw [hX.2, hM.2], hR.q hX.1 hM.1 (by omega) (fX 156 1 (by omega)) (fM 1 14 (by omega)) (fX 182 2 (by omega)) (fM 1 45 (by omega)) (fun j => fX 157 j (by omega)) (fun j => fM 7 j (by omega)) (fun j => ⟨fX 183 j (by omega), fX 184 j (by omega), fM 26 j (by omega), fM 27 j (by omega)⟩) (fun k j q => fX k j (by omega)) (fun k j q => fM k j (by omega))⟩
theorem Rk_years (k : Nat) (MX MM : Mem) (y1 y2 : Int) (hy1 : iR y1) (hy2 : iR y2) (hk : k < 512) (hMX : MR MX) (hMM : MR MM) (hR : Rel k MX MM) : qX11_years y1 y2 MX (fun z MX1 => qX12_years y1 y2 MM (fun b MM1 => Rel (k + 1) MX1 MM1)) := by
  refine fmX11_years (sX11_years (p1 := y1) (p2 := y2) hR.1 (Q := fun _ M' => IX M') (fun _ _ h => h)) ?_
  intro z MX1 fX hX
  refine fmX12_years (sX12_years (p1 := y1) (p2 := y2) hR.2.1 (by omega) (Q := fun _ M' => IM (60000 * (k : Int) + 60) M') (fun _ _ h => h)) ?_
  intro b MM1 fM hM
  exact hR.q hX hM (by omega) (fX 156 1 (by first | omega | exact fun h => h)) (fM 1 14 (by first | omega | exact fun h => h)) (fX 182 2 (by first | omega | exact fun h => h)) (fM 1 45 (by first | omega | exact fun h => h)) (fun j => fX 157 j (by first | omega | exact fun h => h)) (fun j => fM 7 j (by first | omega | exact fun h => h)) (fun j => ⟨fX 183 j (by first | omega | exact fun h => h), fX 184 j (by first | omega | exact fun h => h), fM 26 j (by first | omega | exact fun h => h), fM 27 j (by first | omega | exact fun h => h)⟩) (fun k j q => fX k j (by first | omega | exact fun h => h)) (fun k j q => fM k j (by first | omega | exact fun h => h))
theorem Cl_keep (k : Nat) (MX MM : Mem) (y1 : Int) (hy1 : iR y1) (hk : k < 512) (hMX : MR MX) (hMM : MR MM) (hR : Rel k MX MM) : qX11_keep y1 MX (fun z MX1 => qX12_keep y1 MM (fun b MM1 => z = b ∧ Rel (k + 1) MX1 MM1)) := by
  have S := hR.S
  refine fmX11_keep (gX11_keepC (p1 := y1) hR.1 (Q := fun z M' => IX M' ∧ (0 ≤ y1 ∧ y1 ≤ 2 → z = 1 ∧ Ks (fun k j => (29 + 7 * y1.toNat ≤ k ∧ k ≤ 35 + 7 * y1.toNat) ∨ (k = 166 ∧ j = y1)) MX M' ∧ M' 166 y1 = 1 ∧ (∀ (E : Mem) (r : Int → Int), SC E MX 1 r → SC E M' (29 + 7 * y1.toNat) r) ∧ M' (29 + 7 * y1.toNat) 6 = MX 1 6 ∧ M' (29 + 7 * y1.toNat) 7 = MX 1 7) ∧ (¬ (0 ≤ y1 ∧ y1 ≤ 2) → z = 0 ∧ M' = MX)) (fun c M' i a1 a2 a3 a4 => ⟨i, fun _ => ⟨rfl, a1, a2, a3, a4⟩, fun n => absurd c n⟩) (fun n => ⟨hR.1, fun c => absurd c n, fun _ => ⟨rfl, rfl⟩⟩)) ?_
  intro z MX1 fX hX
  obtain ⟨iX, yX, nX⟩ := hX
  refine fmX12_keep (gX12_keepC (p1 := y1) hR.2.1 (Q := fun z M' => IM (60000 * (k : Int)) M' ∧ (0 ≤ y1 ∧ y1 ≤ 2 → z = 1 ∧ FrJ (fun k j => (k = 31 ∧ 38 * y1 ≤ j ∧ j < 38 * y1 + 38) ∨ (k = 29 ∧ j = y1) ∨ (k = 30 ∧ j = y1) ∨ (k = 1 ∧ j = 0)) MM M' ∧ M' 29 y1 = 1 ∧ M' 30 y1 = MM 1 6 ∧ (∀ j, 0 ≤ j → j < 38 → M' 31 (38 * y1 + j) = MM 5 j)) ∧ (¬ (0 ≤ y1 ∧ y1 ≤ 2) → z = 0 ∧ FrJ (fun k j => k = 1 ∧ j = 0) MM M')) (fun c M' i a1 a2 a3 a4 => ⟨i, fun _ => ⟨rfl, a1, a2, a3, a4⟩, fun n => absurd c n⟩) (fun n M' i a => ⟨i, fun c => absurd c n, fun _ => ⟨rfl, a⟩⟩)) ?_
  intro b MM1 fM hM
  obtain ⟨iM, yM, nM⟩ := hM
  by_cases c : 0 ≤ y1 ∧ y1 ≤ 2
  · obtain ⟨ez, x1, x2, x3, x4⟩ := yX c
    obtain ⟨eb, m1, m2, m3, m4⟩ := yM c
    have hF : FOLS MM1 := hR.F.keep S hR.E0 c m1 m4
    refine ⟨by rw [ez, eb], hR.s iX iM (by omega) (fX 156 1 (by omega)) (fM 1 14 (by omega)) (fX 182 2 (by omega)) (fM 1 45 (by omega)) (fun j => fX 157 j (by omega)) (fun j => fM 7 j (by omega)) (fun j => ⟨fX 183 j (by omega), fX 184 j (by omega), fM 26 j (by omega), fM 27 j (by omega)⟩) (fun k j q => fM k j (by omega)) hF ?_⟩
    exact S.keep (b := 0) hR.E0 hR.1 c x1 x2 x3 x4 m1 m2 m3 m4
  · obtain ⟨ez, x1⟩ := nX c
    obtain ⟨eb, m1⟩ := nM c
    have hF : FOLS MM1 := hR.F.fr (fun k j q => m1 k j (by omega))
    refine ⟨by rw [ez, eb], hR.s iX iM (by omega) (fX 156 1 (by omega)) (fM 1 14 (by omega)) (fX 182 2 (by omega)) (fM 1 45 (by omega)) (fun j => fX 157 j (by omega)) (fun j => fM 7 j (by omega)) (fun j => ⟨fX 183 j (by omega), fX 184 j (by omega), fM 26 j (by omega), fM 27 j (by omega)⟩) (fun k j q => fM k j (by omega)) hF ?_⟩
    exact S.fr hR.E0 hR.1 (fun k j q => by rw [x1]) (fun k j q => m1 k j (by omega))
theorem Cl_again (k : Nat) (MX MM : Mem) (y1 : Int) (hy1 : iR y1) (hk : k < 512) (hMX : MR MX) (hMM : MR MM) (hR : Rel k MX MM) : qX11_again y1 MX (fun z MX1 => qX12_again y1 MM (fun b MM1 => z = b ∧ Rel (k + 1) MX1 MM1)) := by
  have S := hR.S
  have c6 : MX 1 6 = cut MM 1 4 := S.2.2.1.1
  have c7 : MX 1 7 = cut MM 1 5 := S.2.2.1.2.1
  have hc : ((0 ≤ y1 ∧ y1 ≤ 2) ∧ MX 166 y1 ≠ 0 ∧ MX (29 + 7 * y1.toNat) 6 = MX 1 6 ∧ MX (29 + 7 * y1.toNat) 7 = MX 1 7) ↔ ((0 ≤ y1 ∧ y1 ≤ 2) ∧ MM 29 y1 ≠ 0 ∧ MM 30 y1 = MM 1 6) := by
    refine ⟨fun h => ?_, fun h => ?_⟩
    · obtain ⟨k1, k2⟩ := S.2.2.2.2.2 y1 h.1.1 (by have := h.1.2; omega)
      obtain ⟨a1, a2, a3, a4⟩ := k2 h.2.1
      refine ⟨h.1, fun q => h.2.1 (k1.mpr q), ?_⟩
      by_cases c : MM 30 y1 = MM 1 6
      · exact c
      · have := h.2.2
        rcases a4 (by omega) with q | q <;> omega
    · obtain ⟨k1, k2⟩ := S.2.2.2.2.2 y1 h.1.1 (by have := h.1.2; omega)
      have n0 : MX 166 y1 ≠ 0 := fun q => h.2.1 (k1.mp q)
      obtain ⟨a1, a2, a3, a4⟩ := k2 n0
      have s := (a3 h.2.2).1
      exact ⟨h.1, n0, by rw [c6]; exact s.1, by rw [c7]; exact s.2.1⟩
  refine fmX11_again (gX11_again (p1 := y1) hR.1 (Q := fun z M' => IX M' ∧ ((0 ≤ y1 ∧ y1 ≤ 2) ∧ MX 166 y1 ≠ 0 ∧ MX (29 + 7 * y1.toNat) 6 = MX 1 6 ∧ MX (29 + 7 * y1.toNat) 7 = MX 1 7 → z = 1 ∧ Ks (fun k j => (1 ≤ k ∧ k ≤ 7) ∨ (k = 163 ∧ j = 2)) MX M' ∧ M' 163 2 = 0 ∧ (∀ (E : Mem) (r : Int → Int), SC E MX (29 + 7 * y1.toNat) r → SC E M' 1 r)) ∧ (¬ ((0 ≤ y1 ∧ y1 ≤ 2) ∧ MX 166 y1 ≠ 0 ∧ MX (29 + 7 * y1.toNat) 6 = MX 1 6 ∧ MX (29 + 7 * y1.toNat) 7 = MX 1 7) → z = 0 ∧ M' = MX)) (fun c0 c1 c2 c3 M' i a1 a2 a3 => ⟨i, fun _ => ⟨rfl, a1, a2, a3⟩, fun n => absurd ⟨c0, c1, c2, c3⟩ n⟩) (fun n => ⟨hR.1, fun c => absurd c n, fun _ => ⟨rfl, rfl⟩⟩)) ?_
  intro z MX1 fX hX
  obtain ⟨iX, yX, nX⟩ := hX
  refine fmX12_again (gX12_again (p1 := y1) hR.2.1 (Q := fun z M' => IM (60000 * (k : Int)) M' ∧ ((0 ≤ y1 ∧ y1 ≤ 2) ∧ MM 29 y1 ≠ 0 ∧ MM 30 y1 = MM 1 6 → z = 1 ∧ FrJ (fun k j => k = 5 ∨ (k = 1 ∧ (j = 0 ∨ j = 28))) MM M' ∧ M' 1 28 = 0 ∧ (∀ j, 0 ≤ j → j < 38 → M' 5 j = MM 31 (38 * y1 + j))) ∧ (¬ ((0 ≤ y1 ∧ y1 ≤ 2) ∧ MM 29 y1 ≠ 0 ∧ MM 30 y1 = MM 1 6) → z = 0 ∧ FrJ (fun k j => k = 1 ∧ j = 0) MM M')) (fun c0 c1 c2 M' i a1 a2 a3 => ⟨i, fun _ => ⟨rfl, a1, a2, a3⟩, fun n => absurd ⟨c0, c1, c2⟩ n⟩) (fun n M' i a => ⟨i, fun c => absurd c n, fun _ => ⟨rfl, a⟩⟩)) ?_
  intro b MM1 fM hM
  obtain ⟨iM, yM, nM⟩ := hM
  by_cases c : (0 ≤ y1 ∧ y1 ≤ 2) ∧ MM 29 y1 ≠ 0 ∧ MM 30 y1 = MM 1 6
  · obtain ⟨ez, x1, x2, x3⟩ := yX (hc.mpr c)
    obtain ⟨eb, m1, m2, m3⟩ := yM c
    have hF : FOLS MM1 := hR.F.again S hR.E0 c.1 c.2.1 c.2.2 m1 m2 m3
    refine ⟨by rw [ez, eb], hR.s iX iM (by omega) (fX 156 1 (by omega)) (fM 1 14 (by omega)) (fX 182 2 (by omega)) (fM 1 45 (by omega)) (fun j => fX 157 j (by omega)) (fun j => fM 7 j (by omega)) (fun j => ⟨fX 183 j (by omega), fX 184 j (by omega), fM 26 j (by omega), fM 27 j (by omega)⟩) (fun k j q => fM k j (by omega)) hF ?_⟩
    exact S.again (p1 := y1) hR.E0 hR.1 c.1 (hc.mpr c).2.1 c.2.2 x1 x2 x3 m1 m2 m3
  · obtain ⟨ez, x1⟩ := nX (fun q => c (hc.mp q))
    obtain ⟨eb, m1⟩ := nM c
    have hF : FOLS MM1 := hR.F.fr (fun k j q => m1 k j (by omega))
    refine ⟨by rw [ez, eb], hR.s iX iM (by omega) (fX 156 1 (by omega)) (fM 1 14 (by omega)) (fX 182 2 (by omega)) (fM 1 45 (by omega)) (fun j => fX 157 j (by omega)) (fun j => fM 7 j (by omega)) (fun j => ⟨fX 183 j (by omega), fX 184 j (by omega), fM 26 j (by omega), fM 27 j (by omega)⟩) (fun k j q => fM k j (by omega)) hF ?_⟩
    exact S.fr hR.E0 hR.1 (fun k j q => by rw [x1]) (fun k j q => m1 k j (by omega))
theorem Rk_count (k : Nat) (MX MM : Mem) (y1 : Int) (hy1 : iR y1) (hk : k < 512) (hMX : MR MX) (hMM : MR MM) (hR : Rel k MX MM) : qX11_count y1 MX (fun z MX1 => qX12_count y1 MM (fun b MM1 => Rel (k + 1) MX1 MM1)) := by
  refine fmX11_count (sX11_count (p1 := y1) hR.1 (Q := fun _ M' => IX M') (fun _ => hR.1)) ?_
  intro z MX1 fX hX
  refine fmX12_count (sX12_count (p1 := y1) hR.2.1 (Q := fun _ M' => IM (60000 * (k : Int)) M') (fun _ _ h => h)) ?_
  intro b MM1 fM hM
  exact hR.q hX hM (by omega) (fX 156 1 (by first | omega | exact fun h => h)) (fM 1 14 (by first | omega | exact fun h => h)) (fX 182 2 (by first | omega | exact fun h => h)) (fM 1 45 (by first | omega | exact fun h => h)) (fun j => fX 157 j (by first | omega | exact fun h => h)) (fun j => fM 7 j (by first | omega | exact fun h => h)) (fun j => ⟨fX 183 j (by first | omega | exact fun h => h), fX 184 j (by first | omega | exact fun h => h), fM 26 j (by first | omega | exact fun h => h), fM 27 j (by first | omega | exact fun h => h)⟩) (fun k j q => fX k j (by first | omega | exact fun h => h)) (fun k j q => fM k j (by first | omega | exact fun h => h))
theorem Rk_row (k : Nat) (MX MM : Mem) (y1 : Int) (hy1 : iR y1) (hk : k < 512) (hMX : MR MX) (hMM : MR MM) (hR : Rel k MX MM) : qX11_row y1 MX (fun z MX1 => qX12_row y1 MM (fun b MM1 => Rel (k + 1) MX1 MM1)) (fun MX1 => qX12_row y1 MM (fun b MM1 => Rel (k + 1) MX1 MM1)) := by
  refine fmX11_row (sX11_row (p1 := y1) hR.1 (Q := fun _ M' => IX M') (E := fun M' => IX M') (fun _ _ h => h) (fun _ h => h)) ?_ ?_
  · intro z MX1 fX hX
    refine fmX12_row (sX12_row (p1 := y1) hR.2.1 (Q := fun _ M' => IM (60000 * (k : Int)) M') (fun _ _ h => h)) ?_
    intro b MM1 fM hM
    exact hR.q hX hM (by omega) (fX 156 1 (by first | omega | exact fun h => h)) (fM 1 14 (by first | omega | exact fun h => h)) (fX 182 2 (by first | omega | exact fun h => h)) (fM 1 45 (by first | omega | exact fun h => h)) (fun j => fX 157 j (by first | omega | exact fun h => h)) (fun j => fM 7 j (by first | omega | exact fun h => h)) (fun j => ⟨fX 183 j (by first | omega | exact fun h => h), fX 184 j (by first | omega | exact fun h => h), fM 26 j (by first | omega | exact fun h => h), fM 27 j (by first | omega | exact fun h => h)⟩) (fun k j q => fX k j (by first | omega | exact fun h => h)) (fun k j q => fM k j (by first | omega | exact fun h => h))
  · intro MX1 fX hX
    refine fmX12_row (sX12_row (p1 := y1) hR.2.1 (Q := fun _ M' => IM (60000 * (k : Int)) M') (fun _ _ h => h)) ?_
    intro b MM1 fM hM
    exact hR.q hX hM (by omega) (fX 156 1 (by first | omega | exact fun h => h)) (fM 1 14 (by first | omega | exact fun h => h)) (fX 182 2 (by first | omega | exact fun h => h)) (fM 1 45 (by first | omega | exact fun h => h)) (fun j => fX 157 j (by first | omega | exact fun h => h)) (fun j => fM 7 j (by first | omega | exact fun h => h)) (fun j => ⟨fX 183 j (by first | omega | exact fun h => h), fX 184 j (by first | omega | exact fun h => h), fM 26 j (by first | omega | exact fun h => h), fM 27 j (by first | omega | exact fun h => h)⟩) (fun k j q => fX k j (by first | omega | exact fun h => h)) (fun k j q => fM k j (by first | omega | exact fun h => h))
end
section
/-! ONE HEARSE, ONE MOURNER -/
theorem up_00 (M : Mem) {k : Nat} {j : Int} (h : ¬ (k = 1 ∧ j = 0)) : up2 M 1 0 0 k j = M k j := by
  rw [up2_a]
  by_cases c : k = 1
  · rw [if_pos c, if_neg (fun q => h ⟨c, q⟩)]
  · rw [if_neg c]
end
section
/-! A TRIAL on both sides: the row of now, over what stood in the other row -/
def cr (f g : Int → Int) : Int → Int := fun j => if 0 ≤ j ∧ j < 38 then f j else g j
theorem cr_i {f g : Int → Int} {j : Int} (h : 0 ≤ j) (h2 : j < 38) : cr f g j = f j := by unfold cr; rw [if_pos ⟨h, h2⟩]
theorem WR.cr {E : Mem} {r g : Int → Int} (h : WR E r) (hE : EBx E) : WR E (cr r g) := h.cg hE (fun j p q => cr_i p q)
theorem SC.cr {E M : Mem} {k : Nat} {r g : Int → Int} (h : SC E M k r) (hE : EBx E) : SC E M k (cr r g) := h.cg hE (fun j p q => cr_i p q)
theorem gX12_copiesC_L2 {Q : Mem → Prop} {b : Int} {M0 : Mem} (hQ : ∀ M' : Mem, IM b M' → FrJ (fun k _ => k = 6) M0 M' → M' 6 = cr (M0 5) (M0 6) → Q M') : ∀ (n : Nat) (v1 : Int) (M : Mem), IM b M → FrJ (fun k _ => k = 6) M0 M → (∀ j, M 6 j = if 0 ≤ j ∧ j < v1 then M0 5 j else M0 6 j) → (0 ≤ v1 ∧ v1 ≤ 38) → 38 - v1 < (n : Int) → qX12_copies_L2 Q n v1 M := by
  intro n
  induction n with
  | zero => intro v1 M hI hF hs hv hm; exact absurd hm (by omega)
  | succ n ih =>
    intro v1 M hI hF hs hv hm
    rw [qX12_copies_L2]
    refine ⟨⟨by omega, by omega⟩, ⟨fun c => hQ _ hI hF ?_, fun c => ⟨by omega, by omega, ?_⟩⟩⟩
    · funext j
      rw [hs j, show v1 = 38 from by omega]
      rfl
    intro x5 e5 _ M6 h6
    have hn : BN b v1 x5 := by rw [e5]; exact (bm_n (Or.inl rfl)).mp (hI.bx _ _)
    refine ih _ _ (by rw [h6]; exact hI.up (by omega) ((bm_n (Or.inr rfl)).mpr hn)) (by rw [h6]; exact hF.up rfl) ?_ (by omega) (by omega)
    intro j
    rw [h6]
    by_cases cj : j = v1
    · rw [cj, up2_s, e5, if_pos ⟨hv.1, by omega⟩]
      exact hF 5 v1 (by omega)
    · rw [up2_j cj, hs j]
      by_cases cc : 0 ≤ j ∧ j < v1
      · rw [if_pos cc, if_pos ⟨cc.1, by omega⟩]
      · rw [if_neg cc, if_neg (fun q => cc ⟨q.1, by omega⟩)]
theorem gX12_copiesC {b : Int} {M : Mem} {Q : Mem → Prop} (hI : IM b M) (hQ : ∀ M' : Mem, IM b M' → FrJ (fun k _ => k = 6) M M' → M' 6 = cr (M 5) (M 6) → Q M') : qX12_copies M Q := by
  unfold qX12_copies
  exact ⟨39, gX12_copiesC_L2 hQ _ _ _ hI FrJ.rf (fun j => by rw [if_neg (by omega)]) (by omega) (by omega)⟩
-- the thrown flag is put out ahead of every call
theorem th0 {b : Int} {M M1 E : Mem} (hI : IM b M) (hE : CE E M) (h1 : M1 = up2 M 1 0 0) : IM b M1 ∧ CE E M1 ∧ M1 5 = M 5 ∧ M1 6 = M 6 ∧ ∀ (k : Nat) (j : Int), ¬ (k = 1 ∧ j = 0) → M1 k j = M k j := by
  subst h1
  exact ⟨hI.up (by omega) (by simp [BM]), fun k j h => by rw [up_00 M (by rcases h with h | h | h | h | h <;> omega)]; exact hE k j h, up2_n (by decide), up2_n (by decide), fun k j h => up_00 M h⟩
theorem CE.c6 {E M M' : Mem} (h : CE E M) (f : FrJ (fun k _ => k = 6) M M') : CE E M' := h.fr f (by intro k j h; rcases h with h | h | h | h | h <;> omega)
-- one step of a trial of the class
-- what is told
/-! WHEN ONE ARRIVES -/
/-! WHERE ONE ENDS -/
end
section
/-! THE LINE, AHEAD, PASSING -/
theorem add1 {p1 : Int} {M : Mem} {Q : Mem → Prop} (hI : IX M) (hn : M 167 1 ≤ 7) (hQ : ∀ M' : Mem, IX M' → Ks (fun k j => k = 0 ∨ (k = 167 ∧ j = 1)) M M' → M' 167 1 = M 167 1 + 1 → Q M') : qX4_add p1 M Q := by
  have b := bx_c167_1.mp (hI.bx 167 1)
  unfold qX4_add
  intro x1 e1 _
  refine ⟨fun c => by omega, fun c => ?_⟩
  intro x3 e3 _
  refine ⟨by omega, by omega, ?_⟩
  intro M6 h6 x7 e7 _
  have f7 : x7 = M 167 1 := by rw [e7, h6, up2_n (by decide)]
  have i6 : IX M6 := by rw [h6]; exact hI.up (by decide) (by simp [BX])
  refine ⟨⟨by omega, by omega⟩, ?_⟩
  intro M9 h9
  refine hQ M9 (by rw [h9]; exact i6.up (by decide) (bx_c167_1.mpr ⟨by omega, by omega⟩)) ?_ (by rw [h9, up2_s, f7])
  rw [h9, h6]
  exact (Ks.rf.wr (Or.inl rfl)).wr (Or.inr ⟨rfl, rfl⟩)
-- passing
end
section
/-! YEARS -/
end
section
/-! THE END on the reference's side; how many end right -/
theorem CE.eb {E M : Mem} {b : Int} (h : CE E M) (hI : IM b M) : EBx E := by
  have a := h.h hI
  have o := h.o hI
  have g := h.g hI
  have e3 : M 1 3 = E 1 3 := h 1 3 cE13
  have e4 : M 1 4 = E 1 4 := h 1 4 cE14
  have e5 : M 1 5 = E 1 5 := h 1 5 cE15
  exact ⟨by omega, by omega, by omega⟩
theorem gX12_endedBy_L5 {b : Int} {M E : Mem} {Q : Int → Mem → Prop} (hI : IM b M) (hE : CE E M) (ho : ∀ m, 0 ≤ m → m < E 1 5 → 0 ≤ E 3 m ∧ E 3 m < E 1 4) (hQ : Q (rgB E (M 6)) M) : ∀ (n : Nat) (v3 v4 : Int), v3 = bitF (fun m => if M 6 (29 + m) = E 3 m then 1 else 0) 1 v4.toNat → (0 ≤ v4 ∧ v4 ≤ E 1 5) → E 1 5 - v4 < (n : Int) → qX12_endedBy_L5 6 1 Q n v3 v4 M := by
  have E0 := hE.eb hI
  have f := E0.f
  have g := E0.2
  intro n
  induction n with
  | zero => intro v3 v4 h1 hv hm; exact absurd hm (by omega)
  | succ n ih =>
    intro v3 v4 h1 hv hm
    have r3 := bitF_R (fun m => if M 6 (29 + m) = E 3 m then 1 else 0) 1 v4.toNat
    rw [← h1] at r3
    have hs := bitF_s (f := fun m => if M 6 (29 + m) = E 3 m then 1 else 0) (x := 1) hv.1
    rw [qX12_endedBy_L5]
    intro x1 e1 _
    rw [hE 1 5 cE15] at e1
    refine ⟨⟨by omega, by omega⟩, ⟨fun c => ⟨r3, ?_⟩, fun c => ?_⟩⟩
    · rw [h1, show v4.toNat = eO E from by omega]
      exact hQ
    · have o := ho v4 hv.1 (by omega)
      refine gX12_isEnded (k0 := 6) (by omega) ?_
      intro z hz _ _
      refine ⟨fun c2 => ?_, fun c2 => ⟨by omega, by omega, ?_⟩⟩
      · intro x7 e7 _
        refine ih _ _ ?_ (by omega) (by omega)
        rw [hs, if_neg (show ¬ M 6 (29 + v4) = E 3 v4 by omega), if_neg (by decide), e7, h1]
      · intro x10 e10 _
        refine ⟨by omega, by omega, ?_⟩
        intro x13 e13 _
        rw [hE 3 v4 (cE3 v4)] at e13
        refine ⟨fun c3 => ?_, fun c3 => ?_⟩
        · unfold qX12_endedBy_J46
          refine ⟨⟨by decide, by decide⟩, ⟨fun _ => ?_, fun q => absurd q (by decide)⟩⟩
          intro x17 e17 _
          refine ih _ _ ?_ (by omega) (by omega)
          rw [hs, if_neg (show ¬ M 6 (29 + v4) = E 3 v4 by omega), if_neg (by decide), e17, h1]
        · unfold qX12_endedBy_J46
          refine ⟨⟨by decide, by decide⟩, ⟨fun q => absurd rfl q, fun _ => ?_⟩⟩
          intro x18 e18 _ x19 e19 _
          refine ih _ _ ?_ (by omega) (by omega)
          rw [hs, if_pos (show M 6 (29 + v4) = E 3 v4 by omega), if_pos rfl, e19, e18, h1]
theorem gX12_endedBy {b : Int} {M E : Mem} {Q : Int → Mem → Prop} (hI : IM b M) (hE : CE E M) (ho : ∀ m, 0 ≤ m → m < E 1 5 → 0 ≤ E 3 m ∧ E 3 m < E 1 4) (hQ : Q (rgB E (M 6)) M) : qX12_endedBy 6 1 M Q := by
  have g := (hE.eb hI).2
  unfold qX12_endedBy
  exact ⟨9, gX12_endedBy_L5 hI hE ho hQ _ _ _ rfl (by omega) (by omega)⟩
/-- beyond a row's numbers -/
def OUT (g r : Int → Int) : Prop := ∀ j : Int, (j < 0 ∨ 38 ≤ j) → r j = g j
theorem hsF_out {E : Mem} {j : Int} (hj : j < 0 ∨ 38 ≤ j) : ∀ (l : List Int) (r : Int → Int), (∀ x, x ∈ l → 0 ≤ x ∧ x ≤ 5) → hsF E l r j = r j := by
  intro l
  induction l with
  | nil => intro r _; rfl
  | cons a t ih =>
    intro r hl
    have ha := hl a List.mem_cons_self
    show hsF E t (mhF E r a) j = r j
    rw [ih (mhF E r a) (fun x hx => hl x (List.mem_cons_of_mem _ hx)), mhF_o (by omega) (by omega) (by omega)]
theorem stF_out {E : Mem} {r : Int → Int} (hE : EBx E) : OUT r (stF E r) := by
  intro j hj
  have f := hE.f
  have g := hE.2
  have m : ∀ n : Nat, n ≤ 8 → ∀ r : Int → Int, msF E n r j = r j := by
    intro n
    induction n with
    | zero => intro _ r; rfl
    | succ n ih =>
      intro hn r
      show (if 0 ≤ msF E n r (29 + n) then msF E n r else mmF E (msF E n r) n) j = _
      split
      · exact ih (by omega) r
      · rw [mmF_o (by omega)]
        exact ih (by omega) r
  unfold stF
  rw [up_j (by omega), m (eO E) (by omega), hsF_out hj _ _ (ln_x hE).1.i]
theorem itF_out {E : Mem} {r : Int → Int} (hE : EBx E) : ∀ n : Nat, OUT r (itF E n r) := by
  intro n
  induction n with
  | zero => intro j _; rfl
  | succ n ih =>
    intro j hj
    show stF E (itF E n r) j = r j
    rw [stF_out hE j hj]
    exact ih j hj
theorem gX12_rightThen_L4 {b : Int} {E : Mem} {r : Int → Int} {X50 : Mem → Prop} {Q : Int → Mem → Prop} (hE0 : EBx E) (hW : WR E r) (hb : b + 200 ≤ 2000000000) (hX : ∀ M' : Mem, IM (b + 200) M' → CE E M' → OUT r (M' 6) → grv E (M' 6) (itF E 200 r) → X50 M') : ∀ (n : Nat) (v1 v2 : Int) (M : Mem), IM (b + v2) M → CE E M → M 6 = itF E v2.toNat r → (0 ≤ v2 ∧ v2 ≤ 200) → (v1 = 1 ∨ v1 = 0 ∧ allA E (M 6) ∧ fol E (M 6)) → 200 - v2 < (n : Int) → qX12_rightThen_L4 X50 Q n v1 v2 M := by
  have e5 := hE0.2.2
  intro n
  induction n with
  | zero => intro v1 v2 M hI hE h6 hv h1 hm; exact absurd hm (by omega)
  | succ n ih =>
    intro v1 v2 M hI hE h6 hv h1 hm
    rw [qX12_rightThen_L4]
    refine ⟨⟨by omega, by omega⟩, ⟨fun c => ?_, fun c => ⟨⟨by omega, by omega⟩, ⟨fun c2 => ?_, fun c2 => ?_⟩⟩⟩⟩
    · refine hX M (hI.mono (by omega)) hE (by rw [h6]; exact itF_out hE0 _) ?_
      rw [h6, show v2.toNat = 200 from by omega]
      exact fun m p q => rfl
    · rcases h1 with h1 | ⟨_, h1, h2⟩
      · omega
      · refine hX M (hI.mono (by omega)) hE (by rw [h6]; exact itF_out hE0 _) ?_
        have W := hW.it hE0 v2.toNat
        rw [← h6] at W
        intro m p q
        have e := gr_allA hE0 W h1 h2 (200 - v2.toNat) m p q
        rw [h6, ← st_add, show 200 - v2.toNat + v2.toNat = 200 from by omega] at e
        rw [h6]
        exact e.symm
    · refine gX12_laysLine (k1 := 6) hI hE (Or.inr rfl) ?_
      intro M1 i1 f1 l1 hl
      have E1 : CE E M1 := hE.fr f1 (by intro k j h; rcases h with h | h | h | h | h <;> omega)
      have k1 : M1 6 = M 6 := funext fun j => f1 6 j (by omega)
      intro x6 e6 _
      have l0 := l1.1
      have W := hW.it hE0 v2.toNat
      rw [← h6] at W
      have go : ∀ t : Int, (t = 1 ∨ t = 0 ∧ lnL (M 6) (eH E) (eG E).toNat = []) → qX12_rightThen_J35 (qX12_rightThen_L4 X50 Q n) X50 Q v2 t M1 := by
        intro t ht
        unfold qX12_rightThen_J35
        refine gX12_stepGoes i1 E1 (by omega) (Or.inr rfl) ?_
        intro M' i' E' k'
        rw [k1] at k'
        refine ih t (v2 + 1) M' (i'.mono (by omega)) E' (by rw [k', h6, itF_s hv.1]) (by omega) ?_ (by omega)
        rcases ht with q | ⟨q, u⟩
        · exact Or.inl q
        · refine Or.inr ⟨q, ?_, ?_⟩
          · rw [k']
            exact (allA_st hE0 (ln_all hE0 W u)).2
          · rw [k']
            exact fol_st hE0 W
      refine ⟨fun c3 => ?_, fun c3 => go 1 (Or.inl rfl)⟩
      refine go 0 (Or.inr ⟨rfl, ?_⟩)
      have : (lnL (M 6) (eH E) (eG E).toNat).length = 0 := by omega
      exact List.eq_nil_of_length_eq_zero this
theorem gX12_rightThen {b : Int} {M E : Mem} {Q : Int → Mem → Prop} (hI : IM b M) (hE : CE E M) (ho : ∀ m, 0 ≤ m → m < E 1 5 → 0 ≤ E 3 m ∧ E 3 m < E 1 4) (hW : WR E (M 6)) (hb : b + 200 ≤ 2000000000) (hQ : ∀ M' : Mem, IM (b + 200) M' → CE E M' → OUT (M 6) (M' 6) → grv E (M' 6) (itF E 200 (M 6)) → Q (rgE E (M 6)) M') : qX12_rightThen M Q := by
  have E0 := hE.eb hI
  unfold qX12_rightThen
  refine ⟨202, gX12_rightThen_L4 (b := b) (E := E) (r := M 6) E0 hW hb ?_ _ _ _ _ (hI.mono (by omega)) hE rfl (by omega) (Or.inl rfl) (by omega)⟩
  intro M' i' E' o' g'
  unfold qX12_rightThen_J50
  refine gX12_endedBy i' E' ho ?_
  intro _
  rw [rgB_cg E0 g']
  exact hQ M' i' E' o' g'
end
section
/-! TRIALS: now, as something is otherwise, up to THE END -/
abbrev kTr (l k : Nat) (j : Int) : Prop := (8 ≤ k ∧ k ≤ 21) ∨ (160 ≤ k ∧ k ≤ 162) ∨ k = l + 3 ∨ k = l + 4
/-- where a call of the class begins: what of it stands over trials -/
def TB (E M0 : Mem) (l : Nat) : Prop := IX M0 ∧ (M0 155 16).toNat = l ∧ (l = 187 ∨ l = 192) ∧ STR E M0 ∧ LAW E M0 l ∧ WFC (E 11) (E 1 24) ∧ 0 ≤ E 1 24
theorem TB.S {E M0 M : Mem} {l : Nat} (h : TB E M0 l) (hK : Ks (kTr l) M0 M) : STR E M := by
  have hl := h.2.2.1
  exact h.2.2.2.1.fr (hK _ _ (by omega)) (hK _ _ (by omega)) (hK _ _ (by omega)) (fun j => hK 159 j (by omega))
-- the reference
theorem cr_o {r g g' : Int → Int} (h : OUT g g') : cr r g' = cr r g := by
  funext j
  unfold cr
  by_cases c : 0 ≤ j ∧ j < 38
  · rw [if_pos c, if_pos c]
  · rw [if_neg c, if_neg c]
    exact h j (by omega)
theorem OUT.cr (r g : Int → Int) : OUT g (cr r g) := fun j hj => by exact if_neg (by omega)
theorem OUT.tr {g r s : Int → Int} (h : OUT g r) (h2 : OUT r s) : OUT g s := fun j hj => (h2 j hj).trans (h j hj)
theorem OUT.up {g r : Int → Int} {i v : Int} (h : OUT g r) (hi : 0 ≤ i ∧ i < 38) : OUT g (up r i v) := fun j hj => by rw [up_j (by omega)]; exact h j hj
def TM (E : Mem) (b : Int) (r5 g : Int → Int) (M : Mem) : Prop := IM b M ∧ CE E M ∧ M 5 = r5 ∧ OUT g (M 6)
theorem TM.mono {E M : Mem} {b b' : Int} {r5 g : Int → Int} (h : TM E b r5 g M) (hb : b ≤ b') : TM E b' r5 g M := ⟨h.1.mono hb, h.2⟩
theorem cpM {E M : Mem} {b : Int} {r5 g : Int → Int} {Q : Mem → Prop} (h : TM E b r5 g M) (hQ : ∀ M' : Mem, TM E b r5 g M' → M' 6 = cr r5 g → Q M') : qX12_copies M Q := by
  obtain ⟨hI, hE, h5, h6⟩ := h
  refine gX12_copiesC hI ?_
  intro M' i' f' e'
  rw [h5, cr_o h6] at e'
  refine hQ M' ⟨i', hE.c6 f', ?_, ?_⟩ e'
  · rw [← h5]
    exact funext fun j => f' 5 j (by omega)
  · rw [e']
    exact OUT.cr _ _
theorem rtM {E M : Mem} {b : Int} {r5 g : Int → Int} {Q : Int → Mem → Prop} (h : TM E b r5 g M) (ho : ∀ m, 0 ≤ m → m < E 1 5 → 0 ≤ E 3 m ∧ E 3 m < E 1 4) (hW : WR E (M 6)) (hb : b + 200 ≤ 2000000000) (hQ : ∀ M' : Mem, TM E (b + 200) r5 g M' → grv E (M' 6) (itF E 200 (M 6)) → Q (rgE E (M 6)) M') : qX12_rightThen M Q := by
  obtain ⟨hI, hE, h5, h6⟩ := h
  refine fmX12_rightThen (gX12_rightThen hI hE ho hW hb (Q := fun z M' => z = rgE E (M 6) ∧ IM (b + 200) M' ∧ CE E M' ∧ OUT (M 6) (M' 6) ∧ grv E (M' 6) (itF E 200 (M 6))) (fun M' i e o g => ⟨rfl, i, e, o, g⟩)) ?_
  intro z M' f' q
  obtain ⟨ez, i', e', o', g'⟩ := q
  rw [ez]
  refine hQ M' ⟨i', e', ?_, h6.tr o'⟩ g'
  rw [← h5]
  exact funext fun j => f' 5 j (by omega)
/-! RIGHT -/
end
section
/-! ANOTHER RULE, up to THE END -/
/-- of a rule only its own rows count -/
def EQ (E F : Mem) : Prop := (∀ (k : Nat) (j : Int), k ≠ 11 → E k j = F k j) ∧ ∀ i, 0 ≤ i → i < E 1 24 → E 11 i = F 11 i
theorem evS_f {f f' e : Int → Int} : ∀ n : Nat, (∀ i : Int, 0 ≤ i → i < n → f i = f' i) → dpc f n = dpc f' n ∧ evS f e n = evS f' e n := by
  intro n
  induction n with
  | zero => intro _; exact ⟨rfl, rfl⟩
  | succ n ih =>
    intro h
    obtain ⟨i1, i2⟩ := ih (fun i p q => h i p (by omega))
    have e := h n (by omega) (by omega)
    refine ⟨?_, ?_⟩
    · unfold dpc
      rw [i1, e]
    · unfold evS
      rw [i1, i2, e]
theorem EQ.hp {E F : Mem} (h : EQ E F) : eH E = eH F ∧ eO E = eO F ∧ eG E = eG F ∧ E 2 = F 2 ∧ E 3 = F 3 ∧ E 4 = F 4 := by
  refine ⟨?_, ?_, ?_, funext fun j => h.1 2 j (by decide), funext fun j => h.1 3 j (by decide), funext fun j => h.1 4 j (by decide)⟩
  · show (E 1 4).toNat = (F 1 4).toNat
    rw [h.1 1 4 (by decide)]
  · show (E 1 5).toNat = (F 1 5).toNat
    rw [h.1 1 5 (by decide)]
  · show E 1 3 - 1 = F 1 3 - 1
    rw [h.1 1 3 (by decide)]
theorem EQ.pa {E F : Mem} (h : EQ E F) (r : Int → Int) (x : Int) : paF E r x = paF F r x := by
  obtain ⟨a, b, c, d, _, f⟩ := h.hp
  have e : envF E r x = envF F r x := by
    funext j
    unfold envF
    rw [a, b, c, d, f, h.1 1 7 (by decide)]
  unfold paF ruF
  rw [e, h.1 1 24 (by decide)]
  by_cases z : F 1 24 = 0
  · rw [if_pos z, if_pos z]
  · rw [if_neg z, if_neg z]
    have := (evS_f (f := E 11) (f' := F 11) (e := envF F r x) (F 1 24).toNat (fun i p q => h.2 i p (by rw [h.1 1 24 (by decide)]; omega))).2
    rw [this]
theorem EQ.go {E F : Mem} (h : EQ E F) (r : Int → Int) (x p : Int) : goF E r x p = goF F r x p := by
  obtain ⟨a, b, c, d, _, f⟩ := h.hp
  have e : okF E r (r x) = okF F r (r x) := by
    funext z
    unfold okF
    rw [a, c, d]
  unfold goF
  rw [e, c]
theorem EQ.mh {E F : Mem} (h : EQ E F) (r : Int → Int) (x : Int) : mhF E r x = mhF F r x := by
  obtain ⟨a, b, c, d, _, f⟩ := h.hp
  unfold mhF
  rw [h.pa, h.go, c]
theorem EQ.hs {E F : Mem} (h : EQ E F) : ∀ (l : List Int) (r : Int → Int), hsF E l r = hsF F l r := by
  intro l
  induction l with
  | nil => intro r; rfl
  | cons a t ih =>
    intro r
    show hsF E t (mhF E r a) = hsF F t (mhF F r a)
    rw [h.mh, ih]
theorem EQ.mm {E F : Mem} (h : EQ E F) (r : Int → Int) (m : Int) : mmF E r m = mmF F r m := by
  obtain ⟨a, b, c, d, _, f⟩ := h.hp
  unfold mmF chF
  rw [a]
theorem EQ.ms {E F : Mem} (h : EQ E F) (r : Int → Int) : ∀ n : Nat, msF E n r = msF F n r := by
  intro n
  induction n with
  | zero => rfl
  | succ n ih =>
    show (if 0 ≤ msF E n r (29 + n) then msF E n r else mmF E (msF E n r) n) = (if 0 ≤ msF F n r (29 + n) then msF F n r else mmF F (msF F n r) n)
    rw [ih, h.mm]
theorem EQ.st {E F : Mem} (h : EQ E F) (r : Int → Int) : stF E r = stF F r := by
  obtain ⟨a, b, c, d, _, f⟩ := h.hp
  unfold stF
  rw [a, b, c, h.hs, h.ms]
theorem EQ.it {E F : Mem} (h : EQ E F) (r : Int → Int) : ∀ n : Nat, itF E n r = itF F n r := by
  intro n
  induction n with
  | zero => rfl
  | succ n ih =>
    show stF E (itF E n r) = stF F (itF F n r)
    rw [ih, h.st]
theorem EQ.rg {E F : Mem} (h : EQ E F) (r : Int → Int) : rgE E r = rgE F r := by
  obtain ⟨a, b, c, d, e, f⟩ := h.hp
  unfold rgE rgB
  rw [b, e, h.it]
theorem SCd_u {c d : Int → Int} : ∀ {O : List (Int × Int)}, SCd c O → SCd d O → ∀ i : Int, 0 ≤ i → i < O.length → c i = d i
  | [], _, _ => fun i p q => by
    have : ((([] : List (Int × Int)).length : Nat) : Int) = 0 := rfl
    omega
  | p :: O, s, t => fun i a q => by
    have l : ((p :: O).length : Int) = O.length + 1 := by show ((O.length + 1 : Nat) : Int) = _; omega
    by_cases e : i = O.length
    · rw [e, s.1, t.1]
    · exact SCd_u s.2 t.2 i a (by omega)
/-- E2 is E with the rule that the text tells -/
def LAQ (E : Mem) (f : Int → Int) (len : Int) (E2 : Mem) : Prop := (∀ (k : Nat) (j : Int), k ≠ 11 → ¬ (k = 1 ∧ j = 24) → E2 k j = E k j) ∧ ((len = 0 → E2 1 24 = 0) ∧ (len ≠ 0 → 1 ≤ E2 1 24 ∧ E2 1 24 = (rlO f len).length ∧ SCd (E2 11) (rlO f len))) ∧ WFC (E2 11) (E2 1 24) ∧ 0 ≤ E2 1 24
theorem LAQ.eq {E E2 E3 : Mem} {f : Int → Int} {len : Int} (h : LAQ E f len E2) (g : LAQ E f len E3) : EQ E2 E3 := by
  obtain ⟨h1, h2, _⟩ := h
  obtain ⟨g1, g2, _⟩ := g
  have e24 : E2 1 24 = E3 1 24 := by
    by_cases c : len = 0
    · rw [h2.1 c, g2.1 c]
    · rw [(h2.2 c).2.1, (g2.2 c).2.1]
  refine ⟨fun k j hk => ?_, fun i p q => ?_⟩
  · by_cases c : k = 1 ∧ j = 24
    · rw [c.1, c.2]; exact e24
    · rw [h1 k j hk c, g1 k j hk c]
  · by_cases c : len = 0
    · have := h2.1 c
      omega
    · exact SCd_u (h2.2 c).2.2 (g2.2 c).2.2 i p (by have := (h2.2 c).2.1; omega)
theorem LAQ.rul {E E2 : Mem} {f : Int → Int} {len : Int} (h : LAQ E f len E2) : RUL E2 f len := by
  by_cases c : len = 0
  · exact Or.inl ⟨c, h.2.1.1 c⟩
  · exact Or.inr (h.2.1.2 c)
theorem LAQ.hp {E E2 : Mem} {f : Int → Int} {len : Int} (h : LAQ E f len E2) : E2 1 3 = E 1 3 ∧ E2 1 4 = E 1 4 ∧ E2 1 5 = E 1 5 ∧ E2 1 7 = E 1 7 ∧ E2 2 = E 2 ∧ E2 3 = E 3 ∧ E2 4 = E 4 ∧ eO E2 = eO E ∧ eH E2 = eH E ∧ eG E2 = eG E := by
  have e := h.1
  have e13 : E2 1 3 = E 1 3 := e 1 3 (by decide) (by omega)
  have e14 : E2 1 4 = E 1 4 := e 1 4 (by decide) (by omega)
  have e15 : E2 1 5 = E 1 5 := e 1 5 (by decide) (by omega)
  have e17 : E2 1 7 = E 1 7 := e 1 7 (by decide) (by omega)
  exact ⟨e13, e14, e15, e17, funext fun j => e 2 j (by decide) (by omega), funext fun j => e 3 j (by decide) (by omega), funext fun j => e 4 j (by decide) (by omega), by show (E2 1 5).toNat = (E 1 5).toNat; rw [e15], by show (E2 1 4).toNat = (E 1 4).toNat; rw [e14], by show E2 1 3 - 1 = E 1 3 - 1; rw [e13]⟩
theorem LAQ.toSTR {E E2 M : Mem} {f : Int → Int} {len : Int} (h : LAQ E f len E2) (s : STR E M) : STR E2 M := by
  obtain ⟨e13, e14, e15, e17, r2, r3, r4, _⟩ := h.hp
  unfold STR at s ⊢
  rw [e13, e14, e15, e17, r2, r3, r4]
  exact s
theorem LAQ.toSC {E E2 M : Mem} {f : Int → Int} {len : Int} {k0 : Nat} {r : Int → Int} (h : LAQ E f len E2) (s : SC E M k0 r) : SC E2 M k0 r := by
  obtain ⟨e13, e14, e15, e17, r2, r3, r4, eo, _⟩ := h.hp
  unfold SC at s ⊢
  rw [e14, e15, r3, eo]
  exact s
theorem LAQ.toWR {E E2 : Mem} {f : Int → Int} {len : Int} {r : Int → Int} (h : LAQ E f len E2) (s : WR E r) : WR E2 r := by
  obtain ⟨e13, e14, e15, e17, r2, r3, r4, eo, eh, eg⟩ := h.hp
  unfold WR at s ⊢
  rw [e14, e15, eg, eh]
  exact s
theorem LAQ.toLAW {E E2 M : Mem} {f : Int → Int} {len : Int} {kl : Nat} (h : LAQ E f len E2) (s : ROl kl M (rlO f len)) : LAW E2 M kl := h.rul.law rfl rfl s
/-- the answer -/
noncomputable def lwA (E E2 : Mem) (f : Int → Int) (len : Int) (r : Int → Int) : Int := if rlz f len = -1 then bcF (rgE E2 r) - bcF (rgE E r) else -10000 - rlz f len
theorem rlz_b {f : Int → Int} {len : Int} (h : 0 ≤ len) : rlz f len = -1 ∨ 0 ≤ rlz f len ∧ rlz f len ≤ 40 := by
  have sb := rlS_b (f := f) h
  unfold rlz
  split
  · exact Or.inl rfl
  · split
    · exact Or.inr ⟨sb.1, by omega⟩
    · exact Or.inl rfl
theorem gX11_lawV {M E E2 : Mem} {l : Nat} {r f : Int → Int} {Q : Int → Mem → Prop} (h : TB E M l) (hf' : ∀ j, 0 ≤ j → j < M 156 1 → M 157 j = f j) (hA : LAQ E f (M 156 1) E2) (hC : SC E M 1 r) (hW : WR E r) (hf : fol E r) (h37 : r 37 ≤ 1999999000) (hQ : ∀ M' : Mem, IX M' → M' 155 16 = M 155 16 → (∀ (k : Nat) (j : Int), (M 155 16).toNat ≤ k → k ≤ (M 155 16).toNat + 2 → M' k j = M k j) → Q (lwA E E2 f (M 156 1) r) M') : qX11_law M Q := by
  obtain ⟨hI, hl, hl2, hS, hL, hw, h24⟩ := h
  have bL := bx_c156_1.mp (hI.bx 156 1)
  have zb := rlz_b (f := f) bL.1
  have l16 : (M 155 16).toNat = 187 ∧ (M 155 17).toNat = 192 ∨ (M 155 16).toNat = 192 ∧ (M 155 17).toNat = 187 := by
    rcases hI.2.1 with q | q <;> rw [q.1, q.2] <;> decide
  unfold lwA at hQ
  unfold qX11_law
  refine ⟨hI.l17, ?_⟩
  refine fmX5_read (gX5_read (f := f) hI hI.l17 hf' (Q := fun z M' => z = rlz f (M 156 1) ∧ IX M' ∧ (rlz f (M 156 1) = -1 → ROl (M 155 17).toNat M' (rlO f (M 156 1)))) (fun M' i o => ⟨rfl, i, o⟩)) ?_
  intro x2 M2 k2 h2
  obtain ⟨e2, i2, o2⟩ := h2
  intro _
  unfold qX9_clear
  intro M3 h3
  have i3 : IX M3 := by rw [h3]; exact i2.up (by decide) (bx_c156_1.mpr (by decide))
  have K3 : ∀ (k : Nat) (j : Int), ((M 155 16).toNat ≤ k ∧ k ≤ (M 155 16).toNat + 2) ∨ k = 155 ∨ k ≤ 154 ∨ (k = 158 ∨ k = 159) → M3 k j = M k j := by
    intro k j h
    rw [h3, up2_n (by omega)]
    exact k2 k j (by omega)
  refine ⟨fun c => ?_, fun c => ?_⟩
  · have hz : rlz f (M 156 1) = -1 := by omega
    rw [if_pos hz] at hQ
    have R3 : ROl (M 155 17).toNat M3 (rlO f (M 156 1)) := (o2 hz).fr (by rw [h3, up2_n (by omega)]) (by rw [h3, up2_n (by omega)]) (by rw [h3, up2_n (by omega)]) (by rw [h3, up2_n (by omega)])
    refine fmX6_copyFrom (gX6_copyFrom i3 (show isS 8 by decide) (show isS 1 by decide) (by decide) (Q := fun M' => IX M' ∧ SC E M' 8 r) (fun M' i _ s _ => ⟨i, s E r (hC.fr (fun t j ht => K3 _ j (by omega)))⟩)) ?_
    intro M5 k5 h5
    obtain ⟨i5, c5⟩ := h5
    have K5 : ∀ (k : Nat) (j : Int), ((M 155 16).toNat ≤ k ∧ k ≤ (M 155 16).toNat + 2) ∨ k = 155 ∨ (1 ≤ k ∧ k ≤ 7) ∨ (k = 158 ∨ k = 159) → M5 k j = M k j := by
      intro k j h
      rw [k5 k j (by omega)]
      exact K3 k j (by omega)
    have S5 : STR E M5 := hS.fr (K5 _ _ (by omega)) (K5 _ _ (by omega)) (K5 _ _ (by omega)) (fun j => K5 159 j (by omega))
    have R5 : ROl (M 155 17).toNat M5 (rlO f (M 156 1)) := R3.fr (k5 _ _ (by omega)) (k5 _ _ (by omega)) (funext fun j => k5 _ j (by omega)) (funext fun j => k5 _ j (by omega))
    refine ⟨i5.l17, ?_⟩
    rw [K5 155 17 (by omega)]
    refine fmX11_rightOnesOfTrial (gX11_rightOnesOfTrial (E := E2) (r := r) i5 hI.l17 (hA.toSTR S5) (hA.toLAW R5) hA.2.2.1 hA.2.2.2 (hA.toSC c5) (hA.toWR hW) (hf.e hA.hp.2.2.1) h37 (Q := fun z M' => z = rgE E2 r ∧ IX M') (fun M' T i _ _ _ _ => ⟨rfl, i⟩)) ?_
    intro x7 M7 k7 h7
    obtain ⟨e7, i7⟩ := h7
    intro _
    have K7 : ∀ (k : Nat) (j : Int), ((M 155 16).toNat ≤ k ∧ k ≤ (M 155 16).toNat + 2) ∨ k = 155 ∨ (1 ≤ k ∧ k ≤ 7) ∨ (k = 158 ∨ k = 159) → M7 k j = M k j := by
      intro k j h
      rw [k7 k j (by omega)]
      exact K5 k j h
    rw [e7]
    refine gJ6_bitCount ?_
    intro _
    refine fmX6_copyFrom (gX6_copyFrom i7 (show isS 8 by decide) (show isS 1 by decide) (by decide) (Q := fun M' => IX M' ∧ SC E M' 8 r) (fun M' i _ s _ => ⟨i, s E r (hC.fr (fun t j ht => K7 _ j (by omega)))⟩)) ?_
    intro M9 k9 h9
    obtain ⟨i9, c9⟩ := h9
    have K9 : ∀ (k : Nat) (j : Int), ((M 155 16).toNat ≤ k ∧ k ≤ (M 155 16).toNat + 2) ∨ k = 155 ∨ (1 ≤ k ∧ k ≤ 7) ∨ (k = 158 ∨ k = 159) → M9 k j = M k j := by
      intro k j h
      rw [k9 k j (by omega)]
      exact K7 k j h
    have S9 : STR E M9 := hS.fr (K9 _ _ (by omega)) (K9 _ _ (by omega)) (K9 _ _ (by omega)) (fun j => K9 159 j (by omega))
    have L9 : LAW E M9 (M 155 16).toNat := by
      rw [hl]
      exact hL.fr (K9 _ _ (by omega)) (K9 _ _ (by omega)) (fun j => K9 _ j (by omega)) (fun j => K9 _ j (by omega))
    refine ⟨i9.l16, ?_⟩
    rw [K9 155 16 (by omega)]
    refine fmX11_rightOnesOfTrial (gX11_rightOnesOfTrial (E := E) (r := r) i9 hI.l16 S9 L9 hw h24 c9 hW hf h37 (Q := fun z M' => z = rgE E r ∧ IX M') (fun M' T i _ _ _ _ => ⟨rfl, i⟩)) ?_
    intro x11 M11 k11 h11
    obtain ⟨e11, i11⟩ := h11
    intro _
    have K11 : ∀ (k : Nat) (j : Int), ((M 155 16).toNat ≤ k ∧ k ≤ (M 155 16).toNat + 2) ∨ k = 155 → M11 k j = M k j := by
      intro k j h
      rw [k11 k j (by omega)]
      exact K9 k j (by omega)
    rw [e11]
    refine gJ6_bitCount ?_
    intro _
    refine fmX4_tellTwo (sX4_tellTwo (p1 := bcF (rgE E2 r)) (p3 := bcF (rgE E r)) i11 (Q := fun M' => IX M') (fun _ h => h)) ?_
    intro M13 k13 i13
    have b1 := bcF_b (rgE E2 r)
    have b2 := bcF_b (rgE E r)
    refine ⟨⟨by omega, by omega⟩, hQ M13 i13 ?_ (fun k j h1 h2 => ?_)⟩
    · rw [k13 155 16 (by omega)]
      exact K11 155 16 (Or.inr rfl)
    · rw [k13 k j (by omega)]
      exact K11 k j (Or.inl ⟨h1, h2⟩)
  · have hz : rlz f (M 156 1) ≠ -1 := by omega
    rw [if_neg hz] at hQ
    rw [e2]
    exact ⟨⟨by omega, by omega⟩, hQ M3 i3 (K3 155 16 (by omega)) (fun k j h1 h2 => K3 k j (by omega))⟩
theorem gX12_lawV {b : Int} {M : Mem} {f : Int → Int} {Q : Int → Mem → Prop} (hI : IM b M) (ho : ∀ m, 0 ≤ m → m < cut M 1 5 → 0 ≤ cut M 3 m ∧ cut M 3 m < cut M 1 4) (hW : WR (cut M) (cr (M 5) (M 6))) (hb : b + 400 ≤ 2000000000) (hf' : ∀ j, 0 ≤ j → j < M 1 14 → M 7 j = f j) (hQ : ∀ (z : Int) (M' : Mem), IM (b + 400) M' → M' 1 24 = M 1 24 → (∀ j, 0 ≤ j → j < M 1 24 → M' 11 j = M 11 j) → (rlz f (M 1 14) = -1 → ∃ E2, LAQ (cut M) f (M 1 14) E2 ∧ z = lwA (cut M) E2 f (M 1 14) (cr (M 5) (M 6))) → (rlz f (M 1 14) ≠ -1 → z = -10000 - rlz f (M 1 14)) → Q z M') : qX12_law M Q := by
  have bL := bm_c1_14.mp (hI.bx 1 14)
  have zb := rlz_b (f := f) bL.1
  unfold qX12_law
  intro M1 h1
  obtain ⟨i1, E1, k5, k6, kk⟩ := th0 hI (cut_CE M) h1
  have g14 : M1 1 14 = M 1 14 := kk 1 14 (by omega)
  have g24 : M1 1 24 = M 1 24 := kk 1 24 (by omega)
  have g11 : M1 11 = M 11 := funext fun j => kk 11 j (by omega)
  refine fmX12_readsRule (gX12_readsRule (f := f) i1 (fun j p q => by rw [kk 7 j (by omega)]; exact hf' j p (by omega)) (Q := fun z M' => z = rly f (M1 1 14) ∧ IM b M' ∧ (rlz f (M1 1 14) = -1 → WFC (M' 12) (M' 1 25) ∧ (M1 1 14 = 0 → M' 1 25 = 0) ∧ (M1 1 14 ≠ 0 → 1 ≤ M' 1 25 ∧ CK M' (rlO f (M1 1 14))))) (fun M' i w => ⟨rfl, i, w⟩)) ?_
  intro x2 M2 f2 hh
  obtain ⟨e2, h2, w2⟩ := hh
  rw [g14] at e2 w2
  intro _
  unfold rly at e2
  refine ⟨fun c => ?_, fun c => ?_⟩
  · have hz : rlz f (M 1 14) = -1 := by
      by_cases q : rlz f (M 1 14) = -1
      · exact q
      · rw [if_neg q] at e2; omega
    obtain ⟨wf, l0, l1⟩ := w2 hz
    have E2' : CE (cut M) M2 := fun k j c => (f2 k j (by omega)).trans (E1 k j c)
    have t2 : TM (cut M) b (M 5) (M 6) M2 := ⟨h2, E2', by rw [← k5]; exact funext fun j => f2 5 j (by omega), fun j _ => by rw [f2 6 j (by omega), k6]⟩
    refine fmX12_copies (cpM t2 (Q := fun M' => TM (cut M) b (M 5) (M 6) M' ∧ M' 6 = cr (M 5) (M 6)) (fun M' t e => ⟨t, e⟩)) ?_
    intro M4 f4 h4
    obtain ⟨t4, e4⟩ := h4
    refine fmX12_rightThen (rtM t4 ho (by rw [e4]; exact hW) (by omega) (Q := fun z M' => z = rgE (cut M) (cr (M 5) (M 6)) ∧ TM (cut M) (b + 200) (M 5) (M 6) M') (fun M' t _ => ⟨by rw [e4], t⟩)) ?_
    intro x5 M5 f5 h5
    obtain ⟨e5, t5⟩ := h5
    intro _
    have g5 : M5 1 24 = M 1 24 := by rw [f5 1 24 (by omega), f4 1 24 (by omega), f2 1 24 (by omega)]; exact g24
    have c5 : ∀ j, M5 11 j = M 11 j := fun j => by rw [f5 11 j (by omega), f4 11 j (by omega), f2 11 j (by omega), g11]
    rw [e5]
    refine gJ6_bitCount ?_
    intro _ x7 e7 _
    have b7 : 0 ≤ x7 ∧ x7 ≤ 80 := by rw [e7]; exact bm_c1_24.mp (t5.1.bx _ _)
    refine ⟨81, sX12_law_L42 (b := b + 200) (M0 := M5) ?_ _ _ _ t5.1 (fun j a q => by omega) FrJ.rf (by omega) (by omega)⟩
    intro M' i' j' f' x16 e16 _
    have b16 : 0 ≤ x16 ∧ x16 ≤ 80 := by rw [e16]; exact bm_c1_25.mp (i'.bx _ _)
    have e12 : M' 12 = M2 12 := funext fun j => by rw [f' 12 j (by omega), f5 12 j (by omega), f4 12 j (by omega)]
    have e25 : M' 1 25 = M2 1 25 := by rw [f' 1 25 (by omega), f5 1 25 (by omega), f4 1 25 (by omega)]
    refine gX12_laysCode i' b16 (by decide) (by rw [e12, e16, e25]; exact wf) ?_
    intro M17 h17 f17 n17 c17
    have F17 : ∀ (k : Nat) (j : Int), k ≠ 11 → ¬ (k = 1 ∧ j = 24) → k ≠ 28 → M17 k j = M5 k j := fun k j a c d => by rw [f17 k j (by omega), f' k j (by omega)]
    -- the rule that is tried
    have A : LAQ (cut M) f (M 1 14) (cut M17) := by
      refine ⟨fun k j a c => ?_, ⟨fun q => ?_, fun q => ?_⟩, cut_W h17, ?_⟩
      · by_cases hc : cE k j
        · rw [cut_p hc, F17 k j a c (by omega)]
          exact t5.2.1 k j hc
        · unfold cut
          rw [if_neg hc, if_neg hc]
      · rw [cut124, n17, e16, e25]
        exact l0 q
      · obtain ⟨p1, p2, p3⟩ := l1 q
        rw [cut124, n17, e16, e25, cut11]
        refine ⟨p1, p2, p3.cg (fun j a c => ?_)⟩
        rw [c17 j a (by omega), e12]
      · rw [cut124, n17]
        exact b16.1
    have t17 : TM (cut M17) (b + 200) (M 5) (M 6) M17 := ⟨h17, cut_CE M17, by rw [← t5.2.2.1]; exact funext fun j => F17 5 j (by decide) (by omega) (by decide), fun j p => by rw [F17 6 j (by decide) (by omega) (by decide)]; exact t5.2.2.2 j p⟩
    refine fmX12_copies (cpM t17 (Q := fun M' => TM (cut M17) (b + 200) (M 5) (M 6) M' ∧ M' 6 = cr (M 5) (M 6)) (fun M' t e => ⟨t, e⟩)) ?_
    intro M18 f18 h18
    obtain ⟨t18, e18⟩ := h18
    refine fmX12_rightThen (rtM t18 (fun m p q => by
        obtain ⟨_, a4, a5, _, _, a3, _⟩ := A.hp
        rw [a3, a4]
        exact ho m p (by rw [← a5]; exact q)) (by rw [e18]; exact A.toWR hW) (by omega) (Q := fun z M' => z = rgE (cut M17) (cr (M 5) (M 6)) ∧ IM (b + 200 + 200) M') (fun M' t _ => ⟨by rw [e18], t.1⟩)) ?_
    intro x19 M19 f19 hh
    obtain ⟨e19, h19⟩ := hh
    intro _
    rw [e19]
    refine gJ6_bitCount ?_
    intro _
    refine ⟨⟨by omega, by omega⟩, ?_⟩
    have c19 : ∀ j, 0 ≤ j → j < M5 1 24 → M19 28 j = M5 11 j := by
      intro j a q
      rw [f19 28 j (by omega), f18 28 j (by omega), f17 28 j (by omega)]
      exact j' j a q
    have w28 : WFC (M19 28) x7 := by
      have hw := t5.1.2
      rw [← e7] at hw
      exact hw.cg (fun j a q => c19 j a (by omega))
    refine gX12_laysCode h19 b7 (by decide) w28 ?_
    intro M22 h22 _ n22 c22 M23 h23
    have i23 : IM (b + 200 + 200) M23 := by rw [h23]; exact h22.up (by omega) (bm_c1_1.mpr (by decide))
    have k23 : M23 1 1 = 0 := by rw [h23, up2_s]
    refine fmX12_enters (sX12_enters (p1 := bcF (rgE (cut M17) (cr (M 5) (M 6)))) i23 (by omega) (Q := fun M' => IM (b + 200 + 200) M' ∧ M' 1 1 = M23 1 1 + 1) (fun M' i g => ⟨i, g⟩)) ?_
    intro M24 f24 hh
    obtain ⟨h24, g24'⟩ := hh
    have b1 := bcF_b (rgE (cut M17) (cr (M 5) (M 6)))
    have b2 := bcF_b (rgE (cut M) (cr (M 5) (M 6)))
    refine ⟨⟨by omega, by omega⟩, ?_⟩
    refine fmX12_enters (sX12_enters (p1 := bcF (rgE (cut M) (cr (M 5) (M 6)))) h24 (by omega) (Q := fun M' => IM (b + 200 + 200) M') (fun M' i g => i)) ?_
    intro M26 f26 h26
    refine ⟨⟨by omega, by omega⟩, hQ _ M26 (h26.mono (by omega)) ?_ (fun j a q => ?_) (fun _ => ⟨cut M17, A, by unfold lwA; rw [if_pos hz]⟩) (fun q => absurd hz q)⟩
    · rw [f26 1 24 (by omega), f24 1 24 (by omega), h23, up2_j (by decide), n22, e7]
      exact g5
    · rw [f26 11 j (by omega), f24 11 j (by omega), h23, up2_n (by decide), c22 j a (by omega), c19 j a (by omega)]
      exact c5 j
  · have hz : rlz f (M 1 14) ≠ -1 := by
      intro q
      rw [if_pos q] at e2
      omega
    rw [if_neg hz] at e2
    refine ⟨⟨by omega, by omega⟩, hQ _ M2 (h2.mono (by omega)) (by rw [f2 1 24 (by omega)]; exact g24) (fun j _ _ => by rw [f2 11 j (by omega), g11]) (fun q => absurd q hz) (fun _ => by omega)⟩
/-- a text that can't stand: nothing is tried -/
theorem kzX11_law {M : Mem} {f : Int → Int} {Q : Int → Mem → Prop} (hI : IX M) (hf' : ∀ j, 0 ≤ j → j < M 156 1 → M 157 j = f j) (hz : rlz f (M 156 1) ≠ -1) (hQ : ∀ M' : Mem, IX M' → M' 155 16 = M 155 16 → (∀ (k : Nat) (j : Int), (M 155 16).toNat ≤ k → k ≤ (M 155 16).toNat + 2 → M' k j = M k j) → Q (-10000 - rlz f (M 156 1)) M') : qX11_law M Q := by
  have bL := bx_c156_1.mp (hI.bx 156 1)
  have zb := rlz_b (f := f) bL.1
  have l16 : (M 155 16).toNat = 187 ∧ (M 155 17).toNat = 192 ∨ (M 155 16).toNat = 192 ∧ (M 155 17).toNat = 187 := by
    rcases hI.2.1 with q | q <;> rw [q.1, q.2] <;> decide
  unfold qX11_law
  refine ⟨hI.l17, ?_⟩
  refine fmX5_read (gX5_read (f := f) hI hI.l17 hf' (Q := fun z M' => z = rlz f (M 156 1) ∧ IX M') (fun M' i o => ⟨rfl, i⟩)) ?_
  intro x2 M2 k2 h2
  obtain ⟨e2, i2⟩ := h2
  intro _
  unfold qX9_clear
  intro M3 h3
  have i3 : IX M3 := by rw [h3]; exact i2.up (by decide) (bx_c156_1.mpr (by decide))
  have K3 : ∀ (k : Nat) (j : Int), ((M 155 16).toNat ≤ k ∧ k ≤ (M 155 16).toNat + 2) ∨ k = 155 → M3 k j = M k j := by
    intro k j h
    rw [h3, up2_n (by omega)]
    exact k2 k j (by omega)
  refine ⟨fun c => by omega, fun c => ?_⟩
  rw [e2]
  exact ⟨⟨by omega, by omega⟩, hQ M3 i3 (K3 155 16 (by omega)) (fun k j h1 h2 => K3 k j (by omega))⟩
end
section
/-! QUESTIONS that go to THE END, alike on both sides -/
theorem Rel.tb {k : Nat} {MX MM : Mem} (h : Rel k MX MM) : TB (cut MM) MX (MX 155 16).toNat :=
  ⟨h.1, rfl, h.1.l16, h.S.1, h.S.2.1, h.W, ((cut_CE MM).w h.2.1).2⟩
end
section
/-! law, alike on both sides -/
theorem Cl_law (k : Nat) (MX MM : Mem)  (hk : k < 512) (hMX : MR MX) (hMM : MR MM) (hR : Rel k MX MM) : qX11_law  MX (fun z MX1 => qX12_law  MM (fun b MM1 => z = b ∧ Rel (k + 1) MX1 MM1)) := by
  have S := hR.S
  have r37 := hR.r37 hk
  have e := hR.2.2.1
  have h37 : (cr (MM 5) (MM 6)) 37 ≤ 1999990000 := by rw [cr_i (by decide) (by decide)]; omega
  have C := S.2.2.1.cr hR.E0 (g := MM 6)
  have W := S.2.2.2.1.cr hR.E0 (g := MM 6)
  have Fo : fol (cut MM) (cr (MM 5) (MM 6)) := hR.f.cg hR.E0 S.2.2.2.1 (fun j p q => cr_i p q)
  -- both behind the call
  have fin : ∀ (z b : Int) (MX1 MM1 : Mem), z = b → IX MX1 → IM (60000 * (k : Int) + 400) MM1 → MX1 156 1 = 0 → MM1 1 14 = 0 → MX1 182 2 = MX 182 2 → MM1 1 45 = MM 1 45 → (∀ j, MX1 183 j = MX 183 j ∧ MX1 184 j = MX 184 j ∧ MM1 26 j = MM 26 j ∧ MM1 27 j = MM 27 j) → MX1 155 16 = MX 155 16 → (∀ (k : Nat) (j : Int), (MX 155 16).toNat ≤ k → k ≤ (MX 155 16).toNat + 2 → MX1 k j = MX k j) → MM1 1 24 = MM 1 24 → (∀ j, 0 ≤ j → j < MM 1 24 → MM1 11 j = MM 11 j) → (∀ (k : Nat) (j : Int), cE k j → k ≠ 11 → ¬ (k = 1 ∧ j = 24) → MM1 k j = MM k j) → Ks (fun k _ => k = 0 ∨ (8 ≤ k ∧ k ≤ 28) ∨ (155 ≤ k ∧ k ≤ 157) ∨ (160 ≤ k ∧ k ≤ 162) ∨ (164 ≤ k ∧ k ≤ 165) ∨ 167 ≤ k) MX MX1 → (∀ (k : Nat) (j : Int), k = 5 ∨ k = 15 ∨ k = 29 ∨ k = 30 ∨ k = 31 ∨ (k = 1 ∧ (j = 5 ∨ j = 6 ∨ j = 28)) → MM1 k j = MM k j) → z = b ∧ Rel (k + 1) MX1 MM1 := by
    intro z b MX1 MM1 ez iX iM lX lM x182 m45 hh x0 x1 m0 m1 mc kx km
    refine ⟨ez, hR.t iX iM (by omega) lX lM x182 m45 hh (hR.F.fr km) ?_⟩
    refine S.rule hR.E0 hR.1 (fun k j h1 h2 => ?_) kx ?_ (fun k j h => km k j (by omega))
    · by_cases h : cE k j
      · rw [cut_p h, cut_p h]
        exact mc k j h h1 h2
      · unfold cut
        rw [if_neg h, if_neg h]
    · rw [x0]
      refine (S.2.1.fr (x1 _ _ (by omega) (by omega)) (x1 _ _ (by omega) (by omega)) (fun j => x1 _ j (by omega) (by omega)) (fun j => x1 _ j (by omega) (by omega))).ce ?_ (fun j a q => ?_)
      · rw [cut124, cut124]
        exact m0
      · rw [cut124] at q
        rw [cut11, cut11]
        exact m1 j a q
  have REF : ∀ (z : Int) (MX1 : Mem), IX MX1 → MX1 156 1 = 0 → MX1 182 2 = MX 182 2 → (∀ j, MX1 183 j = MX 183 j ∧ MX1 184 j = MX 184 j) → MX1 155 16 = MX 155 16 → (∀ (k : Nat) (j : Int), (MX 155 16).toNat ≤ k → k ≤ (MX 155 16).toNat + 2 → MX1 k j = MX k j) → Ks (fun k _ => k = 0 ∨ (8 ≤ k ∧ k ≤ 28) ∨ (155 ≤ k ∧ k ≤ 157) ∨ (160 ≤ k ∧ k ≤ 162) ∨ (164 ≤ k ∧ k ≤ 165) ∨ 167 ≤ k) MX MX1 → (∀ E2, LAQ (cut MM) (MM 7) (MM 1 14) E2 → z = lwA (cut MM) E2 (MM 7) (MM 1 14) (cr (MM 5) (MM 6))) → (rlz (MM 7) (MM 1 14) ≠ -1 → z = -10000 - rlz (MM 7) (MM 1 14)) → qX12_law  MM (fun b MM1 => z = b ∧ Rel (k + 1) MX1 MM1) := by
    intro z MX1 iX lX x182 h183 x0 x1 kx hy hn
    refine fmX12_law (fzX12_law (gX12_lawV (f := MM 7) hR.2.1 hR.own W (by omega) (fun _ _ _ => rfl) (Q := fun b M' => IM (60000 * (k : Int) + 400) M' ∧ M' 1 24 = MM 1 24 ∧ (∀ j, 0 ≤ j → j < MM 1 24 → M' 11 j = MM 11 j) ∧ z = b) (fun b M' i a c y n => ⟨i, a, c, ?_⟩)) (Q' := fun b M' => M' 1 14 = 0 ∧ IM (60000 * (k : Int) + 400) M' ∧ M' 1 24 = MM 1 24 ∧ (∀ j, 0 ≤ j → j < MM 1 24 → M' 11 j = MM 11 j) ∧ z = b) (fun _ M' z h => ⟨z, h⟩)) ?_
    · by_cases c : rlz (MM 7) (MM 1 14) = -1
      · obtain ⟨E2, A, eb⟩ := y c
        rw [eb]
        exact hy E2 A
      · rw [n c]
        exact hn c
    · intro b MM1 fM hM
      obtain ⟨lM, iM, m0, m1, ez⟩ := hM
      exact fin z b MX1 MM1 ez iX iM lX lM x182 (fM 1 45 (by omega)) (fun j => ⟨(h183 j).1, (h183 j).2, fM 26 j (by omega), fM 27 j (by omega)⟩) x0 x1 m0 m1 (fun k j h h1 h2 => fM k j (by omega)) kx (fun k j h => fM k j (by omega))
  by_cases ex : ∃ E2, LAQ (cut MM) (MM 7) (MM 1 14) E2
  · obtain ⟨E2, A⟩ := ex
    refine fmX11_law (fzX11_law (gX11_lawV (E2 := E2) (f := MM 7) hR.tb (fun j p q => hR.2.2.2.2.1 j p q) (by rw [e]; exact A) C W Fo (by omega) (Q := fun z M' => z = lwA (cut MM) E2 (MM 7) (MM 1 14) (cr (MM 5) (MM 6)) ∧ IX M' ∧ M' 155 16 = MX 155 16 ∧ ∀ (k : Nat) (j : Int), (MX 155 16).toNat ≤ k → k ≤ (MX 155 16).toNat + 2 → M' k j = MX k j) (fun M' i a c => ⟨by rw [e], i, a, c⟩)) (Q' := fun z M' => M' 156 1 = 0 ∧ z = lwA (cut MM) E2 (MM 7) (MM 1 14) (cr (MM 5) (MM 6)) ∧ IX M' ∧ M' 155 16 = MX 155 16 ∧ ∀ (k : Nat) (j : Int), (MX 155 16).toNat ≤ k → k ≤ (MX 155 16).toNat + 2 → M' k j = MX k j) (fun _ M' z h => ⟨z, h⟩)) ?_
    intro z MX1 fX hX
    obtain ⟨lX, ez, iX, x0, x1⟩ := hX
    refine REF z MX1 iX lX (fX 182 2 (by omega)) (fun j => ⟨fX 183 j (by omega), fX 184 j (by omega)⟩) x0 x1 (fun k j h => fX k j (by omega)) (fun E3 A3 => ?_) (fun q => ?_)
    · rw [ez]
      unfold lwA
      rw [(A.eq A3).rg]
    · rw [ez]
      unfold lwA
      rw [if_neg q]
  · by_cases hz : rlz (MM 7) (MM 1 14) = -1
    · refine fmX11_law (fzX11_law (keX11_law hR.1 (Q := fun z M' => IX M' ∧ M' 155 16 = MX 155 16 ∧ ∀ (k : Nat) (j : Int), (MX 155 16).toNat ≤ k → k ≤ (MX 155 16).toNat + 2 → M' k j = MX k j) (fun z M' i a c => ⟨i, a, c⟩)) (Q' := fun z M' => M' 156 1 = 0 ∧ IX M' ∧ M' 155 16 = MX 155 16 ∧ ∀ (k : Nat) (j : Int), (MX 155 16).toNat ≤ k → k ≤ (MX 155 16).toNat + 2 → M' k j = MX k j) (fun _ M' z h => ⟨z, h⟩)) ?_
      intro z MX1 fX hX
      obtain ⟨lX, iX, x0, x1⟩ := hX
      exact REF z MX1 iX lX (fX 182 2 (by omega)) (fun j => ⟨fX 183 j (by omega), fX 184 j (by omega)⟩) x0 x1 (fun k j h => fX k j (by omega)) (fun E3 A3 => absurd ⟨E3, A3⟩ ex) (fun q => absurd hz q)
    · refine fmX11_law (fzX11_law (kzX11_law (f := MM 7) hR.1 (fun j p q => hR.2.2.2.2.1 j p q) (by rw [e]; exact hz) (Q := fun z M' => z = -10000 - rlz (MM 7) (MM 1 14) ∧ IX M' ∧ M' 155 16 = MX 155 16 ∧ ∀ (k : Nat) (j : Int), (MX 155 16).toNat ≤ k → k ≤ (MX 155 16).toNat + 2 → M' k j = MX k j) (fun M' i a c => ⟨by rw [e], i, a, c⟩)) (Q' := fun z M' => M' 156 1 = 0 ∧ z = -10000 - rlz (MM 7) (MM 1 14) ∧ IX M' ∧ M' 155 16 = MX 155 16 ∧ ∀ (k : Nat) (j : Int), (MX 155 16).toNat ≤ k → k ≤ (MX 155 16).toNat + 2 → M' k j = MX k j) (fun _ M' z h => ⟨z, h⟩)) ?_
      intro z MX1 fX hX
      obtain ⟨lX, ez, iX, x0, x1⟩ := hX
      exact REF z MX1 iX lX (fX 182 2 (by omega)) (fun j => ⟨fX 183 j (by omega), fX 184 j (by omega)⟩) x0 x1 (fun k j h => fX k j (by omega)) (fun E3 A3 => by rw [ez]; unfold lwA; rw [if_neg hz]) (fun _ => ez)
end
section
theorem Rl_sign (k : Nat) (MX MM : Mem) (y1 : Int) (hy1 : iR y1) (hk : k < 512) (hMX : MR MX) (hMM : MR MM) (hR : Rel k MX MM) : qX11_sign y1 MX (fun z MX1 => qX12_sign y1 MM (fun b MM1 => Rel (k + 1) MX1 MM1)) :=
  fmX11_sign (Cl_sign k MX MM y1 hy1 hk hMX hMM hR) (fun _ _ _ h => fmX12_sign h (fun _ _ _ h2 => h2.2))
theorem Rl_end (k : Nat) (MX MM : Mem) (y1 : Int) (hy1 : iR y1) (hk : k < 512) (hMX : MR MX) (hMM : MR MM) (hR : Rel k MX MM) : qX11_end y1 MX (fun z MX1 => qX12_end y1 MM (fun b MM1 => Rel (k + 1) MX1 MM1)) :=
  fmX11_end (Cl_end k MX MM y1 hy1 hk hMX hMM hR) (fun _ _ _ h => fmX12_end h (fun _ _ _ h2 => h2.2))
theorem Rl_avenue (k : Nat) (MX MM : Mem)  (hk : k < 512) (hMX : MR MX) (hMM : MR MM) (hR : Rel k MX MM) : qX11_avenue  MX (fun z MX1 => qX12_avenue  MM (fun b MM1 => Rel (k + 1) MX1 MM1)) :=
  fmX11_avenue (Cl_avenue k MX MM   hk hMX hMM hR) (fun _ _ _ h => fmX12_avenue h (fun _ _ _ h2 => h2.2))
theorem Rl_hearses (k : Nat) (MX MM : Mem)  (hk : k < 512) (hMX : MR MX) (hMM : MR MM) (hR : Rel k MX MM) : qX11_hearses  MX (fun z MX1 => qX12_hearses  MM (fun b MM1 => Rel (k + 1) MX1 MM1)) :=
  fmX11_hearses (Cl_hearses k MX MM   hk hMX hMM hR) (fun _ _ _ h => fmX12_hearses h (fun _ _ _ h2 => h2.2))
theorem Rl_mourners (k : Nat) (MX MM : Mem)  (hk : k < 512) (hMX : MR MX) (hMM : MR MM) (hR : Rel k MX MM) : qX11_mourners  MX (fun z MX1 => qX12_mourners  MM (fun b MM1 => Rel (k + 1) MX1 MM1)) :=
  fmX11_mourners (Cl_mourners k MX MM   hk hMX hMM hR) (fun _ _ _ h => fmX12_mourners h (fun _ _ _ h2 => h2.2))
theorem Rl_weather (k : Nat) (MX MM : Mem)  (hk : k < 512) (hMX : MR MX) (hMM : MR MM) (hR : Rel k MX MM) : qX11_weather  MX (fun z MX1 => qX12_weather  MM (fun b MM1 => Rel (k + 1) MX1 MM1)) :=
  fmX11_weather (Cl_weather k MX MM   hk hMX hMM hR) (fun _ _ _ h => fmX12_weather h (fun _ _ _ h2 => h2.2))
theorem Rl_rule (k : Nat) (MX MM : Mem)  (hk : k < 512) (hMX : MR MX) (hMM : MR MM) (hR : Rel k MX MM) : qX11_rule  MX (fun z MX1 => qX12_rule  MM (fun b MM1 => Rel (k + 1) MX1 MM1)) :=
  fmX11_rule (Cl_rule k MX MM   hk hMX hMM hR) (fun _ _ _ h => fmX12_rule h (fun _ _ _ h2 => h2.2))
theorem Rl_hearse (k : Nat) (MX MM : Mem) (y1 y2 : Int) (hy1 : iR y1) (hy2 : iR y2) (hk : k < 512) (hMX : MR MX) (hMM : MR MM) (hR : Rel k MX MM) : qX11_hearse y1 y2 MX (fun z MX1 => qX12_hearse y1 y2 MM (fun b MM1 => Rel (k + 1) MX1 MM1)) (fun MX1 => qX12_hearse y1 y2 MM (fun b MM1 => Rel (k + 1) MX1 MM1)) :=
  Rk_hearse k MX MM y1 y2 hy1 hy2 hk hMX hMM hR
theorem Rl_mourner (k : Nat) (MX MM : Mem) (y1 y2 : Int) (hy1 : iR y1) (hy2 : iR y2) (hk : k < 512) (hMX : MR MX) (hMM : MR MM) (hR : Rel k MX MM) : qX11_mourner y1 y2 MX (fun z MX1 => qX12_mourner y1 y2 MM (fun b MM1 => Rel (k + 1) MX1 MM1)) (fun MX1 => qX12_mourner y1 y2 MM (fun b MM1 => Rel (k + 1) MX1 MM1)) :=
  Rk_mourner k MX MM y1 y2 hy1 hy2 hk hMX hMM hR
theorem Rl_sheet (k : Nat) (MX MM : Mem) (y1 y2 y3 y4 : Int) (hy1 : iR y1) (hy2 : iR y2) (hy3 : iR y3) (hy4 : iR y4) (hk : k < 512) (hMX : MR MX) (hMM : MR MM) (hR : Rel k MX MM) : qX11_sheet y1 y2 y3 y4 MX (fun z MX1 => qX12_sheet y1 y2 y3 y4 MM (fun b MM1 => Rel (k + 1) MX1 MM1)) :=
  fmX11_sheet (Cl_sheet k MX MM y1 y2 y3 y4 hy1 hy2 hy3 hy4 hk hMX hMM hR) (fun _ _ _ h => fmX12_sheet h (fun _ _ _ h2 => h2.2))
theorem Rl_steps (k : Nat) (MX MM : Mem) (y1 : Int) (hy1 : iR y1) (hk : k < 512) (hMX : MR MX) (hMM : MR MM) (hR : Rel k MX MM) : qX11_steps y1 MX (fun z MX1 => qX12_steps y1 MM (fun b MM1 => Rel (k + 1) MX1 MM1)) :=
  fmX11_steps (Cl_steps k MX MM y1 hy1 hk hMX hMM hR) (fun _ _ _ h => fmX12_steps h (fun _ _ _ h2 => h2.2))
theorem Rl_turnsTo (k : Nat) (MX MM : Mem) (y1 : Int) (hy1 : iR y1) (hk : k < 512) (hMX : MR MX) (hMM : MR MM) (hR : Rel k MX MM) : qX11_turnsTo y1 MX (fun z MX1 => qX12_turnsTo y1 MM (fun b MM1 => Rel (k + 1) MX1 MM1)) :=
  fmX11_turnsTo (Cl_turnsTo k MX MM y1 hy1 hk hMX hMM hR) (fun _ _ _ h => fmX12_turnsTo h (fun _ _ _ h2 => h2.2))
theorem Rl_pushes (k : Nat) (MX MM : Mem) (y1 y2 : Int) (hy1 : iR y1) (hy2 : iR y2) (hk : k < 512) (hMX : MR MX) (hMM : MR MM) (hR : Rel k MX MM) : qX11_pushes y1 y2 MX (fun z MX1 => qX12_pushes y1 y2 MM (fun b MM1 => Rel (k + 1) MX1 MM1)) :=
  fmX11_pushes (Cl_pushes k MX MM y1 y2 hy1 hy2 hk hMX hMM hR) (fun _ _ _ h => fmX12_pushes h (fun _ _ _ h2 => h2.2))
theorem Rl_swaps (k : Nat) (MX MM : Mem) (y1 y2 : Int) (hy1 : iR y1) (hy2 : iR y2) (hk : k < 512) (hMX : MR MX) (hMM : MR MM) (hR : Rel k MX MM) : qX11_swaps y1 y2 MX (fun z MX1 => qX12_swaps y1 y2 MM (fun b MM1 => Rel (k + 1) MX1 MM1)) :=
  fmX11_swaps (Cl_swaps k MX MM y1 y2 hy1 hy2 hk hMX hMM hR) (fun _ _ _ h => fmX12_swaps h (fun _ _ _ h2 => h2.2))
theorem Rl_hour (k : Nat) (MX MM : Mem)  (hk : k < 512) (hMX : MR MX) (hMM : MR MM) (hR : Rel k MX MM) : qX11_hour  MX (fun z MX1 => qX12_hour  MM (fun b MM1 => Rel (k + 1) MX1 MM1)) :=
  fmX11_hour (Cl_hour k MX MM   hk hMX hMM hR) (fun _ _ _ h => fmX12_hour h (fun _ _ _ h2 => h2.2))
theorem Rl_undo (k : Nat) (MX MM : Mem)  (hk : k < 512) (hMX : MR MX) (hMM : MR MM) (hR : Rel k MX MM) : qX11_undo  MX (fun z MX1 => qX12_undo  MM (fun b MM1 => Rel (k + 1) MX1 MM1)) :=
  fmX11_undo (Cl_undo k MX MM   hk hMX hMM hR) (fun _ _ _ h => fmX12_undo h (fun _ _ _ h2 => h2.2))
theorem Rl_line (k : Nat) (MX MM : Mem)  (hk : k < 512) (hMX : MR MX) (hMM : MR MM) (hR : Rel k MX MM) : qX11_line  MX (fun z MX1 => qX12_line  MM (fun b MM1 => Rel (k + 1) MX1 MM1)) :=
  Rk_line k MX MM   hk hMX hMM hR
theorem Rl_ahead (k : Nat) (MX MM : Mem) (y1 : Int) (hy1 : iR y1) (hk : k < 512) (hMX : MR MX) (hMM : MR MM) (hR : Rel k MX MM) : qX11_ahead y1 MX (fun z MX1 => qX12_ahead y1 MM (fun b MM1 => Rel (k + 1) MX1 MM1)) :=
  Rk_ahead k MX MM y1 hy1 hk hMX hMM hR
theorem Rl_arrives (k : Nat) (MX MM : Mem) (y1 : Int) (hy1 : iR y1) (hk : k < 512) (hMX : MR MX) (hMM : MR MM) (hR : Rel k MX MM) : qX11_arrives y1 MX (fun z MX1 => qX12_arrives y1 MM (fun b MM1 => Rel (k + 1) MX1 MM1)) :=
  Rk_arrives k MX MM y1 hy1 hk hMX hMM hR
theorem Rl_jam (k : Nat) (MX MM : Mem) (y1 : Int) (hy1 : iR y1) (hk : k < 512) (hMX : MR MX) (hMM : MR MM) (hR : Rel k MX MM) : qX11_jam y1 MX (fun z MX1 => qX12_jam y1 MM (fun b MM1 => Rel (k + 1) MX1 MM1)) :=
  Rk_jam k MX MM y1 hy1 hk hMX hMM hR
theorem Rl_passes (k : Nat) (MX MM : Mem) (y1 y2 : Int) (hy1 : iR y1) (hy2 : iR y2) (hk : k < 512) (hMX : MR MX) (hMM : MR MM) (hR : Rel k MX MM) : qX11_passes y1 y2 MX (fun z MX1 => qX12_passes y1 y2 MM (fun b MM1 => Rel (k + 1) MX1 MM1)) :=
  Rk_passes k MX MM y1 y2 hy1 hy2 hk hMX hMM hR
theorem Rl_ends (k : Nat) (MX MM : Mem) (y1 : Int) (hy1 : iR y1) (hk : k < 512) (hMX : MR MX) (hMM : MR MM) (hR : Rel k MX MM) : qX11_ends y1 MX (fun z MX1 => qX12_ends y1 MM (fun b MM1 => Rel (k + 1) MX1 MM1)) :=
  Rk_ends k MX MM y1 hy1 hk hMX hMM hR
theorem Rl_right (k : Nat) (MX MM : Mem)  (hk : k < 512) (hMX : MR MX) (hMM : MR MM) (hR : Rel k MX MM) : qX11_right  MX (fun z MX1 => qX12_right  MM (fun b MM1 => Rel (k + 1) MX1 MM1)) :=
  Rk_right k MX MM   hk hMX hMM hR
theorem Rl_order (k : Nat) (MX MM : Mem)  (hk : k < 512) (hMX : MR MX) (hMM : MR MM) (hR : Rel k MX MM) : qX11_order  MX (fun z MX1 => qX12_order  MM (fun b MM1 => Rel (k + 1) MX1 MM1)) :=
  Rk_order k MX MM   hk hMX hMM hR
theorem Rl_stands (k : Nat) (MX MM : Mem) (y1 : Int) (hy1 : iR y1) (hk : k < 512) (hMX : MR MX) (hMM : MR MM) (hR : Rel k MX MM) : qX11_stands y1 MX (fun z MX1 => qX12_stands y1 MM (fun b MM1 => Rel (k + 1) MX1 MM1)) :=
  Rk_stands k MX MM y1 hy1 hk hMX hMM hR
theorem Rl_when (k : Nat) (MX MM : Mem) (y1 : Int) (hy1 : iR y1) (hk : k < 512) (hMX : MR MX) (hMM : MR MM) (hR : Rel k MX MM) : qX11_when y1 MX (fun z MX1 => qX12_when y1 MM (fun b MM1 => Rel (k + 1) MX1 MM1)) :=
  Rk_when k MX MM y1 hy1 hk hMX hMM hR
theorem Rl_mends (k : Nat) (MX MM : Mem) (y1 : Int) (hy1 : iR y1) (hk : k < 512) (hMX : MR MX) (hMM : MR MM) (hR : Rel k MX MM) : qX11_mends y1 MX (fun z MX1 => qX12_mends y1 MM (fun b MM1 => Rel (k + 1) MX1 MM1)) :=
  Rk_mends k MX MM y1 hy1 hk hMX hMM hR
theorem Rl_misleads (k : Nat) (MX MM : Mem)  (hk : k < 512) (hMX : MR MX) (hMM : MR MM) (hR : Rel k MX MM) : qX11_misleads  MX (fun z MX1 => qX12_misleads  MM (fun b MM1 => Rel (k + 1) MX1 MM1)) :=
  Rk_misleads k MX MM   hk hMX hMM hR
theorem Rl_crowd (k : Nat) (MX MM : Mem)  (hk : k < 512) (hMX : MR MX) (hMM : MR MM) (hR : Rel k MX MM) : qX11_crowd  MX (fun z MX1 => qX12_crowd  MM (fun b MM1 => Rel (k + 1) MX1 MM1)) :=
  Rk_crowd k MX MM   hk hMX hMM hR
theorem Rl_shares (k : Nat) (MX MM : Mem) (y1 : Int) (hy1 : iR y1) (hk : k < 512) (hMX : MR MX) (hMM : MR MM) (hR : Rel k MX MM) : qX11_shares y1 MX (fun z MX1 => qX12_shares y1 MM (fun b MM1 => Rel (k + 1) MX1 MM1)) :=
  Rk_shares k MX MM y1 hy1 hk hMX hMM hR
theorem Rl_strangers (k : Nat) (MX MM : Mem)  (hk : k < 512) (hMX : MR MX) (hMM : MR MM) (hR : Rel k MX MM) : qX11_strangers  MX (fun z MX1 => qX12_strangers  MM (fun b MM1 => Rel (k + 1) MX1 MM1)) :=
  Rk_strangers k MX MM   hk hMX hMM hR
theorem Rl_doubts (k : Nat) (MX MM : Mem)  (hk : k < 512) (hMX : MR MX) (hMM : MR MM) (hR : Rel k MX MM) : qX11_doubts  MX (fun z MX1 => qX12_doubts  MM (fun b MM1 => Rel (k + 1) MX1 MM1)) :=
  Rk_doubts k MX MM   hk hMX hMM hR
theorem Rl_heard (k : Nat) (MX MM : Mem) (y1 y2 : Int) (hy1 : iR y1) (hy2 : iR y2) (hk : k < 512) (hMX : MR MX) (hMM : MR MM) (hR : Rel k MX MM) : qX11_heard y1 y2 MX (fun z MX1 => qX12_heard y1 y2 MM (fun b MM1 => Rel (k + 1) MX1 MM1)) :=
  fmX11_heard (Cl_heard k MX MM y1 y2 hy1 hy2 hk hMX hMM hR) (fun _ _ _ h => fmX12_heard h (fun _ _ _ h2 => h2.2))
theorem Rl_forget (k : Nat) (MX MM : Mem)  (hk : k < 512) (hMX : MR MX) (hMM : MR MM) (hR : Rel k MX MM) : qX11_forget  MX (fun z MX1 => qX12_forget  MM (fun b MM1 => Rel (k + 1) MX1 MM1)) :=
  fmX11_forget (Cl_forget k MX MM   hk hMX hMM hR) (fun _ _ _ h => fmX12_forget h (fun _ _ _ h2 => h2.2))
theorem Rl_fits (k : Nat) (MX MM : Mem)  (hk : k < 512) (hMX : MR MX) (hMM : MR MM) (hR : Rel k MX MM) : qX11_fits  MX (fun z MX1 => qX12_fits  MM (fun b MM1 => Rel (k + 1) MX1 MM1)) :=
  Rk_fits k MX MM   hk hMX hMM hR
theorem Rl_rains (k : Nat) (MX MM : Mem) (y1 y2 y3 : Int) (hy1 : iR y1) (hy2 : iR y2) (hy3 : iR y3) (hk : k < 512) (hMX : MR MX) (hMM : MR MM) (hR : Rel k MX MM) : qX11_rains y1 y2 y3 MX (fun z MX1 => qX12_rains y1 y2 y3 MM (fun b MM1 => Rel (k + 1) MX1 MM1)) :=
  fmX11_rains (Cl_rains k MX MM y1 y2 y3 hy1 hy2 hy3 hk hMX hMM hR) (fun _ _ _ h => fmX12_rains h (fun _ _ _ h2 => h2.2))
theorem Rl_law (k : Nat) (MX MM : Mem)  (hk : k < 512) (hMX : MR MX) (hMM : MR MM) (hR : Rel k MX MM) : qX11_law  MX (fun z MX1 => qX12_law  MM (fun b MM1 => z = b ∧ Rel (k + 1) MX1 MM1)) :=
  Cl_law k MX MM   hk hMX hMM hR
theorem Rl_rests (k : Nat) (MX MM : Mem) (y1 : Int) (hy1 : iR y1) (hk : k < 512) (hMX : MR MX) (hMM : MR MM) (hR : Rel k MX MM) : qX11_rests y1 MX (fun z MX1 => qX12_rests y1 MM (fun b MM1 => Rel (k + 1) MX1 MM1)) :=
  fmX11_rests (Cl_rests k MX MM y1 hy1 hk hMX hMM hR) (fun _ _ _ h => fmX12_rests h (fun _ _ _ h2 => h2.2))
theorem Rl_years (k : Nat) (MX MM : Mem) (y1 y2 : Int) (hy1 : iR y1) (hy2 : iR y2) (hk : k < 512) (hMX : MR MX) (hMM : MR MM) (hR : Rel k MX MM) : qX11_years y1 y2 MX (fun z MX1 => qX12_years y1 y2 MM (fun b MM1 => Rel (k + 1) MX1 MM1)) :=
  Rk_years k MX MM y1 y2 hy1 hy2 hk hMX hMM hR
theorem Rl_keep (k : Nat) (MX MM : Mem) (y1 : Int) (hy1 : iR y1) (hk : k < 512) (hMX : MR MX) (hMM : MR MM) (hR : Rel k MX MM) : qX11_keep y1 MX (fun z MX1 => qX12_keep y1 MM (fun b MM1 => Rel (k + 1) MX1 MM1)) :=
  fmX11_keep (Cl_keep k MX MM y1 hy1 hk hMX hMM hR) (fun _ _ _ h => fmX12_keep h (fun _ _ _ h2 => h2.2))
theorem Rl_again (k : Nat) (MX MM : Mem) (y1 : Int) (hy1 : iR y1) (hk : k < 512) (hMX : MR MX) (hMM : MR MM) (hR : Rel k MX MM) : qX11_again y1 MX (fun z MX1 => qX12_again y1 MM (fun b MM1 => Rel (k + 1) MX1 MM1)) :=
  fmX11_again (Cl_again k MX MM y1 hy1 hk hMX hMM hR) (fun _ _ _ h => fmX12_again h (fun _ _ _ h2 => h2.2))
theorem Rl_count (k : Nat) (MX MM : Mem) (y1 : Int) (hy1 : iR y1) (hk : k < 512) (hMX : MR MX) (hMM : MR MM) (hR : Rel k MX MM) : qX11_count y1 MX (fun z MX1 => qX12_count y1 MM (fun b MM1 => Rel (k + 1) MX1 MM1)) :=
  Rk_count k MX MM y1 hy1 hk hMX hMM hR
theorem Rl_row (k : Nat) (MX MM : Mem) (y1 : Int) (hy1 : iR y1) (hk : k < 512) (hMX : MR MX) (hMM : MR MM) (hR : Rel k MX MM) : qX11_row y1 MX (fun z MX1 => qX12_row y1 MM (fun b MM1 => Rel (k + 1) MX1 MM1)) (fun MX1 => qX12_row y1 MM (fun b MM1 => Rel (k + 1) MX1 MM1)) :=
  Rk_row k MX MM y1 hy1 hk hMX hMM hR
theorem BM_0 {k : Nat} {j : Int} (h : ¬ (k = 1 ∧ j = 3)) (h2 : ¬ (k = 1 ∧ j = 7)) : BM 0 k j 0 := by
  by_cases c : k = 5 ∨ k = 6
  · exact (bm_n c).mpr ⟨by omega, by omega, by omega, by omega⟩
  by_cases c15 : k = 15
  · subst c15; exact bm_c15.mpr ⟨by omega, by omega, by omega, by omega⟩
  by_cases c31 : k = 31
  · subst c31; exact bm_c31.mpr ⟨by omega, by omega, by omega, by omega⟩
  by_cases c1 : k = 1
  · subst c1
    by_cases d1 : j = 1
    · subst d1; exact bm_c1_1.mpr (by decide)
    by_cases d3 : j = 3
    · exact absurd ⟨rfl, d3⟩ h
    by_cases d4 : j = 4
    · subst d4; exact bm_c1_4.mpr (by decide)
    by_cases d5 : j = 5
    · subst d5; exact bm_c1_5.mpr (by decide)
    by_cases d6 : j = 6
    · subst d6; exact bm_c1_6.mpr (by decide)
    by_cases d7 : j = 7
    · exact absurd ⟨rfl, d7⟩ h2
    by_cases d14 : j = 14
    · subst d14; exact bm_c1_14.mpr (by decide)
    by_cases d15 : j = 15
    · subst d15; exact bm_c1_15.mpr (by decide)
    by_cases d16 : j = 16
    · subst d16; exact bm_c1_16.mpr (by decide)
    by_cases d20 : j = 20
    · subst d20; exact bm_c1_20.mpr (by decide)
    by_cases d24 : j = 24
    · subst d24; exact bm_c1_24.mpr (by decide)
    by_cases d25 : j = 25
    · subst d25; exact bm_c1_25.mpr (by decide)
    by_cases d28 : j = 28
    · subst d28; exact bm_c1_28.mpr (by decide)
    by_cases d35 : j = 35
    · subst d35; exact bm_c1_35.mpr (by decide)
    by_cases d39 : j = 39
    · subst d39; exact bm_c1_39.mpr (by decide)
    by_cases d45 : j = 45
    · subst d45; exact bm_c1_45.mpr (by decide)
    simp [BM, d1, d3, d4, d5, d6, d7, d14, d15, d16, d20, d24, d25, d28, d35, d39, d45]
  by_cases c3 : k = 3
  · subst c3; exact bm_c3.mpr (by decide)
  by_cases c7 : k = 7
  · subst c7; exact bm_c7.mpr (by decide)
  by_cases c8 : k = 8
  · subst c8; exact bm_c8.mpr (by decide)
  by_cases c9 : k = 9
  · subst c9; exact bm_c9.mpr (by decide)
  by_cases c18 : k = 18
  · subst c18; exact bm_c18.mpr (by decide)
  by_cases c20 : k = 20
  · subst c20; exact bm_c20.mpr (by decide)
  by_cases c21 : k = 21
  · subst c21; exact bm_c21.mpr (by decide)
  by_cases c22 : k = 22
  · subst c22; exact bm_c22.mpr (by decide)
  unfold BM
  rw [if_neg c, if_neg (by omega)]
  simp [c1, c3, c7, c8, c9, c18, c20, c21, c22]
theorem BX_0 {k : Nat} {j : Int} (h : ¬ (k = 158 ∧ j = 1)) : BX k j 0 := by
  by_cases h0 : k = 0
  · simp [BX, h0]
  by_cases h155 : k < 155
  · unfold BX
    rw [if_neg h0, if_pos h155]
    by_cases r0 : (k - 1) % 7 = 0
    · rw [if_pos r0]
      by_cases d6 : j = 6
      · rw [if_pos d6]; decide
      · rw [if_neg d6]
        by_cases d7 : j = 7
        · rw [if_pos d7]; decide
        · rw [if_neg d7]; trivial
    · rw [if_neg r0]
      by_cases r1 : (k - 1) % 7 = 1
      · rw [if_pos r1]; decide
      · rw [if_neg r1]
        by_cases r3 : (k - 1) % 7 = 3
        · rw [if_pos r3]; decide
        · rw [if_neg r3]
          by_cases r4 : (k - 1) % 7 = 4
          · rw [if_pos r4]; decide
          · rw [if_neg r4]
            by_cases r5 : (k - 1) % 7 = 5
            · rw [if_pos r5]; decide
            · rw [if_neg r5]; trivial
  by_cases c156 : k = 156
  · subst c156
    by_cases d1 : j = 1
    · subst d1; exact bx_c156_1.mpr (by decide)
    by_cases d2 : j = 2
    · subst d2; exact bx_c156_2.mpr (by decide)
    by_cases d3 : j = 3
    · subst d3; exact bx_c156_3.mpr (by decide)
    simp [BX, d1, d2, d3]
  by_cases c157 : k = 157
  · subst c157; exact bx_c157.mpr (by decide)
  by_cases c158 : k = 158
  · subst c158
    by_cases d1 : j = 1
    · exact absurd ⟨rfl, d1⟩ h
    by_cases d3 : j = 3
    · subst d3; exact bx_c158_3.mpr (by decide)
    simp [BX, d1, d3]
  by_cases c163 : k = 163
  · subst c163
    by_cases d1 : j = 1
    · subst d1; exact bx_c163_1.mpr (by decide)
    by_cases d2 : j = 2
    · subst d2; exact bx_c163_2.mpr (by decide)
    simp [BX, d1, d2]
  by_cases c167 : k = 167
  · subst c167
    by_cases d1 : j = 1
    · subst d1; exact bx_c167_1.mpr (by decide)
    simp [BX, d1]
  by_cases c168 : k = 168
  · subst c168
    by_cases d1 : j = 1
    · subst d1; exact bx_c168_1.mpr (by decide)
    simp [BX, d1]
  by_cases c179 : k = 179
  · subst c179
    by_cases d2 : j = 2
    · subst d2; exact bx_c179_2.mpr (by decide)
    simp [BX, d2]
  by_cases c180 : k = 180
  · subst c180; exact bx_c180.mpr (by decide)
  by_cases c182 : k = 182
  · subst c182
    by_cases d2 : j = 2
    · subst d2; exact bx_c182_2.mpr (by decide)
    simp [BX, d2]
  by_cases c185 : k = 185
  · subst c185
    by_cases d1 : j = 1
    · subst d1; exact bx_c185_1.mpr (by decide)
    by_cases d2 : j = 2
    · subst d2; exact bx_c185_2.mpr (by decide)
    simp [BX, d1, d2]
  by_cases cl : k = 187 ∨ k = 192
  · by_cases d4 : j = 4
    · subst d4; exact (bx_l4 cl).mpr (by decide)
    · exact bx_lf0 cl d4
  by_cases cr : 170 ≤ k ∧ k ≤ 178
  · have e : k = 170 + ((k : Int) - 170).toNat := by omega
    rw [e]
    exact (bx_sh (e := (k : Int) - 170) (by omega) (by omega)).mpr ⟨by omega, by omega⟩
  unfold BX
  rw [if_neg h0, if_neg h155]
  simp only [if_neg cl, if_neg cr, if_neg c156, if_neg c157, if_neg c158, if_neg c163, if_neg c167, if_neg c168, if_neg c179, if_neg c180, if_neg c182, if_neg c185]
theorem IX_MX0 : IX MX0 := by
  refine ⟨fun k j => ?_, Or.inl ⟨by simp [MX0], by simp [MX0]⟩, fun k j hk he => ?_⟩
  · unfold MX0
    split
    · rename_i c; rw [c.1, c.2]; exact bx_c158_1.mpr (by decide)
    · rename_i c1
      split
      · rename_i c; rw [c.1, c.2]; exact bx_c158_3.mpr (by decide)
      · split
        · rename_i c; rw [c.1, c.2]; simp [BX]
        · split
          · rename_i c; rw [c.1, c.2]; simp [BX]
          · split
            · rename_i c; rw [c.1, c.2]; simp [BX]
            · exact BX_0 c1
  · exfalso
    have : MX0 (k + 1) j = 0 := by
      unfold MX0
      rcases hk with rfl | rfl <;> simp
    omega
theorem IM_MM0 : IM 0 MM0 := by
  refine ⟨fun k j => ?_, ?_⟩
  · unfold MM0
    split
    · rename_i c; rw [c.1, c.2]; exact bm_c1_3.mpr (by decide)
    · rename_i c1
      split
      · rename_i c; rw [c.1, c.2]; exact bm_c1_7.mpr (by decide)
      · rename_i c2
        exact BM_0 c1 c2
  · intro j hj
    exfalso
    have : MM0 1 24 = 0 := by simp [MM0]
    omega
theorem Rel_init : qInit (fun MX => Rel 0 MX MM0) := by
  unfold qInit
  refine gX2_plain (k0 := 187) IX_MX0 (Or.inl rfl) ?_
  intro M1 h1 f1 o1
  refine ⟨h1.l17, ?_⟩
  have e17 : (M1 155 17).toNat = 192 := by rw [f1 155 17 (by omega)]; simp [MX0]
  rw [e17]
  refine gX2_plain (k0 := 192) h1 (Or.inr rfl) ?_
  intro M2 h2 f2 _
  have K : ∀ (k : Nat) (j : Int), k < 187 → M2 k j = MX0 k j := fun k j h => by rw [f2 k j (by omega), f1 k j (by omega)]
  have Z : ∀ (k : Nat) (j : Int), k < 155 → M2 k j = 0 := fun k j h => by
    rw [K k j (by omega)]
    unfold MX0
    rw [if_neg (by omega), if_neg (by omega), if_neg (by omega), if_neg (by omega), if_neg (by omega)]
  have Y : ∀ (k : Nat) (j : Int), ¬ (k = 1 ∧ j = 3) → ¬ (k = 1 ∧ j = 7) → MM0 k j = 0 := fun k j h h' => by
    unfold MM0
    rw [if_neg h, if_neg h']
  have C : ∀ (k : Nat) (j : Int), ¬ (k = 1 ∧ j = 3) → ¬ (k = 1 ∧ j = 7) → cut MM0 k j = 0 := fun k j h h' => by
    unfold cut
    split
    · exact Y k j h h'
    · rfl
  have c3 : cut MM0 1 3 = 4 := by rw [cut13]; simp [MM0]
  have c4 : cut MM0 1 4 = 0 := C 1 4 (by omega) (by omega)
  have c5 : cut MM0 1 5 = 0 := C 1 5 (by omega) (by omega)
  have c7 : cut MM0 1 7 = 1 := by rw [cut17]; simp [MM0]
  have e0 : eO (cut MM0) = 0 := by show (cut MM0 1 5).toNat = 0; rw [c5]; rfl
  have eh : eH (cut MM0) = 0 := by show (cut MM0 1 4).toNat = 0; rw [c4]; rfl
  refine ⟨h2, IM_MM0.mono (by omega), ?_, ?_, fun j a q => ?_, ⟨?_, ?_, ?_, ?_, ?_, ?_⟩, FOLS.z (Y 1 5 (by omega) (by omega)), HRD.nil (by rw [K 182 2 (by omega)]; simp [MX0])⟩
  · rw [K 156 1 (by omega)]; simp [MX0, MM0]
  · rw [K 182 2 (by omega)]; simp [MX0, MM0]
  · rw [K 156 1 (by omega)] at q
    simp [MX0] at q
    omega
  · unfold STR
    rw [c3, c4, c5, c7]
    refine ⟨by rw [K 158 1 (by omega)]; simp [MX0], by decide, fun c hc => ?_, by rw [K 158 3 (by omega)]; simp [MX0], by decide, fun j p q => ?_, by decide, by decide, fun m p q => by omega⟩
    · have e2 : M2 158 2 = 0 := by rw [K 158 2 (by omega)]; simp [MX0]
      rw [e2, show iI 0 = (0 : Int32) from rfl, b_0, C 2 c (by omega) (by omega)]
      exact ⟨fun q => absurd q (by decide), fun q => absurd rfl q⟩
    · rw [K 159 j (by omega), C 4 j (by omega) (by omega)]
      unfold MX0
      rw [if_neg (by omega), if_neg (by omega), if_neg (by omega), if_neg (by omega), if_neg (by omega)]
  · have e16 : (M2 155 16).toNat = 187 := by rw [K 155 16 (by omega)]; simp [MX0]
    rw [e16]
    refine Or.inr ⟨C 1 24 (by omega) (by omega), ?_⟩
    have o2 : ROl 187 M2 plO := o1.fr (f2 _ _ (by omega)) (f2 _ _ (by omega)) (funext fun j => f2 _ j (by omega)) (funext fun j => f2 _ j (by omega))
    exact ⟨o2.1, SO_SCd o2.2 SCd_pl⟩
  · unfold SC
    rw [c4, c5, e0]
    refine ⟨Z 1 6 (by omega), Z 1 7 (by omega), fun j p q => ?_, fun j p q => ?_, ?_, fun m p q => ?_, fun m p q => ?_, fun m p q => ?_, fun m p q => ?_, ?_, ?_⟩
    · rw [Z _ _ (by omega), Y 5 _ (by omega) (by omega)]
    · rw [Z _ _ (by omega), Y 5 _ (by omega) (by omega)]
    · rw [Z 1 8 (by omega), Y 5 _ (by omega) (by omega)]
    · rw [Z _ _ (by omega), Y 5 _ (by omega) (by omega)]
    · rw [Z _ _ (by omega), C 3 _ (by omega) (by omega)]
    · rw [Z _ _ (by omega), Y 5 _ (by omega) (by omega)]
    · rw [Z _ _ (by omega), Y 5 _ (by omega) (by omega)]
    · rw [Z 1 10 (by omega), Y 5 _ (by omega) (by omega)]
    · rw [Z 1 9 (by omega)]
      rfl
  · unfold WR
    rw [c4, c5, eh]
    refine ⟨fun i j p q => by omega, fun i p q => by omega, fun i p q => by omega, ?_, ?_⟩
    · rw [Y 5 12 (by omega) (by omega)]
      rfl
    · rw [Y 5 37 (by omega) (by omega)]
      decide
  · exact HIS.nil (by rw [K 163 2 (by omega)]; simp [MX0]) (Y 1 28 (by omega) (by omega))
  · intro i p q
    have x0 : M2 166 i = 0 := by
      rw [K 166 i (by omega)]
      unfold MX0
      rw [if_neg (by omega), if_neg (by omega), if_neg (by omega), if_neg (by omega), if_neg (by omega)]
    exact ⟨⟨fun _ => Y 29 i (by omega) (by omega), fun _ => x0⟩, fun h => absurd x0 h⟩
end
