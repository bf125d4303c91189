section
/-! THE CALLS over the relation of the whole state -/
theorem up2_id (M : Mem) (k : Nat) (j : Int) : up2 M k j (M k j) = M := by
  funext i x
  rw [up2_a]
  by_cases c : i = k
  · rw [if_pos c]
    by_cases c2 : x = j
    · rw [if_pos c2, c, c2]
    · rw [if_neg c2]
  · rw [if_neg c]
theorem Cl_sign (k : Nat) (MX MM : Mem) (y1 : Int) (hy1 : iR y1) (hk : k < 512) (hMX : MR MX) (hMM : MR MM) (hR : Rel k MX MM) : qX11_sign y1 MX (fun z MX1 => qX12_sign y1 MM (fun b MM1 => z = b ∧ Rel (k + 1) MX1 MM1)) := by
  refine fmX11_sign (gX11_signC (p1 := y1) hR.1 (Q := fun z M' => IX M' ∧ (77 ≤ MX 156 1 ∧ z = -1 ∧ M' 156 1 = MX 156 1 ∧ (∀ j, M' 157 j = MX 157 j) ∨ MX 156 1 ≤ 76 ∧ z = MX 156 1 + 4 ∧ M' 156 1 = MX 156 1 + 4 ∧ (∀ j, 0 ≤ j → j < MX 156 1 → M' 157 j = MX 157 j) ∧ (∀ i, 0 ≤ i → i < 4 → M' 157 (MX 156 1 + i) = byt y1 i))) (fun z M' h q => ⟨h, q⟩)) ?_
  intro z MX1 fX hX
  refine fmX12_sign (gX12_signC (p1 := y1) hR.2.1 (Q := fun z M' => IM (60000 * (k : Int)) M' ∧ (77 ≤ MM 1 14 ∧ z = -1 ∧ M' 1 14 = MM 1 14 ∧ (∀ j, M' 7 j = MM 7 j) ∨ MM 1 14 ≤ 76 ∧ z = MM 1 14 + 4 ∧ M' 1 14 = MM 1 14 + 4 ∧ (∀ j, 0 ≤ j → j < MM 1 14 → M' 7 j = MM 7 j) ∧ (∀ i, 0 ≤ i → i < 4 → M' 7 (MM 1 14 + i) = byt y1 i))) (fun z M' h q => ⟨h, q⟩)) ?_
  intro b MM1 fM hM
  have e := hR.2.2.1
  have e2 : MX1 182 2 = MM1 1 45 := by rw [fX 182 2 (by omega), fM 1 45 (by omega)]; exact hR.2.2.2.1
  have eS : STA (cut MM1) MX1 MM1 := by
    rw [cut_of (fun k j c => fM k j (by omega))]
    exact hR.S.fr hR.E0 hR.1 (fun k j q => fX k j (by omega)) (fun k j q => fM k j (by omega))
  obtain ⟨iX, gX⟩ := hX
  obtain ⟨iM, gM⟩ := hM
  have T := hR.2.2.2.2.1
  rcases gX with g | g
  · rcases gM with h | h
    · exact ⟨by omega, iX, iM.mono (by omega), by omega, e2, fun j a q => by rw [g.2.2.2, h.2.2.2]; exact T j a (by omega), eS, hR.F.fr (fun k j q => fM k j (by omega)), hR.H.fr (fX 182 2 (by omega)) (fun j => ⟨fX 183 j (by omega), fX 184 j (by omega), fM 26 j (by omega), fM 27 j (by omega)⟩)⟩
    · exact absurd g.1 (by omega)
  · rcases gM with h | h
    · exact absurd g.1 (by omega)
    · refine ⟨by omega, iX, iM.mono (by omega), by omega, e2, fun j a q => ?_, eS, hR.F.fr (fun k j q => fM k j (by omega)), hR.H.fr (fX 182 2 (by omega)) (fun j => ⟨fX 183 j (by omega), fX 184 j (by omega), fM 26 j (by omega), fM 27 j (by omega)⟩)⟩
      by_cases cj : j < MX 156 1
      · rw [g.2.2.2.1 j a cj, h.2.2.2.1 j a (by omega)]
        exact T j a cj
      · have u := g.2.2.2.2 (j - MX 156 1) (by omega) (by omega)
        have v := h.2.2.2.2 (j - MX 156 1) (by omega) (by omega)
        rw [show MX 156 1 + (j - MX 156 1) = j from by omega] at u
        rw [show MM 1 14 + (j - MX 156 1) = j from by omega] at v
        rw [u, v]
theorem Cl_end (k : Nat) (MX MM : Mem) (y1 : Int) (hy1 : iR y1) (hk : k < 512) (hMX : MR MX) (hMM : MR MM) (hR : Rel k MX MM) : qX11_end y1 MX (fun z MX1 => qX12_end y1 MM (fun b MM1 => z = b ∧ Rel (k + 1) MX1 MM1)) := by
  refine fmX11_end (gX11_end (p1 := y1) hR.1 (Q := fun z M' => IX M' ∧ ((0 ≤ y1 ∧ y1 ≤ MX 156 1) ∧ z = 1 ∧ M' 156 1 = y1 ∨ (y1 < 0 ∨ MX 156 1 < y1) ∧ z = 0 ∧ M' 156 1 = MX 156 1)) (fun z M' h q => ⟨h, q⟩)) ?_
  intro z MX1 fX hX
  refine fmX12_end (gX12_end (p1 := y1) hR.2.1 (Q := fun z M' => IM (60000 * (k : Int)) M' ∧ ((0 ≤ y1 ∧ y1 ≤ MM 1 14) ∧ z = 1 ∧ M' 1 14 = y1 ∨ (y1 < 0 ∨ MM 1 14 < y1) ∧ z = 0 ∧ M' 1 14 = MM 1 14)) (fun z M' h q => ⟨h, q⟩)) ?_
  intro b MM1 fM hM
  have e := hR.2.2.1
  have e2 : MX1 182 2 = MM1 1 45 := by rw [fX 182 2 (by omega), fM 1 45 (by omega)]; exact hR.2.2.2.1
  have eS : STA (cut MM1) MX1 MM1 := by
    rw [cut_of (fun k j c => fM k j (by omega))]
    exact hR.S.fr hR.E0 hR.1 (fun k j q => fX k j (by omega)) (fun k j q => fM k j (by omega))
  obtain ⟨iX, gX⟩ := hX
  obtain ⟨iM, gM⟩ := hM
  exact ⟨by omega, iX, iM.mono (by omega), by omega, e2, fun j a q => by rw [fX 157 j (by omega), fM 7 j (by omega)]; exact hR.2.2.2.2.1 j a (by omega), eS, hR.F.fr (fun k j q => fM k j (by omega)), hR.H.fr (fX 182 2 (by omega)) (fun j => ⟨fX 183 j (by omega), fX 184 j (by omega), fM 26 j (by omega), fM 27 j (by omega)⟩)⟩
theorem Cl_avenue (k : Nat) (MX MM : Mem)  (hk : k < 512) (hMX : MR MX) (hMM : MR MM) (hR : Rel k MX MM) : qX11_avenue  MX (fun z MX1 => qX12_avenue  MM (fun b MM1 => z = b ∧ Rel (k + 1) MX1 MM1)) := by
  refine fmX11_avenue (gX11_avenueC hR.1 (Q := fun z M' => ∃ q, z = avz (MX 156 1) q ∧ IX M' ∧ AV (MX 157) (MX 156 1) q ∧ M' 156 1 = 0 ∧ (q = MX 156 1 ∧ 4 ≤ q → Ks kAv MX M' ∧ M' 158 1 = MX 156 1 ∧ (∀ c : Nat, c < 32 → (bt (iI (M' 158 2)) c = true ↔ (c : Int) < MX 156 1 ∧ MX 157 c = 99)) ∧ M' 163 2 = 0 ∧ (∀ i, 0 ≤ i → i < 3 → M' 166 i = 0) ∧ M' 1 6 = 0 ∧ M' 1 7 = 0 ∧ M' 1 8 = 0 ∧ M' 1 9 = 0 ∧ M' 1 10 = 0) ∧ (¬ (q = MX 156 1 ∧ 4 ≤ q) → Ks (fun k j => k = 156 ∧ j = 1) MX M')) (fun q M' i a l y n => ⟨q, rfl, i, a, l, y, n⟩)) ?_
  intro z MX1 fX hX
  obtain ⟨q, ez, iX, aX, lX, yX, nX⟩ := hX
  refine fmX12_avenue (gX12_avenueC hR.2.1 (by omega) (Q := fun z M' => ∃ q, z = avz (MM 1 14) q ∧ IM (60000 * (k : Int) + 1) M' ∧ AV (MM 7) (MM 1 14) q ∧ M' 1 14 = 0 ∧ (q = MM 1 14 ∧ 4 ≤ q → FrJ kAw MM M' ∧ M' 1 3 = MM 1 14 ∧ (∀ i, 0 ≤ i → i < MM 1 14 → (M' 2 i = 0 ↔ MM 7 i ≠ 99)) ∧ M' 1 4 = 0 ∧ M' 1 5 = 0 ∧ M' 5 = up (up (MM 5) 12 0) 37 0 ∧ M' 1 28 = 0 ∧ (∀ i, 0 ≤ i → i < 3 → M' 29 i = 0)) ∧ (¬ (q = MM 1 14 ∧ 4 ≤ q) → FrJ (fun k j => k = 8 ∨ (k = 1 ∧ (j = 0 ∨ j = 14 ∨ j = 15 ∨ j = 16 ∨ j = 17))) MM M')) (fun q M' i a l y n => ⟨q, rfl, i, a, l, y, n⟩)) ?_
  intro b MM1 fM hM
  obtain ⟨q2, eb, iM, aM, lM, yM, nM⟩ := hM
  have e := hR.2.2.1
  rw [← e] at eb aM yM nM
  have eq := aX.uq aM hR.2.2.2.2.1
  subst eq
  have hF : FOLS MM1 := by
    by_cases c : q = MX 156 1 ∧ 4 ≤ q
    · obtain ⟨m0, m1, m2, m3, m4, m5, m6, m7⟩ := yM c
      exact FOLS.z m4
    · exact hR.F.fr (fun k j h => nM c k j (by omega))
  refine ⟨by rw [ez, eb], hR.t iX iM (by omega) lX lM (fX 182 2 (by omega)) (fM 1 45 (by omega)) (fun j => ⟨fX 183 j (by omega), fX 184 j (by omega), fM 26 j (by omega), fM 27 j (by omega)⟩) hF ?_⟩
  by_cases c : q = MX 156 1 ∧ 4 ≤ q
  · obtain ⟨x0, x1, x2, x3, x4, x5, x6, x7, x8, x9⟩ := yX c
    obtain ⟨m0, m1, m2, m3, m4, m5, m6, m7⟩ := yM c
    have ck : ∀ (k : Nat) (j : Int), cE k j → k ≠ 2 → ¬ (k = 1 ∧ (j = 3 ∨ j = 4 ∨ j = 5)) → cut MM1 k j = cut MM k j := by
      intro k j h1 h2 h3
      rw [cut_p h1, cut_p h1]
      exact m0 k j (by omega)
    have a30 := aX.1
    refine hR.S.avenue hR.1 (len := MX 156 1) (f := MX 157) (by omega) (by rw [cut13]; exact m1) (by rw [cut14]; exact m3) (by rw [cut15]; exact m4) (ck 1 7 (by omega) (by decide) (by omega)) (ck 1 24 (by omega) (by decide) (by omega)) (fun i p q => ?_) (funext fun j => ck 3 j (by omega) (by decide) (by omega)) (funext fun j => ck 4 j (by omega) (by decide) (by omega)) (funext fun j => ck 11 j (by omega) (by decide) (by omega)) x0 x1 x2 x3 x4 x5 x6 x7 x8 x9 m5 m6 m7
    rw [cut2, hR.2.2.2.2.1 i p q]
    exact m2 i p q
  · have x0 := nX c
    have m0 := nM c
    rw [cut_of (M0 := MM) (fun k j h => m0 k j (by omega))]
    exact hR.S.fr hR.E0 hR.1 (fun k j q => x0 k j (by omega)) (fun k j q => m0 k j (by omega))
theorem Cl_hearses (k : Nat) (MX MM : Mem)  (hk : k < 512) (hMX : MR MX) (hMM : MR MM) (hR : Rel k MX MM) : qX11_hearses  MX (fun z MX1 => qX12_hearses  MM (fun b MM1 => z = b ∧ Rel (k + 1) MX1 MM1)) := by
  have S := hR.S
  have e := hR.2.2.1
  have bL := bm_c1_14.mp (hR.2.1.bx 1 14)
  have eT : hsT (MX 157) (MX 156 1) (eG (cut MM)) (cut MM 1 4) (MM 5) = hsT (MM 7) (MM 1 14) (eG (cut MM)) (cut MM 1 4) (MM 5) := by
    rw [e]
    exact rdH_cg (fun j p q => hR.2.2.2.2.1 j p (by omega)) 7 _ _ 0 (Int.le_refl _) (by omega)
  have eA : hsA (MX 157) (MX 156 1) (eG (cut MM)) (cut MM 1 4) (MM 5) = hsA (MM 7) (MM 1 14) (eG (cut MM)) (cut MM 1 4) (MM 5) := by
    unfold hsA hsOK
    rw [eT, e]
  refine fmX11_hearses (gX11_hearses (E := cut MM) (r := MM 5) hR.1 S.1 S.2.2.1 (Q := fun z M' => z = hsA (MM 7) (MM 1 14) (eG (cut MM)) (cut MM 1 4) (MM 5) ∧ IX M' ∧ M' 156 1 = 0 ∧ (hsOK (MM 7) (MM 1 14) (eG (cut MM)) (cut MM 1 4) (MM 5) ∧ MM 1 14 ≠ 0 → Ks (fun k j => (1 ≤ k ∧ k ≤ 14) ∨ k = 156 ∨ (k = 163 ∧ j = 2)) MX M' ∧ M' 163 2 = 0 ∧ SC (up2 (cut MM) 1 4 (hsT (MM 7) (MM 1 14) (eG (cut MM)) (cut MM 1 4) (MM 5)).2.2.1) M' 1 (hsT (MM 7) (MM 1 14) (eG (cut MM)) (cut MM 1 4) (MM 5)).2.2.2) ∧ (¬ (hsOK (MM 7) (MM 1 14) (eG (cut MM)) (cut MM 1 4) (MM 5) ∧ MM 1 14 ≠ 0) → Ks (fun k j => (8 ≤ k ∧ k ≤ 14) ∨ k = 156) MX M')) (fun M' i l y n => by unfold hsOK at y n; rw [eT, e] at y n; exact ⟨eA, i, l, y, n⟩)) ?_
  intro z MX1 fX hX
  obtain ⟨ez, iX, lX, yX, nX⟩ := hX
  refine fmX12_hearses (gX12_hearses (E := cut MM) hR.2.1 (cut_CE MM) (by omega) (Q := fun z M' => z = hsA (MM 7) (MM 1 14) (eG (cut MM)) (cut MM 1 4) (MM 5) ∧ IM (60000 * (k : Int) + 1) M' ∧ M' 1 14 = 0 ∧ (hsOK (MM 7) (MM 1 14) (eG (cut MM)) (cut MM 1 4) (MM 5) ∧ MM 1 14 ≠ 0 → M' 1 4 = (hsT (MM 7) (MM 1 14) (eG (cut MM)) (cut MM 1 4) (MM 5)).2.2.1 ∧ M' 5 = (hsT (MM 7) (MM 1 14) (eG (cut MM)) (cut MM 1 4) (MM 5)).2.2.2 ∧ M' 1 28 = 0 ∧ M' 1 6 = MM 1 6 + 1 ∧ FrJ (fun k j => k = 5 ∨ k = 9 ∨ (k = 1 ∧ (j = 0 ∨ j = 4 ∨ j = 6 ∨ j = 14 ∨ j = 15 ∨ j = 16 ∨ j = 17 ∨ j = 20 ∨ j = 28))) MM M') ∧ (¬ (hsOK (MM 7) (MM 1 14) (eG (cut MM)) (cut MM 1 4) (MM 5) ∧ MM 1 14 ≠ 0) → FrJ (fun k j => k = 9 ∨ (k = 1 ∧ (j = 0 ∨ j = 14 ∨ j = 15 ∨ j = 16 ∨ j = 17 ∨ j = 20))) MM M' ∧ M' 1 6 = MM 1 6)) (fun M' i l y n => ⟨rfl, i, l, y, n⟩)) ?_
  intro b MM1 fM hM
  obtain ⟨eb, iM, lM, yM, nM⟩ := hM
  have hF : FOLS MM1 := by
    by_cases c : hsOK (MM 7) (MM 1 14) (eG (cut MM)) (cut MM 1 4) (MM 5) ∧ MM 1 14 ≠ 0
    · obtain ⟨m0, m1, m2, m3, m4⟩ := yM c
      refine FOLS.new S m2 m3 (fun i => m4 29 i (by omega)) (fun i => m4 30 i (by omega)) ?_
      rw [m1]
      exact (fol_rdH (E := cut MM) (f := MM 7) (t := min (MM 1 14) 17) (g := eG (cut MM)) (a := 0) (n := 7) hR.f hR.E0 S.2.2.2.1 ⟨Int.le_refl _, by omega⟩).e (by rw [m4 1 5 (by omega), cut15])
    · exact hR.F.fr (fun k j h => (nM c).1 k j (by omega))
  refine ⟨by rw [ez, eb], hR.t iX iM (by omega) lX lM (fX 182 2 (by omega)) (fM 1 45 (by omega)) (fun j => ⟨fX 183 j (by omega), fX 184 j (by omega), fM 26 j (by omega), fM 27 j (by omega)⟩) hF ?_⟩
  by_cases c : hsOK (MM 7) (MM 1 14) (eG (cut MM)) (cut MM 1 4) (MM 5) ∧ MM 1 14 ≠ 0
  · obtain ⟨x0, x1, x2⟩ := yX c
    obtain ⟨m0, m1, m2, m3, m4⟩ := yM c
    have E0 := hR.E0
    have eb' := E0.2
    have b := rdH_b (f := MM 7) (t := min (MM 1 14) 17) (g := eG (cut MM)) 7 (cut MM 1 4) (MM 5) 0 ⟨Int.le_refl _, by omega⟩ eb'.1 (by omega)
    have b' : cut MM 1 4 < (hsT (MM 7) (MM 1 14) (eG (cut MM)) (cut MM 1 4) (MM 5)).2.2.1 ∧ (hsT (MM 7) (MM 1 14) (eG (cut MM)) (cut MM 1 4) (MM 5)).2.2.1 ≤ 6 := by
      rcases b.2 with q | q
      · exact absurd (c.1.1.symm.trans q) (by decide)
      · exact q.2
    have W := WR.rds (E := cut MM) (f := MM 7) (t := min (MM 1 14) 17) eb'.2.2 7 (cut MM 1 4) (MM 5) 0 (by rw [show up2 (cut MM) 1 4 (cut MM 1 4) = cut MM from up2_id _ _ _]; exact S.2.2.2.1) eb'.1 ⟨Int.le_refl _, by omega⟩ c.1.1
    refine (S.hearses (H' := (hsT (MM 7) (MM 1 14) (eG (cut MM)) (cut MM 1 4) (MM 5)).2.2.1) (r' := (hsT (MM 7) (MM 1 14) (eG (cut MM)) (cut MM 1 4) (MM 5)).2.2.2) E0 hR.1 b' x0 x1 x2 m1 m2 m3 m4 W).c ?_
    funext k j
    by_cases h4 : k = 1 ∧ j = 4
    · rw [h4.1, h4.2, cut14, up2_s]
      exact m0
    · have hu : up2 (cut MM) 1 4 (hsT (MM 7) (MM 1 14) (eG (cut MM)) (cut MM 1 4) (MM 5)).2.2.1 k j = cut MM k j := by
        rw [up2_a]
        by_cases c1 : k = 1
        · rw [if_pos c1, if_neg (fun q => h4 ⟨c1, q⟩)]
        · rw [if_neg c1]
      rw [hu]
      by_cases h : cE k j
      · rw [cut_p h, cut_p h]
        exact m4 k j (by omega)
      · unfold cut
        rw [if_neg h, if_neg h]
  · have x0 := nX c
    obtain ⟨m0, m6⟩ := nM c
    rw [cut_of (M0 := MM) (fun k j h => m0 k j (by omega))]
    exact S.fr hR.E0 hR.1 (fun k j q => x0 k j (by omega)) (fun k j q => m0 k j (by omega))
theorem Cl_mourners (k : Nat) (MX MM : Mem)  (hk : k < 512) (hMX : MR MX) (hMM : MR MM) (hR : Rel k MX MM) : qX11_mourners  MX (fun z MX1 => qX12_mourners  MM (fun b MM1 => z = b ∧ Rel (k + 1) MX1 MM1)) := by
  have S := hR.S
  have e := hR.2.2.1
  have bL := bm_c1_14.mp (hR.2.1.bx 1 14)
  have eT : msT (MX 157) (MX 156 1) (eG (cut MM)) (cut MM 1 4) (cut MM 1 5) (MM 5) (cut MM 3) = msT (MM 7) (MM 1 14) (eG (cut MM)) (cut MM 1 4) (cut MM 1 5) (MM 5) (cut MM 3) := by
    rw [e]
    exact rdM_cg (fun j p q => hR.2.2.2.2.1 j p (by omega)) 9 _ _ _ 0 (Int.le_refl _) (by omega)
  have eA : msA (MX 157) (MX 156 1) (eG (cut MM)) (cut MM 1 4) (cut MM 1 5) (MM 5) (cut MM 3) = msA (MM 7) (MM 1 14) (eG (cut MM)) (cut MM 1 4) (cut MM 1 5) (MM 5) (cut MM 3) := by
    unfold msA msOK
    rw [eT, e]
  refine fmX11_mourners (gX11_mourners (E := cut MM) (r := MM 5) hR.1 S.1 S.2.2.1 (Q := fun z M' => z = msA (MM 7) (MM 1 14) (eG (cut MM)) (cut MM 1 4) (cut MM 1 5) (MM 5) (cut MM 3) ∧ IX M' ∧ M' 156 1 = 0 ∧ (msOK (MM 7) (MM 1 14) (eG (cut MM)) (cut MM 1 4) (cut MM 1 5) (MM 5) (cut MM 3) ∧ MM 1 14 ≠ 0 → Ks (fun k j => (1 ≤ k ∧ k ≤ 14) ∨ k = 156 ∨ (k = 163 ∧ j = 2)) MX M' ∧ M' 163 2 = 0 ∧ SC (eM (cut MM) (msT (MM 7) (MM 1 14) (eG (cut MM)) (cut MM 1 4) (cut MM 1 5) (MM 5) (cut MM 3)).2.2.2.2 (msT (MM 7) (MM 1 14) (eG (cut MM)) (cut MM 1 4) (cut MM 1 5) (MM 5) (cut MM 3)).2.2.1) M' 1 (msT (MM 7) (MM 1 14) (eG (cut MM)) (cut MM 1 4) (cut MM 1 5) (MM 5) (cut MM 3)).2.2.2.1) ∧ (¬ (msOK (MM 7) (MM 1 14) (eG (cut MM)) (cut MM 1 4) (cut MM 1 5) (MM 5) (cut MM 3) ∧ MM 1 14 ≠ 0) → Ks (fun k j => (8 ≤ k ∧ k ≤ 14) ∨ k = 156) MX M')) (fun M' i l y n => by unfold msOK at y n; rw [eT, e] at y n; exact ⟨eA, i, l, y, n⟩)) ?_
  intro z MX1 fX hX
  obtain ⟨ez, iX, lX, yX, nX⟩ := hX
  refine fmX12_mourners (gX12_mourners (E := cut MM) hR.2.1 (cut_CE MM) (by omega) (Q := fun z M' => z = msA (MM 7) (MM 1 14) (eG (cut MM)) (cut MM 1 4) (cut MM 1 5) (MM 5) (cut MM 3) ∧ IM (60000 * (k : Int) + 1) M' ∧ M' 1 14 = 0 ∧ (msOK (MM 7) (MM 1 14) (eG (cut MM)) (cut MM 1 4) (cut MM 1 5) (MM 5) (cut MM 3) ∧ MM 1 14 ≠ 0 → M' 1 5 = (msT (MM 7) (MM 1 14) (eG (cut MM)) (cut MM 1 4) (cut MM 1 5) (MM 5) (cut MM 3)).2.2.1 ∧ M' 5 = (msT (MM 7) (MM 1 14) (eG (cut MM)) (cut MM 1 4) (cut MM 1 5) (MM 5) (cut MM 3)).2.2.2.1 ∧ M' 3 = (msT (MM 7) (MM 1 14) (eG (cut MM)) (cut MM 1 4) (cut MM 1 5) (MM 5) (cut MM 3)).2.2.2.2 ∧ M' 1 28 = 0 ∧ M' 1 6 = MM 1 6 + 1 ∧ FrJ (fun k j => k = 3 ∨ k = 5 ∨ k = 9 ∨ (k = 1 ∧ (j = 0 ∨ j = 5 ∨ j = 6 ∨ j = 14 ∨ j = 15 ∨ j = 16 ∨ j = 17 ∨ j = 20 ∨ j = 28))) MM M') ∧ (¬ (msOK (MM 7) (MM 1 14) (eG (cut MM)) (cut MM 1 4) (cut MM 1 5) (MM 5) (cut MM 3) ∧ MM 1 14 ≠ 0) → FrJ (fun k j => k = 9 ∨ (k = 1 ∧ (j = 0 ∨ j = 14 ∨ j = 15 ∨ j = 16 ∨ j = 17 ∨ j = 20))) MM M')) (fun M' i l y n => ⟨rfl, i, l, y, n⟩)) ?_
  intro b MM1 fM hM
  obtain ⟨eb, iM, lM, yM, nM⟩ := hM
  have hF : FOLS MM1 := by
    by_cases c : msOK (MM 7) (MM 1 14) (eG (cut MM)) (cut MM 1 4) (cut MM 1 5) (MM 5) (cut MM 3) ∧ MM 1 14 ≠ 0
    · obtain ⟨m0, m1, m1', m2, m3, m4⟩ := yM c
      refine FOLS.new S m2 m3 (fun i => m4 29 i (by omega)) (fun i => m4 30 i (by omega)) ?_
      rw [m1]
      exact fol_rdM (E := cut MM) (f := MM 7) (t := min (MM 1 14) 39) (g := eG (cut MM)) (H := cut MM 1 4) (a := 0) (n := 9) (w := cut MM 3) hR.f hR.E0 S.2.2.2.1 ⟨Int.le_refl _, by omega⟩ m0
    · exact hR.F.fr (fun k j h => nM c k j (by omega))
  refine ⟨by rw [ez, eb], hR.t iX iM (by omega) lX lM (fX 182 2 (by omega)) (fM 1 45 (by omega)) (fun j => ⟨fX 183 j (by omega), fX 184 j (by omega), fM 26 j (by omega), fM 27 j (by omega)⟩) hF ?_⟩
  by_cases c : msOK (MM 7) (MM 1 14) (eG (cut MM)) (cut MM 1 4) (cut MM 1 5) (MM 5) (cut MM 3) ∧ MM 1 14 ≠ 0
  · obtain ⟨x0, x1, x2⟩ := yX c
    obtain ⟨m0, m1, m1', m2, m3, m4⟩ := yM c
    have E0 := hR.E0
    have eb' := E0.2
    have b := rdM_b (f := MM 7) (t := min (MM 1 14) 39) (g := eG (cut MM)) (H := cut MM 1 4) 9 (cut MM 1 5) (MM 5) (cut MM 3) 0 ⟨Int.le_refl _, by omega⟩ eb'.2 (by omega)
    have b' : cut MM 1 5 < (msT (MM 7) (MM 1 14) (eG (cut MM)) (cut MM 1 4) (cut MM 1 5) (MM 5) (cut MM 3)).2.2.1 ∧ (msT (MM 7) (MM 1 14) (eG (cut MM)) (cut MM 1 4) (cut MM 1 5) (MM 5) (cut MM 3)).2.2.1 ≤ 8 := by
      rcases b.2 with q | q
      · exact absurd (c.1.1.symm.trans q) (by decide)
      · exact q.2
    have W := WR.rdm (E := cut MM) (f := MM 7) (t := min (MM 1 14) 39) eb'.1 9 (cut MM 1 5) (MM 5) (cut MM 3) 0 (by rw [eM_id]; exact S.2.2.2.1) hR.own eb'.2 ⟨Int.le_refl _, by omega⟩ c.1.1
    refine (S.mourners (m' := (msT (MM 7) (MM 1 14) (eG (cut MM)) (cut MM 1 4) (cut MM 1 5) (MM 5) (cut MM 3)).2.2.1) (r' := (msT (MM 7) (MM 1 14) (eG (cut MM)) (cut MM 1 4) (cut MM 1 5) (MM 5) (cut MM 3)).2.2.2.1) (w' := (msT (MM 7) (MM 1 14) (eG (cut MM)) (cut MM 1 4) (cut MM 1 5) (MM 5) (cut MM 3)).2.2.2.2) E0 hR.1 b' W.2 x0 x1 x2 m1 m2 m3 m4 W.1).c ?_
    funext k j
    by_cases h3 : k = 3
    · rw [h3, cut3]
      exact congrFun m1' j
    · rw [show eM (cut MM) (msT (MM 7) (MM 1 14) (eG (cut MM)) (cut MM 1 4) (cut MM 1 5) (MM 5) (cut MM 3)).2.2.2.2 (msT (MM 7) (MM 1 14) (eG (cut MM)) (cut MM 1 4) (cut MM 1 5) (MM 5) (cut MM 3)).2.2.1 k j = up2 (cut MM) 1 5 (msT (MM 7) (MM 1 14) (eG (cut MM)) (cut MM 1 4) (cut MM 1 5) (MM 5) (cut MM 3)).2.2.1 k j from by unfold eM; rw [if_neg h3]]
      by_cases h4 : k = 1 ∧ j = 5
      · rw [h4.1, h4.2, cut15, up2_s]
        exact m0
      · have hu : up2 (cut MM) 1 5 (msT (MM 7) (MM 1 14) (eG (cut MM)) (cut MM 1 4) (cut MM 1 5) (MM 5) (cut MM 3)).2.2.1 k j = cut MM k j := by
          rw [up2_a]
          by_cases c1 : k = 1
          · rw [if_pos c1, if_neg (fun q => h4 ⟨c1, q⟩)]
          · rw [if_neg c1]
        rw [hu]
        by_cases h : cE k j
        · rw [cut_p h, cut_p h]
          exact m4 k j (by omega)
        · unfold cut
          rw [if_neg h, if_neg h]
  · have x0 := nX c
    have m0 := nM c
    rw [cut_of (M0 := MM) (fun k j h => m0 k j (by omega))]
    exact S.fr hR.E0 hR.1 (fun k j q => x0 k j (by omega)) (fun k j q => m0 k j (by omega))
theorem Cl_weather (k : Nat) (MX MM : Mem)  (hk : k < 512) (hMX : MR MX) (hMM : MR MM) (hR : Rel k MX MM) : qX11_weather  MX (fun z MX1 => qX12_weather  MM (fun b MM1 => z = b ∧ Rel (k + 1) MX1 MM1)) := by
  refine fmX11_weather (gX11_weatherC hR.1 (Q := fun z M' => ∃ q, z = wvz (MX 156 1) q ∧ IX M' ∧ WV (MX 157) (MX 156 1) q ∧ M' 156 1 = 0 ∧ (q = MX 156 1 ∧ 1 ≤ q → Ks (fun k j => k = 156 ∨ k = 159 ∨ (k = 158 ∧ j = 3)) MX M' ∧ M' 158 3 = MX 156 1 ∧ ∀ i, 0 ≤ i → i < MX 156 1 → M' 159 i = MX 157 i - 48) ∧ (¬ (q = MX 156 1 ∧ 1 ≤ q) → Ks (fun k j => k = 156 ∧ j = 1) MX M')) (fun q M' i a l y n => ⟨q, rfl, i, a, l, y, n⟩)) ?_
  intro z MX1 fX hX
  obtain ⟨q, ez, iX, aX, lX, yX, nX⟩ := hX
  refine fmX12_weather (gX12_weatherC hR.2.1 (Q := fun z M' => ∃ q, z = wvz (MM 1 14) q ∧ IM (60000 * (k : Int)) M' ∧ WV (MM 7) (MM 1 14) q ∧ M' 1 14 = 0 ∧ (q = MM 1 14 ∧ 1 ≤ q → FrJ (fun k j => k = 4 ∨ k = 10 ∨ (k = 1 ∧ (j = 0 ∨ j = 7 ∨ j = 14 ∨ j = 15 ∨ j = 16 ∨ j = 17))) MM M' ∧ M' 1 7 = MM 1 14 ∧ ∀ i, 0 ≤ i → i < MM 1 14 → M' 4 i = MM 7 i - 48) ∧ (¬ (q = MM 1 14 ∧ 1 ≤ q) → FrJ (fun k j => k = 10 ∨ (k = 1 ∧ (j = 0 ∨ j = 14 ∨ j = 15 ∨ j = 16 ∨ j = 17))) MM M')) (fun q M' i a l y n => ⟨q, rfl, i, a, l, y, n⟩)) ?_
  intro b MM1 fM hM
  obtain ⟨q2, eb, iM, aM, lM, yM, nM⟩ := hM
  have e := hR.2.2.1
  rw [← e] at eb aM yM nM
  have eq := aX.uq aM hR.2.2.2.2.1
  subst eq
  have hF : FOLS MM1 := hR.F.fr (fun k j q => fM k j (by omega))
  refine ⟨by rw [ez, eb], hR.t iX iM (by omega) lX lM (fX 182 2 (by omega)) (fM 1 45 (by omega)) (fun j => ⟨fX 183 j (by omega), fX 184 j (by omega), fM 26 j (by omega), fM 27 j (by omega)⟩) hF ?_⟩
  by_cases c : q = MX 156 1 ∧ 1 ≤ q
  · obtain ⟨x0, x1, x2⟩ := yX c
    obtain ⟨m0, m1, m2⟩ := yM c
    have a20 := aX.1
    refine hR.S.weather hR.E0 hR.1 (len := MX 156 1) (f := MX 157) (by omega) (fun k j h1 h2 => ?_) (by rw [cut17]; exact m1) (fun i p q => ?_) x0 x1 x2 m0
    · by_cases h : cE k j
      · rw [cut_p h, cut_p h]
        exact m0 k j (by omega)
      · unfold cut
        rw [if_neg h, if_neg h]
    · rw [cut4, hR.2.2.2.2.1 i p q]
      exact m2 i p q
  · have x0 := nX c
    have m0 := nM c
    rw [cut_of (M0 := MM) (fun k j h => m0 k j (by omega))]
    exact hR.S.fr hR.E0 hR.1 (fun k j q => x0 k j (by omega)) (fun k j q => m0 k j (by omega))
theorem Cl_rule (k : Nat) (MX MM : Mem)  (hk : k < 512) (hMX : MR MX) (hMM : MR MM) (hR : Rel k MX MM) : qX11_rule  MX (fun z MX1 => qX12_rule  MM (fun b MM1 => z = b ∧ Rel (k + 1) MX1 MM1)) := by
  have S := hR.S
  have e := hR.2.2.1
  refine fmX11_rule (fzX11_rule (gX11_rule (f := MM 7) hR.1 hR.2.2.2.2.1 (Q := fun z M' => z = rly (MM 7) (MX 156 1) ∧ IX M' ∧ (rlz (MM 7) (MX 156 1) = -1 → ROl (M' 155 16).toNat M' (rlO (MM 7) (MX 156 1))) ∧ (rlz (MM 7) (MX 156 1) ≠ -1 → M' 155 16 = MX 155 16 ∧ ∀ (k : Nat) (j : Int), (MX 155 16).toNat ≤ k → k ≤ (MX 155 16).toNat + 2 → M' k j = MX k j)) (fun M' i y n => ⟨rfl, i, y, n⟩)) (Q' := fun z M' => M' 156 1 = 0 ∧ z = rly (MM 7) (MX 156 1) ∧ IX M' ∧ (rlz (MM 7) (MX 156 1) = -1 → ROl (M' 155 16).toNat M' (rlO (MM 7) (MX 156 1))) ∧ (rlz (MM 7) (MX 156 1) ≠ -1 → M' 155 16 = MX 155 16 ∧ ∀ (k : Nat) (j : Int), (MX 155 16).toNat ≤ k → k ≤ (MX 155 16).toNat + 2 → M' k j = MX k j)) (fun _ M' z h => ⟨z, h⟩)) ?_
  intro z MX1 fX hX
  obtain ⟨lX, ez, iX, yX, nX⟩ := hX
  refine fmX12_rule (fzX12_rule (gX12_rule (f := MM 7) hR.2.1 (fun _ _ _ => rfl) (Q := fun z M' => z = rly (MM 7) (MM 1 14) ∧ IM (60000 * (k : Int)) M' ∧ (rlz (MM 7) (MM 1 14) ≠ -1 → Ks kRu MM M') ∧ (rlz (MM 7) (MM 1 14) = -1 → Ks (fun k j => kRu k j ∨ k = 11 ∨ (k = 1 ∧ j = 24)) MM M' ∧ RUL M' (MM 7) (MM 1 14))) (fun M' i n y => ⟨rfl, i, n, y⟩)) (Q' := fun z M' => M' 1 14 = 0 ∧ z = rly (MM 7) (MM 1 14) ∧ IM (60000 * (k : Int)) M' ∧ (rlz (MM 7) (MM 1 14) ≠ -1 → Ks kRu MM M') ∧ (rlz (MM 7) (MM 1 14) = -1 → Ks (fun k j => kRu k j ∨ k = 11 ∨ (k = 1 ∧ j = 24)) MM M' ∧ RUL M' (MM 7) (MM 1 14))) (fun _ M' z h => ⟨z, h⟩)) ?_
  intro b MM1 fM hM
  obtain ⟨lM, eb, iM, nM, yM⟩ := hM
  rw [← e] at eb nM yM
  have hF : FOLS MM1 := hR.F.fr (fun k j q => fM k j (by omega))
  refine ⟨by rw [ez, eb], hR.t iX iM (by omega) lX lM (fX 182 2 (by omega)) (fM 1 45 (by omega)) (fun j => ⟨fX 183 j (by omega), fX 184 j (by omega), fM 26 j (by omega), fM 27 j (by omega)⟩) hF ?_⟩
  by_cases c : rlz (MM 7) (MX 156 1) = -1
  · have x0 := yX c
    obtain ⟨m0, m1⟩ := yM c
    refine S.rule hR.E0 hR.1 (fun k j h1 h2 => ?_) (fun k j h => fX k j (by omega)) ?_ (fun k j h => m0 k j (by omega))
    · by_cases h : cE k j
      · rw [cut_p h, cut_p h]
        exact m0 k j (by omega)
      · unfold cut
        rw [if_neg h, if_neg h]
    · exact m1.law (cut124 MM1) (cut11 MM1) x0
  · obtain ⟨x0, x1⟩ := nX c
    have m0 := nM c
    have ec : cut MM1 = cut MM := cut_of (fun k j h => m0 k j (by omega))
    rw [ec]
    refine S.rule hR.E0 hR.1 (fun _ _ _ _ => rfl) (fun k j h => fX k j (by omega)) ?_ (fun k j h => m0 k j (by omega))
    rw [x0]
    exact S.2.1.fr (x1 _ _ (by omega) (by omega)) (x1 _ _ (by omega) (by omega)) (fun j => x1 _ j (by omega) (by omega)) (fun j => x1 _ j (by omega) (by omega))
theorem Cl_sheet (k : Nat) (MX MM : Mem) (y1 y2 y3 y4 : Int) (hy1 : iR y1) (hy2 : iR y2) (hy3 : iR y3) (hy4 : iR y4) (hk : k < 512) (hMX : MR MX) (hMM : MR MM) (hR : Rel k MX MM) : qX11_sheet y1 y2 y3 y4 MX (fun z MX1 => qX12_sheet y1 y2 y3 y4 MM (fun b MM1 => z = b ∧ Rel (k + 1) MX1 MM1)) := by
  have S := hR.S
  refine fmX11_sheet (gX11_sheet (E := cut MM) (r := MM 5) (p1 := y1) (p2 := y2) (p3 := y3) (p4 := y4) hR.1 S.1 S.2.2.1 S.2.2.2.1 (Q := fun z M' => z = shA (cut MM) y1 y2 y3 y4 (MM 5) ∧ IX M' ∧ SC (cut MM) M' 1 (shRR (cut MM) y1 y2 y3 y4 (MM 5))) (fun M' i _ c => ⟨rfl, i, c⟩)) ?_
  intro z MX1 fX hX
  obtain ⟨ez, iX, cX⟩ := hX
  refine fmX12_sheet (gX12_sheet (E := cut MM) (p1 := y1) (p2 := y2) (p3 := y3) (p4 := y4) hR.2.1 (cut_CE MM) hR.E0 hy3 (Q := fun z M' => z = shA (cut MM) y1 y2 y3 y4 (MM 5) ∧ IM (60000 * (k : Int)) M' ∧ M' 5 = shRR (cut MM) y1 y2 y3 y4 (MM 5)) (fun M' i _ c => ⟨rfl, i, c⟩)) ?_
  intro b MM1 fM hM
  obtain ⟨eb, iM, cM⟩ := hM
  have hF : FOLS MM1 := hR.F.now (fun k j h => fM k j (by omega)) cM (fol_sh hR.f hR.E0 S.2.2.2.1)
  refine ⟨by rw [ez, eb], hR.s iX iM (by omega) (fX 156 1 (by omega)) (fM 1 14 (by omega)) (fX 182 2 (by omega)) (fM 1 45 (by omega)) (fun j => fX 157 j (by omega)) (fun j => fM 7 j (by omega)) (fun j => ⟨fX 183 j (by omega), fX 184 j (by omega), fM 26 j (by omega), fM 27 j (by omega)⟩) (fun k j q => fM k j (by omega)) hF ?_⟩
  exact S.now hR.E0 hR.1 (fun k j h => fX k j (by omega)) cX (fun k j h => fM k j (by omega)) cM (S.2.2.2.1.shAll hR.E0)
theorem Cl_steps (k : Nat) (MX MM : Mem) (y1 : Int) (hy1 : iR y1) (hk : k < 512) (hMX : MR MX) (hMM : MR MM) (hR : Rel k MX MM) : qX11_steps y1 MX (fun z MX1 => qX12_steps y1 MM (fun b MM1 => z = b ∧ Rel (k + 1) MX1 MM1)) := by
  have S := hR.S
  have r37 := hR.r37 hk
  refine fmX11_steps (gX11_steps (E := cut MM) (r := MM 5) (p1 := y1) hR.1 S.1 S.2.1 hR.W S.2.2.1 S.2.2.2.1 (by omega) (Q := fun z M' => IX M' ∧ (0 ≤ y1 ∧ y1 ≤ 60 → z = itF (cut MM) y1.toNat (MM 5) 12 ∧ WR (cut MM) (itF (cut MM) y1.toNat (MM 5)) ∧ CACT (cut MM) MX M' (MM 5) (itF (cut MM) y1.toNat (MM 5))) ∧ (¬ (0 ≤ y1 ∧ y1 ≤ 60) → z = -1 ∧ M' = MX)) (fun c M' i wr a => ⟨i, fun _ => ⟨rfl, wr, a⟩, fun n => absurd c n⟩) (fun n => ⟨hR.1, fun c => absurd c n, fun _ => ⟨rfl, rfl⟩⟩)) ?_
  intro z MX1 fX hX
  obtain ⟨iX, yX, nX⟩ := hX
  refine fmX12_steps (gX12_steps (E := cut MM) (p1 := y1) hR.2.1 (cut_CE MM) (by omega) (Q := fun z M' => IM (60000 * (k : Int) + 200) M' ∧ (0 ≤ y1 ∧ y1 ≤ 60 → z = itF (cut MM) y1.toNat (MM 5) 12 ∧ RACT MM M' (itF (cut MM) y1.toNat (MM 5))) ∧ (¬ (0 ≤ y1 ∧ y1 ≤ 60) → z = -1 ∧ RNOP MM M')) (fun c M' i a => ⟨i, fun _ => ⟨rfl, a⟩, fun n => absurd c n⟩) (fun n M' i a => ⟨i, fun c => absurd c n, fun _ => ⟨rfl, a⟩⟩)) ?_
  intro b MM1 fM hM
  obtain ⟨iM, yM, nM⟩ := hM
  by_cases c : 0 ≤ y1 ∧ y1 ≤ 60
  · obtain ⟨ez, wr, aX⟩ := yX c
    obtain ⟨eb, aM⟩ := yM c
    have hF : FOLS MM1 := hR.F.act S hR.E0 aM (fol_it hR.E0 S.2.2.2.1 hR.f _)
    refine ⟨by rw [ez, eb], hR.s iX iM (by omega) (fX 156 1 (by omega)) (fM 1 14 (by omega)) (fX 182 2 (by omega)) (fM 1 45 (by omega)) (fun j => fX 157 j (by omega)) (fun j => fM 7 j (by omega)) (fun j => ⟨fX 183 j (by omega), fX 184 j (by omega), fM 26 j (by omega), fM 27 j (by omega)⟩) (fun k j q => fM k j (by omega)) hF ?_⟩
    exact S.act hR.E0 hR.1 aX aM wr
  · obtain ⟨ez, aX⟩ := nX c
    obtain ⟨eb, aM⟩ := nM c
    have hF : FOLS MM1 := hR.F.nop S hR.E0 aM
    refine ⟨by rw [ez, eb], hR.s iX iM (by omega) (fX 156 1 (by omega)) (fM 1 14 (by omega)) (fX 182 2 (by omega)) (fM 1 45 (by omega)) (fun j => fX 157 j (by omega)) (fun j => fM 7 j (by omega)) (fun j => ⟨fX 183 j (by omega), fX 184 j (by omega), fM 26 j (by omega), fM 27 j (by omega)⟩) (fun k j q => fM k j (by omega)) hF ?_⟩
    refine S.nop hR.E0 hR.1 ?_ aM
    rw [aX]
    exact ⟨fun _ _ _ _ => rfl, S.2.2.1⟩
theorem Cl_turnsTo (k : Nat) (MX MM : Mem) (y1 : Int) (hy1 : iR y1) (hk : k < 512) (hMX : MR MX) (hMM : MR MM) (hR : Rel k MX MM) : qX11_turnsTo y1 MX (fun z MX1 => qX12_turnsTo y1 MM (fun b MM1 => z = b ∧ Rel (k + 1) MX1 MM1)) := by
  have S := hR.S
  refine fmX11_turnsTo (gX11_turnsTo (E := cut MM) (r := MM 5) (p1 := y1) hR.1 S.1 S.2.2.1 S.2.2.2.1 (Q := fun z M' => z = tnA (cut MM) (MM 5) y1 ∧ IX M' ∧ (isDn (tnA (cut MM) (MM 5) y1) → CACT (cut MM) MX M' (MM 5) (tnR (cut MM) (MM 5) y1)) ∧ (¬ isDn (tnA (cut MM) (MM 5) y1) → CNOP (cut MM) MX M' (MM 5))) (fun M' i a n => ⟨rfl, i, a, n⟩)) ?_
  intro z MX1 fX hX
  obtain ⟨ez, iX, aX, nX⟩ := hX
  refine fmX12_turnsTo (gX12_turnsTo (E := cut MM) (p1 := y1) hR.2.1 (cut_CE MM) (Q := fun z M' => z = tnA (cut MM) (MM 5) y1 ∧ IM (60000 * (k : Int)) M' ∧ (isDn (tnA (cut MM) (MM 5) y1) → RACT MM M' (tnR (cut MM) (MM 5) y1)) ∧ (¬ isDn (tnA (cut MM) (MM 5) y1) → RNOP MM M')) (fun M' i a n => ⟨rfl, i, a, n⟩)) ?_
  intro b MM1 fM hM
  obtain ⟨eb, iM, aM, nM⟩ := hM
  have hF : FOLS MM1 := by
    by_cases d : isDn (tnA (cut MM) (MM 5) y1)
    · exact hR.F.act S hR.E0 (aM d) (fol_tn hR.f hR.E0 S.2.2.2.1 hR.own)
    · exact hR.F.nop S hR.E0 (nM d)
  refine ⟨by rw [ez, eb], hR.s iX iM (by omega) (fX 156 1 (by omega)) (fM 1 14 (by omega)) (fX 182 2 (by omega)) (fM 1 45 (by omega)) (fun j => fX 157 j (by omega)) (fun j => fM 7 j (by omega)) (fun j => ⟨fX 183 j (by omega), fX 184 j (by omega), fM 26 j (by omega), fM 27 j (by omega)⟩) (fun k j q => fM k j (by omega)) hF ?_⟩
  by_cases d : isDn (tnA (cut MM) (MM 5) y1)
  · exact S.act hR.E0 hR.1 (aX d) (aM d) (S.2.2.2.1.tn hR.E0 hR.own)
  · exact S.nop hR.E0 hR.1 (nX d) (nM d)
theorem Cl_pushes (k : Nat) (MX MM : Mem) (y1 y2 : Int) (hy1 : iR y1) (hy2 : iR y2) (hk : k < 512) (hMX : MR MX) (hMM : MR MM) (hR : Rel k MX MM) : qX11_pushes y1 y2 MX (fun z MX1 => qX12_pushes y1 y2 MM (fun b MM1 => z = b ∧ Rel (k + 1) MX1 MM1)) := by
  have S := hR.S
  refine fmX11_pushes (gX11_pushes (E := cut MM) (r := MM 5) (p1 := y1) (p2 := y2) hR.1 S.1 S.2.2.1 S.2.2.2.1 (Q := fun z M' => z = psA (cut MM) (MM 5) y1 y2 ∧ IX M' ∧ (isDn (psA (cut MM) (MM 5) y1 y2) → CACT (cut MM) MX M' (MM 5) (psR (cut MM) (MM 5) y1 y2)) ∧ (¬ isDn (psA (cut MM) (MM 5) y1 y2) → CNOP (cut MM) MX M' (MM 5))) (fun M' i a n => ⟨rfl, i, a, n⟩)) ?_
  intro z MX1 fX hX
  obtain ⟨ez, iX, aX, nX⟩ := hX
  refine fmX12_pushes (gX12_pushes (E := cut MM) (p1 := y1) (p2 := y2) hR.2.1 (cut_CE MM) (Q := fun z M' => z = psA (cut MM) (MM 5) y1 y2 ∧ IM (60000 * (k : Int)) M' ∧ (isDn (psA (cut MM) (MM 5) y1 y2) → RACT MM M' (psR (cut MM) (MM 5) y1 y2)) ∧ (¬ isDn (psA (cut MM) (MM 5) y1 y2) → RNOP MM M')) (fun M' i a n => ⟨rfl, i, a, n⟩)) ?_
  intro b MM1 fM hM
  obtain ⟨eb, iM, aM, nM⟩ := hM
  have hF : FOLS MM1 := by
    by_cases d : isDn (psA (cut MM) (MM 5) y1 y2)
    · exact hR.F.act S hR.E0 (aM d) (fol_ps hR.f hR.E0 S.2.2.2.1)
    · exact hR.F.nop S hR.E0 (nM d)
  refine ⟨by rw [ez, eb], hR.s iX iM (by omega) (fX 156 1 (by omega)) (fM 1 14 (by omega)) (fX 182 2 (by omega)) (fM 1 45 (by omega)) (fun j => fX 157 j (by omega)) (fun j => fM 7 j (by omega)) (fun j => ⟨fX 183 j (by omega), fX 184 j (by omega), fM 26 j (by omega), fM 27 j (by omega)⟩) (fun k j q => fM k j (by omega)) hF ?_⟩
  by_cases d : isDn (psA (cut MM) (MM 5) y1 y2)
  · exact S.act hR.E0 hR.1 (aX d) (aM d) (S.2.2.2.1.ps hR.E0)
  · exact S.nop hR.E0 hR.1 (nX d) (nM d)
theorem Cl_swaps (k : Nat) (MX MM : Mem) (y1 y2 : Int) (hy1 : iR y1) (hy2 : iR y2) (hk : k < 512) (hMX : MR MX) (hMM : MR MM) (hR : Rel k MX MM) : qX11_swaps y1 y2 MX (fun z MX1 => qX12_swaps y1 y2 MM (fun b MM1 => z = b ∧ Rel (k + 1) MX1 MM1)) := by
  have S := hR.S
  refine fmX11_swaps (gX11_swaps (E := cut MM) (r := MM 5) (p1 := y1) (p2 := y2) hR.1 S.1 S.2.2.1 S.2.2.2.1 (Q := fun z M' => z = swA (cut MM) (MM 5) y1 y2 ∧ IX M' ∧ (isDn (swA (cut MM) (MM 5) y1 y2) → CACT (cut MM) MX M' (MM 5) (swR (cut MM) (MM 5) y1 y2)) ∧ (¬ isDn (swA (cut MM) (MM 5) y1 y2) → CNOP (cut MM) MX M' (MM 5))) (fun M' i a n => ⟨rfl, i, a, n⟩)) ?_
  intro z MX1 fX hX
  obtain ⟨ez, iX, aX, nX⟩ := hX
  refine fmX12_swaps (gX12_swaps (E := cut MM) (p1 := y1) (p2 := y2) hR.2.1 (cut_CE MM) (Q := fun z M' => z = swA (cut MM) (MM 5) y1 y2 ∧ IM (60000 * (k : Int)) M' ∧ (isDn (swA (cut MM) (MM 5) y1 y2) → RACT MM M' (swR (cut MM) (MM 5) y1 y2)) ∧ (¬ isDn (swA (cut MM) (MM 5) y1 y2) → RNOP MM M')) (fun M' i a n => ⟨rfl, i, a, n⟩)) ?_
  intro b MM1 fM hM
  obtain ⟨eb, iM, aM, nM⟩ := hM
  have hF : FOLS MM1 := by
    by_cases d : isDn (swA (cut MM) (MM 5) y1 y2)
    · exact hR.F.act S hR.E0 (aM d) (fol_sw hR.f hR.E0)
    · exact hR.F.nop S hR.E0 (nM d)
  refine ⟨by rw [ez, eb], hR.s iX iM (by omega) (fX 156 1 (by omega)) (fM 1 14 (by omega)) (fX 182 2 (by omega)) (fM 1 45 (by omega)) (fun j => fX 157 j (by omega)) (fun j => fM 7 j (by omega)) (fun j => ⟨fX 183 j (by omega), fX 184 j (by omega), fM 26 j (by omega), fM 27 j (by omega)⟩) (fun k j q => fM k j (by omega)) hF ?_⟩
  by_cases d : isDn (swA (cut MM) (MM 5) y1 y2)
  · exact S.act hR.E0 hR.1 (aX d) (aM d) (S.2.2.2.1.sw hR.E0)
  · exact S.nop hR.E0 hR.1 (nX d) (nM d)
theorem Cl_hour (k : Nat) (MX MM : Mem)  (hk : k < 512) (hMX : MR MX) (hMM : MR MM) (hR : Rel k MX MM) : qX11_hour  MX (fun z MX1 => qX12_hour  MM (fun b MM1 => z = b ∧ Rel (k + 1) MX1 MM1)) := by
  have S := hR.S
  have r37 := hR.r37 hk
  have e := hR.2.2.1
  have eZ : hfz (MX 157) (MX 156 1) = hfz (MM 7) (MM 1 14) := by
    rw [e]
    exact hfz_cg (fun j p q => hR.2.2.2.2.1 j p (by omega))
  have eG' : hGO (cut MM) (MX 157) (MX 156 1) (MM 5) = (hGO (cut MM) (MM 7) (MM 1 14) (MM 5)) := by
    rw [e]
    exact hGO_cg (fun j p q => hR.2.2.2.2.1 j p (by omega))
  refine fmX11_hour (fzX11_hour (gX11_hour (E := cut MM) (r := MM 5) hR.1 S.1 S.2.1 hR.W S.2.2.1 S.2.2.2.1 r37 (Q := fun z M' => IX M' ∧ (hfz (MM 7) (MM 1 14) = -1 → z = (hGO (cut MM) (MM 7) (MM 1 14) (MM 5)).1 ∧ WR (cut MM) (hGO (cut MM) (MM 7) (MM 1 14) (MM 5)).2.2 ∧ (0 < (hGO (cut MM) (MM 7) (MM 1 14) (MM 5)).1 → CACT (cut MM) MX M' (MM 5) (hGO (cut MM) (MM 7) (MM 1 14) (MM 5)).2.2) ∧ (¬ 0 < (hGO (cut MM) (MM 7) (MM 1 14) (MM 5)).1 → CNOP (cut MM) MX M' (MM 5))) ∧ (hfz (MM 7) (MM 1 14) ≠ -1 → z = -1 - hfz (MM 7) (MM 1 14) ∧ CNOP (cut MM) MX M' (MM 5))) (fun c M' i wr a n => by rw [eZ] at c; rw [eG'] at wr a n ⊢; exact ⟨i, fun _ => ⟨rfl, wr, a, n⟩, fun q => absurd c q⟩) (fun c M' i n => by rw [eZ] at c ⊢; exact ⟨i, fun q => absurd q c, fun _ => ⟨rfl, n⟩⟩)) (Q' := fun z M' => M' 156 1 = 0 ∧ IX M' ∧ (hfz (MM 7) (MM 1 14) = -1 → z = (hGO (cut MM) (MM 7) (MM 1 14) (MM 5)).1 ∧ WR (cut MM) (hGO (cut MM) (MM 7) (MM 1 14) (MM 5)).2.2 ∧ (0 < (hGO (cut MM) (MM 7) (MM 1 14) (MM 5)).1 → CACT (cut MM) MX M' (MM 5) (hGO (cut MM) (MM 7) (MM 1 14) (MM 5)).2.2) ∧ (¬ 0 < (hGO (cut MM) (MM 7) (MM 1 14) (MM 5)).1 → CNOP (cut MM) MX M' (MM 5))) ∧ (hfz (MM 7) (MM 1 14) ≠ -1 → z = -1 - hfz (MM 7) (MM 1 14) ∧ CNOP (cut MM) MX M' (MM 5))) (fun _ M' z h => ⟨z, h⟩)) ?_
  intro z MX1 fX hX
  obtain ⟨lX, iX, yX, nX⟩ := hX
  refine fmX12_hour (fzX12_hour (gX12_hour (E := cut MM) hR.2.1 (cut_CE MM) hR.E0 S.2.2.2.1 hR.own (by omega) (Q := fun z M' => IM (60000 * (k : Int) + 300) M' ∧ (hfz (MM 7) (MM 1 14) = -1 → z = (hGO (cut MM) (MM 7) (MM 1 14) (MM 5)).1 ∧ (0 < (hGO (cut MM) (MM 7) (MM 1 14) (MM 5)).1 → RACT MM M' (hGO (cut MM) (MM 7) (MM 1 14) (MM 5)).2.2) ∧ (¬ 0 < (hGO (cut MM) (MM 7) (MM 1 14) (MM 5)).1 → RNOP MM M')) ∧ (hfz (MM 7) (MM 1 14) ≠ -1 → z = -1 - hfz (MM 7) (MM 1 14) ∧ RNOP MM M')) (fun c M' i a n => ⟨i, fun _ => ⟨rfl, a, n⟩, fun q => absurd c q⟩) (fun c M' i n => ⟨i, fun q => absurd q c, fun _ => ⟨rfl, n⟩⟩)) (Q' := fun z M' => M' 1 14 = 0 ∧ IM (60000 * (k : Int) + 300) M' ∧ (hfz (MM 7) (MM 1 14) = -1 → z = (hGO (cut MM) (MM 7) (MM 1 14) (MM 5)).1 ∧ (0 < (hGO (cut MM) (MM 7) (MM 1 14) (MM 5)).1 → RACT MM M' (hGO (cut MM) (MM 7) (MM 1 14) (MM 5)).2.2) ∧ (¬ 0 < (hGO (cut MM) (MM 7) (MM 1 14) (MM 5)).1 → RNOP MM M')) ∧ (hfz (MM 7) (MM 1 14) ≠ -1 → z = -1 - hfz (MM 7) (MM 1 14) ∧ RNOP MM M')) (fun _ M' z h => ⟨z, h⟩)) ?_
  intro b MM1 fM hM
  obtain ⟨lM, iM, yM, nM⟩ := hM
  have ec : cut MM1 = cut MM := cut_of (fun k j h => fM k j (by omega))
  have fin : z = b → FOLS MM1 → STA (cut MM) MX1 MM1 → z = b ∧ Rel (k + 1) MX1 MM1 := fun q hF s => ⟨q, hR.t iX iM (by omega) lX lM (fX 182 2 (by omega)) (fM 1 45 (by omega)) (fun j => ⟨fX 183 j (by omega), fX 184 j (by omega), fM 26 j (by omega), fM 27 j (by omega)⟩) hF (by rw [ec]; exact s)⟩
  by_cases c : hfz (MM 7) (MM 1 14) = -1
  · obtain ⟨ez, wr, aX, oX⟩ := yX c
    obtain ⟨eb, aM, oM⟩ := yM c
    by_cases d : 0 < (hGO (cut MM) (MM 7) (MM 1 14) (MM 5)).1
    · exact fin (by rw [ez, eb]) (hR.F.act S hR.E0 (aM d) (fol_hr hR.E0 hR.own _ _ _ hR.f S.2.2.2.1)) (S.act hR.E0 hR.1 (aX d) (aM d) wr)
    · exact fin (by rw [ez, eb]) (hR.F.nop S hR.E0 (oM d)) (S.nop hR.E0 hR.1 (oX d) (oM d))
  · obtain ⟨ez, aX⟩ := nX c
    obtain ⟨eb, aM⟩ := nM c
    exact fin (by rw [ez, eb]) (hR.F.nop S hR.E0 aM) (S.nop hR.E0 hR.1 aX aM)
theorem Cl_undo (k : Nat) (MX MM : Mem)  (hk : k < 512) (hMX : MR MX) (hMM : MR MM) (hR : Rel k MX MM) : qX11_undo  MX (fun z MX1 => qX12_undo  MM (fun b MM1 => z = b ∧ Rel (k + 1) MX1 MM1)) := by
  have S := hR.S
  have eh : MX 163 2 = MM 1 28 := S.2.2.2.2.1.1
  refine fmX11_undo (gX11_undo hR.1 (Q := fun z M' => IX M' ∧ Ks (fun k j => (1 ≤ k ∧ k ≤ 7) ∨ (k = 163 ∧ j = 2)) MX M' ∧ (MX 163 2 = 0 ∧ z = -1 ∧ M' = MX ∨ 0 < MX 163 2 ∧ z = MX 163 2 - 1 ∧ M' 163 2 = MX 163 2 - 1 ∧ ∀ (E : Mem) (r : Int → Int), SC E MX (50 + 7 * ((MX 163 1 + (MX 163 2 - 1)) % 15).toNat) r → SC E M' 1 r)) (fun z M' i kx h => ⟨i, kx, h⟩)) ?_
  intro z MX1 fX hX
  obtain ⟨iX, kX, gX⟩ := hX
  refine fmX12_undo (gX12_undo hR.2.1 (Q := fun z M' => IM (60000 * (k : Int)) M' ∧ FrJ (fun k j => k = 5 ∨ (k = 1 ∧ (j = 0 ∨ j = 28))) MM M' ∧ (MM 1 28 = 0 ∧ z = -1 ∧ M' 1 28 = 0 ∧ (∀ j, M' 5 j = MM 5 j) ∨ 0 < MM 1 28 ∧ z = MM 1 28 - 1 ∧ M' 1 28 = MM 1 28 - 1 ∧ ∀ j, 0 ≤ j → j < 38 → M' 5 j = MM 15 (38 * (MM 1 28 - 1) + j))) (fun z M' i kx h => ⟨i, kx, h⟩)) ?_
  intro b MM1 fM hM
  obtain ⟨iM, kM, gM⟩ := hM
  rcases gX with ⟨x0, x1, x2⟩ | ⟨x0, x1, x2, x3⟩
  · rcases gM with ⟨m0, m1, m2, m3⟩ | ⟨m0, m1, m2, m3⟩
    · have hF : FOLS MM1 := hR.F.fr (fun k j q => by
        by_cases c5 : k = 5
        · rw [c5]; exact m3 j
        · by_cases c28 : k = 1 ∧ j = 28
          · rw [c28.1, c28.2, m2, m0]
          · exact kM k j (by omega))
      refine ⟨by rw [x1, m1], hR.s iX iM (by omega) (fX 156 1 (by omega)) (fM 1 14 (by omega)) (fX 182 2 (by omega)) (fM 1 45 (by omega)) (fun j => fX 157 j (by omega)) (fun j => fM 7 j (by omega)) (fun j => ⟨fX 183 j (by omega), fX 184 j (by omega), fM 26 j (by omega), fM 27 j (by omega)⟩) (fun k j q => fM k j (by omega)) hF ?_⟩
      refine S.fr hR.E0 hR.1 (fun k j q => by rw [x2]) (fun k j q => ?_)
      by_cases c5 : k = 5
      · rw [c5]; exact m3 j
      · by_cases c28 : k = 1 ∧ j = 28
        · rw [c28.1, c28.2, m2, m0]
        · exact kM k j (by omega)
    · omega
  · rcases gM with ⟨m0, m1, m2, m3⟩ | ⟨m0, m1, m2, m3⟩
    · omega
    · have hF : FOLS MM1 := hR.F.undo S hR.E0 m0 kM m2 m3
      refine ⟨by omega, hR.s iX iM (by omega) (fX 156 1 (by omega)) (fM 1 14 (by omega)) (fX 182 2 (by omega)) (fM 1 45 (by omega)) (fun j => fX 157 j (by omega)) (fun j => fM 7 j (by omega)) (fun j => ⟨fX 183 j (by omega), fX 184 j (by omega), fM 26 j (by omega), fM 27 j (by omega)⟩) (fun k j q => fM k j (by omega)) hF ?_⟩
      exact S.undo hR.E0 hR.1 m0 kX x2 x3 kM m2 m3
theorem Rk_jam (k : Nat) (MX MM : Mem) (y1 : Int) (hy1 : iR y1) (hk : k < 512) (hMX : MR MX) (hMM : MR MM) (hR : Rel k MX MM) : qX11_jam y1 MX (fun z MX1 => qX12_jam y1 MM (fun b MM1 => Rel (k + 1) MX1 MM1)) := by
  refine fmX11_jam (sX11_jam (p1 := y1) hR.1 (Q := fun _ M' => IX M') (fun _ _ h => h)) ?_
  intro z MX1 fX hX
  refine fmX12_jam (sX12_jam (p1 := y1) hR.2.1 (by omega) (Q := fun _ M' => IM (60000 * (k : Int) + 200) M') (fun _ _ h => h)) ?_
  intro b MM1 fM hM
  exact hR.q hX hM (by omega) (fX 156 1 (by first | omega | exact fun h => h)) (fM 1 14 (by first | omega | exact fun h => h)) (fX 182 2 (by first | omega | exact fun h => h)) (fM 1 45 (by first | omega | exact fun h => h)) (fun j => fX 157 j (by first | omega | exact fun h => h)) (fun j => fM 7 j (by first | omega | exact fun h => h)) (fun j => ⟨fX 183 j (by first | omega | exact fun h => h), fX 184 j (by first | omega | exact fun h => h), fM 26 j (by first | omega | exact fun h => h), fM 27 j (by first | omega | exact fun h => h)⟩) (fun k j q => fX k j (by first | omega | exact fun h => h)) (fun k j q => fM k j (by first | omega | exact fun h => h))
theorem Rk_right (k : Nat) (MX MM : Mem)  (hk : k < 512) (hMX : MR MX) (hMM : MR MM) (hR : Rel k MX MM) : qX11_right  MX (fun z MX1 => qX12_right  MM (fun b MM1 => Rel (k + 1) MX1 MM1)) := by
  refine fmX11_right (sX11_right  hR.1 (Q := fun _ M' => IX M') (fun _ _ h => h)) ?_
  intro z MX1 fX hX
  refine fmX12_right (sX12_right  hR.2.1 (by omega) (Q := fun _ M' => IM (60000 * (k : Int) + 200) M') (fun _ _ h => h)) ?_
  intro b MM1 fM hM
  exact hR.q hX hM (by omega) (fX 156 1 (by first | omega | exact fun h => h)) (fM 1 14 (by first | omega | exact fun h => h)) (fX 182 2 (by first | omega | exact fun h => h)) (fM 1 45 (by first | omega | exact fun h => h)) (fun j => fX 157 j (by first | omega | exact fun h => h)) (fun j => fM 7 j (by first | omega | exact fun h => h)) (fun j => ⟨fX 183 j (by first | omega | exact fun h => h), fX 184 j (by first | omega | exact fun h => h), fM 26 j (by first | omega | exact fun h => h), fM 27 j (by first | omega | exact fun h => h)⟩) (fun k j q => fX k j (by first | omega | exact fun h => h)) (fun k j q => fM k j (by first | omega | exact fun h => h))
theorem Rk_order (k : Nat) (MX MM : Mem)  (hk : k < 512) (hMX : MR MX) (hMM : MR MM) (hR : Rel k MX MM) : qX11_order  MX (fun z MX1 => qX12_order  MM (fun b MM1 => Rel (k + 1) MX1 MM1)) := by
  refine fmX11_order (sX11_order  hR.1 (Q := fun _ M' => IX M') (fun _ _ h => h)) ?_
  intro z MX1 fX hX
  refine fmX12_order (sX12_order  hR.2.1 (by omega) (Q := fun _ M' => IM (60000 * (k : Int) + 200) M') (fun _ _ h => h)) ?_
  intro b MM1 fM hM
  exact hR.q hX hM (by omega) (fX 156 1 (by first | omega | exact fun h => h)) (fM 1 14 (by first | omega | exact fun h => h)) (fX 182 2 (by first | omega | exact fun h => h)) (fM 1 45 (by first | omega | exact fun h => h)) (fun j => fX 157 j (by first | omega | exact fun h => h)) (fun j => fM 7 j (by first | omega | exact fun h => h)) (fun j => ⟨fX 183 j (by first | omega | exact fun h => h), fX 184 j (by first | omega | exact fun h => h), fM 26 j (by first | omega | exact fun h => h), fM 27 j (by first | omega | exact fun h => h)⟩) (fun k j q => fX k j (by first | omega | exact fun h => h)) (fun k j q => fM k j (by first | omega | exact fun h => h))
theorem Rk_stands (k : Nat) (MX MM : Mem) (y1 : Int) (hy1 : iR y1) (hk : k < 512) (hMX : MR MX) (hMM : MR MM) (hR : Rel k MX MM) : qX11_stands y1 MX (fun z MX1 => qX12_stands y1 MM (fun b MM1 => Rel (k + 1) MX1 MM1)) := by
  refine fmX11_stands (sX11_stands (p1 := y1) hR.1 (Q := fun _ M' => IX M') (fun _ _ h => h)) ?_
  intro z MX1 fX hX
  refine fmX12_stands (sX12_stands (p1 := y1) hR.2.1 (by omega) (Q := fun _ M' => IM (60000 * (k : Int) + 6000) M') (fun _ _ h => h)) ?_
  intro b MM1 fM hM
  exact hR.q hX hM (by omega) (fX 156 1 (by first | omega | exact fun h => h)) (fM 1 14 (by first | omega | exact fun h => h)) (fX 182 2 (by first | omega | exact fun h => h)) (fM 1 45 (by first | omega | exact fun h => h)) (fun j => fX 157 j (by first | omega | exact fun h => h)) (fun j => fM 7 j (by first | omega | exact fun h => h)) (fun j => ⟨fX 183 j (by first | omega | exact fun h => h), fX 184 j (by first | omega | exact fun h => h), fM 26 j (by first | omega | exact fun h => h), fM 27 j (by first | omega | exact fun h => h)⟩) (fun k j q => fX k j (by first | omega | exact fun h => h)) (fun k j q => fM k j (by first | omega | exact fun h => h))
theorem Rk_when (k : Nat) (MX MM : Mem) (y1 : Int) (hy1 : iR y1) (hk : k < 512) (hMX : MR MX) (hMM : MR MM) (hR : Rel k MX MM) : qX11_when y1 MX (fun z MX1 => qX12_when y1 MM (fun b MM1 => Rel (k + 1) MX1 MM1)) := by
  refine fmX11_when (sX11_when (p1 := y1) hR.1 (Q := fun _ M' => IX M') (fun _ _ h => h)) ?_
  intro z MX1 fX hX
  refine fmX12_when (sX12_when (p1 := y1) hR.2.1 (by omega) (Q := fun _ M' => IM (60000 * (k : Int) + 24400) M') (fun _ _ h => h)) ?_
  intro b MM1 fM hM
  exact hR.q hX hM (by omega) (fX 156 1 (by first | omega | exact fun h => h)) (fM 1 14 (by first | omega | exact fun h => h)) (fX 182 2 (by first | omega | exact fun h => h)) (fM 1 45 (by first | omega | exact fun h => h)) (fun j => fX 157 j (by first | omega | exact fun h => h)) (fun j => fM 7 j (by first | omega | exact fun h => h)) (fun j => ⟨fX 183 j (by first | omega | exact fun h => h), fX 184 j (by first | omega | exact fun h => h), fM 26 j (by first | omega | exact fun h => h), fM 27 j (by first | omega | exact fun h => h)⟩) (fun k j q => fX k j (by first | omega | exact fun h => h)) (fun k j q => fM k j (by first | omega | exact fun h => h))
theorem Rk_mends (k : Nat) (MX MM : Mem) (y1 : Int) (hy1 : iR y1) (hk : k < 512) (hMX : MR MX) (hMM : MR MM) (hR : Rel k MX MM) : qX11_mends y1 MX (fun z MX1 => qX12_mends y1 MM (fun b MM1 => Rel (k + 1) MX1 MM1)) := by
  refine fmX11_mends (sX11_mends (p1 := y1) hR.1 (Q := fun _ M' => IX M') (fun _ _ h => h)) ?_
  intro z MX1 fX hX
  refine fmX12_mends (sX12_mends (p1 := y1) hR.2.1 (by omega) (Q := fun _ M' => IM (60000 * (k : Int) + 51200) M') (fun _ _ h => h)) ?_
  intro b MM1 fM hM
  exact hR.q hX hM (by omega) (fX 156 1 (by first | omega | exact fun h => h)) (fM 1 14 (by first | omega | exact fun h => h)) (fX 182 2 (by first | omega | exact fun h => h)) (fM 1 45 (by first | omega | exact fun h => h)) (fun j => fX 157 j (by first | omega | exact fun h => h)) (fun j => fM 7 j (by first | omega | exact fun h => h)) (fun j => ⟨fX 183 j (by first | omega | exact fun h => h), fX 184 j (by first | omega | exact fun h => h), fM 26 j (by first | omega | exact fun h => h), fM 27 j (by first | omega | exact fun h => h)⟩) (fun k j q => fX k j (by first | omega | exact fun h => h)) (fun k j q => fM k j (by first | omega | exact fun h => h))
theorem Rk_misleads (k : Nat) (MX MM : Mem)  (hk : k < 512) (hMX : MR MX) (hMM : MR MM) (hR : Rel k MX MM) : qX11_misleads  MX (fun z MX1 => qX12_misleads  MM (fun b MM1 => Rel (k + 1) MX1 MM1)) := by
  refine fmX11_misleads (sX11_misleads  hR.1 (Q := fun _ M' => IX M') (fun _ _ h => h)) ?_
  intro z MX1 fX hX
  refine fmX12_misleads (sX12_misleads  hR.2.1 (by omega) (Q := fun _ M' => IM (60000 * (k : Int) + 1600) M') (fun _ _ h => h)) ?_
  intro b MM1 fM hM
  exact hR.q hX hM (by omega) (fX 156 1 (by first | omega | exact fun h => h)) (fM 1 14 (by first | omega | exact fun h => h)) (fX 182 2 (by first | omega | exact fun h => h)) (fM 1 45 (by first | omega | exact fun h => h)) (fun j => fX 157 j (by first | omega | exact fun h => h)) (fun j => fM 7 j (by first | omega | exact fun h => h)) (fun j => ⟨fX 183 j (by first | omega | exact fun h => h), fX 184 j (by first | omega | exact fun h => h), fM 26 j (by first | omega | exact fun h => h), fM 27 j (by first | omega | exact fun h => h)⟩) (fun k j q => fX k j (by first | omega | exact fun h => h)) (fun k j q => fM k j (by first | omega | exact fun h => h))
theorem Rk_crowd (k : Nat) (MX MM : Mem)  (hk : k < 512) (hMX : MR MX) (hMM : MR MM) (hR : Rel k MX MM) : qX11_crowd  MX (fun z MX1 => qX12_crowd  MM (fun b MM1 => Rel (k + 1) MX1 MM1)) := by
  refine fmX11_crowd (sX11_crowd  hR.1 (Q := fun _ M' => IX M') (fun _ _ h => h)) ?_
  intro z MX1 fX hX
  refine fmX12_crowd (sX12_crowd  hR.2.1 (by omega) (Q := fun _ M' => IM (60000 * (k : Int) + 200) M') (fun _ _ h => h)) ?_
  intro b MM1 fM hM
  exact hR.q hX hM (by omega) (fX 156 1 (by first | omega | exact fun h => h)) (fM 1 14 (by first | omega | exact fun h => h)) (fX 182 2 (by first | omega | exact fun h => h)) (fM 1 45 (by first | omega | exact fun h => h)) (fun j => fX 157 j (by first | omega | exact fun h => h)) (fun j => fM 7 j (by first | omega | exact fun h => h)) (fun j => ⟨fX 183 j (by first | omega | exact fun h => h), fX 184 j (by first | omega | exact fun h => h), fM 26 j (by first | omega | exact fun h => h), fM 27 j (by first | omega | exact fun h => h)⟩) (fun k j q => fX k j (by first | omega | exact fun h => h)) (fun k j q => fM k j (by first | omega | exact fun h => h))
theorem Rk_shares (k : Nat) (MX MM : Mem) (y1 : Int) (hy1 : iR y1) (hk : k < 512) (hMX : MR MX) (hMM : MR MM) (hR : Rel k MX MM) : qX11_shares y1 MX (fun z MX1 => qX12_shares y1 MM (fun b MM1 => Rel (k + 1) MX1 MM1)) := by
  refine fmX11_shares (sX11_shares (p1 := y1) hR.1 (Q := fun _ M' => IX M') (fun _ _ h => h)) ?_
  intro z MX1 fX hX
  refine fmX12_shares (sX12_shares (p1 := y1) hR.2.1 (Q := fun _ M' => IM (60000 * (k : Int)) M') (fun _ _ h => h)) ?_
  intro b MM1 fM hM
  exact hR.q hX hM (by omega) (fX 156 1 (by first | omega | exact fun h => h)) (fM 1 14 (by first | omega | exact fun h => h)) (fX 182 2 (by first | omega | exact fun h => h)) (fM 1 45 (by first | omega | exact fun h => h)) (fun j => fX 157 j (by first | omega | exact fun h => h)) (fun j => fM 7 j (by first | omega | exact fun h => h)) (fun j => ⟨fX 183 j (by first | omega | exact fun h => h), fX 184 j (by first | omega | exact fun h => h), fM 26 j (by first | omega | exact fun h => h), fM 27 j (by first | omega | exact fun h => h)⟩) (fun k j q => fX k j (by first | omega | exact fun h => h)) (fun k j q => fM k j (by first | omega | exact fun h => h))
theorem Rk_strangers (k : Nat) (MX MM : Mem)  (hk : k < 512) (hMX : MR MX) (hMM : MR MM) (hR : Rel k MX MM) : qX11_strangers  MX (fun z MX1 => qX12_strangers  MM (fun b MM1 => Rel (k + 1) MX1 MM1)) := by
  refine fmX11_strangers (sX11_strangers  hR.1 (Q := fun _ M' => IX M') (fun _ _ h => h)) ?_
  intro z MX1 fX hX
  refine fmX12_strangers (sX12_strangers  hR.2.1 (Q := fun _ M' => IM (60000 * (k : Int)) M') (fun _ _ h => h)) ?_
  intro b MM1 fM hM
  exact hR.q hX hM (by omega) (fX 156 1 (by first | omega | exact fun h => h)) (fM 1 14 (by first | omega | exact fun h => h)) (fX 182 2 (by first | omega | exact fun h => h)) (fM 1 45 (by first | omega | exact fun h => h)) (fun j => fX 157 j (by first | omega | exact fun h => h)) (fun j => fM 7 j (by first | omega | exact fun h => h)) (fun j => ⟨fX 183 j (by first | omega | exact fun h => h), fX 184 j (by first | omega | exact fun h => h), fM 26 j (by first | omega | exact fun h => h), fM 27 j (by first | omega | exact fun h => h)⟩) (fun k j q => fX k j (by first | omega | exact fun h => h)) (fun k j q => fM k j (by first | omega | exact fun h => h))
theorem Rk_doubts (k : Nat) (MX MM : Mem)  (hk : k < 512) (hMX : MR MX) (hMM : MR MM) (hR : Rel k MX MM) : qX11_doubts  MX (fun z MX1 => qX12_doubts  MM (fun b MM1 => Rel (k + 1) MX1 MM1)) := by
  refine fmX11_doubts (sX11_doubts  hR.1 (Q := fun _ M' => IX M') (fun _ _ h => h)) ?_
  intro z MX1 fX hX
  refine fmX12_doubts (sX12_doubts  hR.2.1 (Q := fun _ M' => IM (60000 * (k : Int)) M') (fun _ _ h => h)) ?_
  intro b MM1 fM hM
  exact hR.q hX hM (by omega) (fX 156 1 (by first | omega | exact fun h => h)) (fM 1 14 (by first | omega | exact fun h => h)) (fX 182 2 (by first | omega | exact fun h => h)) (fM 1 45 (by first | omega | exact fun h => h)) (fun j => fX 157 j (by first | omega | exact fun h => h)) (fun j => fM 7 j (by first | omega | exact fun h => h)) (fun j => ⟨fX 183 j (by first | omega | exact fun h => h), fX 184 j (by first | omega | exact fun h => h), fM 26 j (by first | omega | exact fun h => h), fM 27 j (by first | omega | exact fun h => h)⟩) (fun k j q => fX k j (by first | omega | exact fun h => h)) (fun k j q => fM k j (by first | omega | exact fun h => h))
theorem Cl_heard (k : Nat) (MX MM : Mem) (y1 y2 : Int) (hy1 : iR y1) (hy2 : iR y2) (hk : k < 512) (hMX : MR MX) (hMM : MR MM) (hR : Rel k MX MM) : qX11_heard y1 y2 MX (fun z MX1 => qX12_heard y1 y2 MM (fun b MM1 => z = b ∧ Rel (k + 1) MX1 MM1)) := by
  refine fmX11_heard (gX11_heardC (p0 := y1) (p1 := y2) hR.1 (Q := fun z M' => IX M' ∧ ((MX 182 2 ≤ 7 ∧ ((y1 = 0 ∨ y1 = 2) ∧ 0 ≤ y2 ∧ y2 ≤ 8 ∨ y1 = 1 ∧ 1 ≤ y2 ∧ y2 ≤ 6 ∨ y1 = 3 ∧ (y2 = 0 ∨ y2 = 1))) ∧ z = MX 182 2 + 1 ∧ M' 182 2 = MX 182 2 + 1 ∧ M' 183 = up (MX 183) (MX 182 2) y1 ∧ M' 184 = up (MX 184) (MX 182 2) y2 ∨ ¬ (MX 182 2 ≤ 7 ∧ ((y1 = 0 ∨ y1 = 2) ∧ 0 ≤ y2 ∧ y2 ≤ 8 ∨ y1 = 1 ∧ 1 ≤ y2 ∧ y2 ≤ 6 ∨ y1 = 3 ∧ (y2 = 0 ∨ y2 = 1))) ∧ z = -1 ∧ M' 182 2 = MX 182 2 ∧ M' 183 = MX 183 ∧ M' 184 = MX 184)) (fun z M' h q => ⟨h, q⟩)) ?_
  intro z MX1 fX hX
  refine fmX12_heard (gX12_heardC (p0 := y1) (p1 := y2) hR.2.1 hy2 (Q := fun z M' => IM (60000 * (k : Int)) M' ∧ ((MM 1 45 ≤ 7 ∧ ((y1 = 0 ∨ y1 = 2) ∧ 0 ≤ y2 ∧ y2 ≤ 8 ∨ y1 = 1 ∧ 1 ≤ y2 ∧ y2 ≤ 6 ∨ y1 = 3 ∧ (y2 = 0 ∨ y2 = 1))) ∧ z = MM 1 45 + 1 ∧ M' 1 45 = MM 1 45 + 1 ∧ M' 26 = up (MM 26) (MM 1 45) y1 ∧ M' 27 = up (MM 27) (MM 1 45) y2 ∨ ¬ (MM 1 45 ≤ 7 ∧ ((y1 = 0 ∨ y1 = 2) ∧ 0 ≤ y2 ∧ y2 ≤ 8 ∨ y1 = 1 ∧ 1 ≤ y2 ∧ y2 ≤ 6 ∨ y1 = 3 ∧ (y2 = 0 ∨ y2 = 1))) ∧ z = -1 ∧ M' 1 45 = MM 1 45 ∧ M' 26 = MM 26 ∧ M' 27 = MM 27)) (fun z M' h q => ⟨h, q⟩)) ?_
  intro b MM1 fM hM
  have e : MX 182 2 = MM 1 45 := hR.2.2.2.1
  have e2 : MX1 156 1 = MM1 1 14 := by rw [fX 156 1 (by omega), fM 1 14 (by omega)]; exact hR.2.2.1
  have eS : STA (cut MM1) MX1 MM1 := by
    rw [cut_of (fun k j c => fM k j (by omega))]
    exact hR.S.fr hR.E0 hR.1 (fun k j q => fX k j (by omega)) (fun k j q => fM k j (by omega))
  obtain ⟨iX, gX⟩ := hX
  obtain ⟨iM, gM⟩ := hM
  have eH : HRD MX1 MM1 := by
    rcases gX with ⟨c, _, n, x3, x4⟩ | ⟨c, _, n, x3, x4⟩
    · rcases gM with ⟨d, _, _, m3, m4⟩ | ⟨d, _, _, m3, m4⟩
      · exact hR.H.add c.2 n e x3 x4 m3 m4
      · exact absurd ⟨by omega, c.2⟩ d
    · rcases gM with ⟨d, _, _, m3, m4⟩ | ⟨d, _, _, m3, m4⟩
      · exact absurd ⟨by omega, d.2⟩ c
      · exact hR.H.fr n (fun j => ⟨by rw [x3], by rw [x4], by rw [m3], by rw [m4]⟩)
  have ez : z = b ∧ MX1 182 2 = MM1 1 45 := by
    rcases gX with ⟨c, q, n, _⟩ | ⟨c, q, n, _⟩
    · rcases gM with ⟨d, q2, n2, _⟩ | ⟨d, q2, n2, _⟩
      · exact ⟨by omega, by omega⟩
      · exact absurd ⟨by omega, c.2⟩ d
    · rcases gM with ⟨d, q2, n2, _⟩ | ⟨d, q2, n2, _⟩
      · exact absurd ⟨by omega, d.2⟩ c
      · exact ⟨by omega, by omega⟩
  exact ⟨ez.1, iX, iM.mono (by omega), e2, ez.2, fun j a q => by rw [fX 157 j (by omega), fM 7 j (by omega)]; exact hR.2.2.2.2.1 j a (by rw [fX 156 1 (by omega)] at q; exact q), eS, hR.F.fr (fun k j q => fM k j (by omega)), eH⟩
theorem Cl_forget (k : Nat) (MX MM : Mem)  (hk : k < 512) (hMX : MR MX) (hMM : MR MM) (hR : Rel k MX MM) : qX11_forget  MX (fun z MX1 => qX12_forget  MM (fun b MM1 => z = b ∧ Rel (k + 1) MX1 MM1)) := by
  refine fmX11_forget (gX11_forget hR.1 (Q := fun z M' => IX M' ∧ z = MX 182 2 ∧ M' 182 2 = 0) (fun z M' h q r => ⟨h, q, r⟩)) ?_
  intro z MX1 fX hX
  refine fmX12_forget (gX12_forget hR.2.1 (Q := fun z M' => IM (60000 * (k : Int)) M' ∧ z = MM 1 45 ∧ M' 1 45 = 0) (fun z M' h q r => ⟨h, q, r⟩)) ?_
  intro b MM1 fM hM
  have e : MX 182 2 = MM 1 45 := hR.2.2.2.1
  have e2 : MX1 156 1 = MM1 1 14 := by rw [fX 156 1 (by omega), fM 1 14 (by omega)]; exact hR.2.2.1
  have eS : STA (cut MM1) MX1 MM1 := by
    rw [cut_of (fun k j c => fM k j (by omega))]
    exact hR.S.fr hR.E0 hR.1 (fun k j q => fX k j (by omega)) (fun k j q => fM k j (by omega))
  exact ⟨by rw [hX.2.1, hM.2.1]; exact e, hX.1, hM.1.mono (by omega), e2, by rw [hX.2.2, hM.2.2], fun j a q => by rw [fX 157 j (by omega), fM 7 j (by omega)]; exact hR.2.2.2.2.1 j a (by rw [fX 156 1 (by omega)] at q; exact q), eS, hR.F.fr (fun k j q => fM k j (by omega)), HRD.nil hX.2.2⟩
theorem Rk_fits (k : Nat) (MX MM : Mem)  (hk : k < 512) (hMX : MR MX) (hMM : MR MM) (hR : Rel k MX MM) : qX11_fits  MX (fun z MX1 => qX12_fits  MM (fun b MM1 => Rel (k + 1) MX1 MM1)) := by
  refine fmX11_fits (sX11_fits  hR.1 (Q := fun _ M' => IX M') (fun _ _ h => h)) ?_
  intro z MX1 fX hX
  refine fmX12_fits (sX12_fits  hR.2.1 (by omega) (Q := fun _ M' => IM (60000 * (k : Int) + 200) M') (fun _ _ h => h)) ?_
  intro b MM1 fM hM
  exact hR.q hX hM (by omega) (fX 156 1 (by first | omega | exact fun h => h)) (fM 1 14 (by first | omega | exact fun h => h)) (fX 182 2 (by first | omega | exact fun h => h)) (fM 1 45 (by first | omega | exact fun h => h)) (fun j => fX 157 j (by first | omega | exact fun h => h)) (fun j => fM 7 j (by first | omega | exact fun h => h)) (fun j => ⟨fX 183 j (by first | omega | exact fun h => h), fX 184 j (by first | omega | exact fun h => h), fM 26 j (by first | omega | exact fun h => h), fM 27 j (by first | omega | exact fun h => h)⟩) (fun k j q => fX k j (by first | omega | exact fun h => h)) (fun k j q => fM k j (by first | omega | exact fun h => h))
theorem Cl_rains (k : Nat) (MX MM : Mem) (y1 y2 y3 : Int) (hy1 : iR y1) (hy2 : iR y2) (hy3 : iR y3) (hk : k < 512) (hMX : MR MX) (hMM : MR MM) (hR : Rel k MX MM) : qX11_rains y1 y2 y3 MX (fun z MX1 => qX12_rains y1 y2 y3 MM (fun b MM1 => z = b ∧ Rel (k + 1) MX1 MM1)) := by
  refine fmX11_rains (gX11_rains (p1 := y1) (p2 := y2) (p3 := y3) hR.1 (Q := fun z M' => IX M' ∧ (z = if (1 ≤ y1 ∧ y1 ≤ 12) ∧ (0 ≤ y2 ∧ y2 ≤ 12) ∧ (0 ≤ y3 ∧ y3 ≤ 10) then 0 else -1)) (fun z M' h q => ⟨h, q⟩)) ?_
  intro z MX1 fX hX
  refine fmX12_rains (sX12_rains (p1 := y1) (p2 := y2) (p3 := y3) hR.2.1 (Q := fun z M' => IM (60000 * (k : Int)) M' ∧ (z = if (1 ≤ y1 ∧ y1 ≤ 12) ∧ (0 ≤ y2 ∧ y2 ≤ 12) ∧ (0 ≤ y3 ∧ y3 ≤ 10) then 0 else -1)) (fun z M' h q => ⟨h, q⟩)) ?_
  intro b MM1 fM hM
  exact ⟨by rw [hX.2, hM.2], hR.q hX.1 hM.1 (by omega) (fX 156 1 (by omega)) (fM 1 14 (by omega)) (fX 182 2 (by omega)) (fM 1 45 (by omega)) (fun j => fX 157 j (by omega)) (fun j => fM 7 j (by omega)) (fun j => ⟨fX 183 j (by omega), fX 184 j (by omega), fM 26 j (by omega), fM 27 j (by omega)⟩) (fun k j q => fX k j (by omega)) (fun k j q => fM k j (by omega))⟩
theorem Rk_law (k : Nat) (MX MM : Mem)  (hk : k < 512) (hMX : MR MX) (hMM : MR MM) (hR : Rel k MX MM) : qX11_law  MX (fun z MX1 => qX12_law  MM (fun b MM1 => Rel (k + 1) MX1 MM1)) := by
  have S := hR.S
  refine fmX11_law (fzX11_law (keX11_law hR.1 (Q := fun z M' => IX M' ∧ M' 155 16 = MX 155 16 ∧ ∀ (k : Nat) (j : Int), (MX 155 16).toNat ≤ k → k ≤ (MX 155 16).toNat + 2 → M' k j = MX k j) (fun z M' i a c => ⟨i, a, c⟩)) (Q' := fun z M' => M' 156 1 = 0 ∧ IX M' ∧ M' 155 16 = MX 155 16 ∧ ∀ (k : Nat) (j : Int), (MX 155 16).toNat ≤ k → k ≤ (MX 155 16).toNat + 2 → M' k j = MX k j) (fun _ M' z h => ⟨z, h⟩)) ?_
  intro z MX1 fX hX
  obtain ⟨lX, iX, x0, x1⟩ := hX
  refine fmX12_law (fzX12_law (keX12_law hR.2.1 (by omega) (Q := fun z M' => IM (60000 * (k : Int) + 400) M' ∧ M' 1 24 = MM 1 24 ∧ ∀ j, 0 ≤ j → j < MM 1 24 → M' 11 j = MM 11 j) (fun z M' i a c => ⟨i, a, c⟩)) (Q' := fun z M' => M' 1 14 = 0 ∧ IM (60000 * (k : Int) + 400) M' ∧ M' 1 24 = MM 1 24 ∧ ∀ j, 0 ≤ j → j < MM 1 24 → M' 11 j = MM 11 j) (fun _ M' z h => ⟨z, h⟩)) ?_
  intro b MM1 fM hM
  obtain ⟨lM, iM, m0, m1⟩ := hM
  refine hR.t iX iM (by omega) lX lM (fX 182 2 (by omega)) (fM 1 45 (by omega)) (fun j => ⟨fX 183 j (by omega), fX 184 j (by omega), fM 26 j (by omega), fM 27 j (by omega)⟩) (hR.F.fr (fun k j q => fM k j (by omega))) ?_
  refine S.rule hR.E0 hR.1 (fun k j h1 h2 => ?_) (fun k j h => fX k j (by omega)) ?_ (fun k j h => fM k j (by omega))
  · by_cases h : cE k j
    · rw [cut_p h, cut_p h]
      exact fM k j (by omega)
    · unfold cut
      rw [if_neg h, if_neg h]
  · rw [x0]
    refine (S.2.1.fr (x1 _ _ (by omega) (by omega)) (x1 _ _ (by omega) (by omega)) (fun j => x1 _ j (by omega) (by omega)) (fun j => x1 _ j (by omega) (by omega))).ce ?_ (fun j a q => ?_)
    · rw [cut124, cut124]
      exact m0
    · rw [cut124] at q
      rw [cut11, cut11]
      exact m1 j a q
theorem Cl_rests (k : Nat) (MX MM : Mem) (y1 : Int) (hy1 : iR y1) (hk : k < 512) (hMX : MR MX) (hMM : MR MM) (hR : Rel k MX MM) : qX11_rests y1 MX (fun z MX1 => qX12_rests y1 MM (fun b MM1 => z = b ∧ Rel (k + 1) MX1 MM1)) := by
  refine fmX11_rests (gX11_rests (p1 := y1) hR.1 (Q := fun z M' => IX M' ∧ (z = RSF y1)) (fun z M' h q => ⟨h, q⟩)) ?_
  intro z MX1 fX hX
  refine fmX12_rests (gX12_rests (p1 := y1) hR.2.1 (Q := fun z M' => IM (60000 * (k : Int)) M' ∧ (z = RSF y1)) (fun z M' h q => ⟨h, q⟩)) ?_
  intro b MM1 fM hM
  exact ⟨by rw [hX.2, hM.2], hR.q hX.1 hM.1 (by omega) (fX 156 1 (by omega)) (fM 1 14 (by omega)) (fX 182 2 (by omega)) (fM 1 45 (by omega)) (fun j => fX 157 j (by omega)) (fun j => fM 7 j (by omega)) (fun j => ⟨fX 183 j (by omega), fX 184 j (by omega), fM 26 j (by omega), fM 27 j (by omega)⟩) (fun k j q => fX k j (by omega)) (fun k j q => fM k j (by omega))⟩
theorem Cl_keep (k : Nat) (MX MM : Mem) (y1 : Int) (hy1 : iR y1) (hk : k < 512) (hMX : MR MX) (hMM : MR MM) (hR : Rel k MX MM) : qX11_keep y1 MX (fun z MX1 => qX12_keep y1 MM (fun b MM1 => z = b ∧ Rel (k + 1) MX1 MM1)) := by
  have S := hR.S
  refine fmX11_keep (gX11_keepC (p1 := y1) hR.1 (Q := fun z M' => IX M' ∧ (0 ≤ y1 ∧ y1 ≤ 2 → z = 1 ∧ Ks (fun k j => (29 + 7 * y1.toNat ≤ k ∧ k ≤ 35 + 7 * y1.toNat) ∨ (k = 166 ∧ j = y1)) MX M' ∧ M' 166 y1 = 1 ∧ (∀ (E : Mem) (r : Int → Int), SC E MX 1 r → SC E M' (29 + 7 * y1.toNat) r) ∧ M' (29 + 7 * y1.toNat) 6 = MX 1 6 ∧ M' (29 + 7 * y1.toNat) 7 = MX 1 7) ∧ (¬ (0 ≤ y1 ∧ y1 ≤ 2) → z = 0 ∧ M' = MX)) (fun c M' i a1 a2 a3 a4 => ⟨i, fun _ => ⟨rfl, a1, a2, a3, a4⟩, fun n => absurd c n⟩) (fun n => ⟨hR.1, fun c => absurd c n, fun _ => ⟨rfl, rfl⟩⟩)) ?_
  intro z MX1 fX hX
  obtain ⟨iX, yX, nX⟩ := hX
  refine fmX12_keep (gX12_keepC (p1 := y1) hR.2.1 (Q := fun z M' => IM (60000 * (k : Int)) M' ∧ (0 ≤ y1 ∧ y1 ≤ 2 → z = 1 ∧ FrJ (fun k j => (k = 31 ∧ 38 * y1 ≤ j ∧ j < 38 * y1 + 38) ∨ (k = 29 ∧ j = y1) ∨ (k = 30 ∧ j = y1) ∨ (k = 1 ∧ j = 0)) MM M' ∧ M' 29 y1 = 1 ∧ M' 30 y1 = MM 1 6 ∧ (∀ j, 0 ≤ j → j < 38 → M' 31 (38 * y1 + j) = MM 5 j)) ∧ (¬ (0 ≤ y1 ∧ y1 ≤ 2) → z = 0 ∧ FrJ (fun k j => k = 1 ∧ j = 0) MM M')) (fun c M' i a1 a2 a3 a4 => ⟨i, fun _ => ⟨rfl, a1, a2, a3, a4⟩, fun n => absurd c n⟩) (fun n M' i a => ⟨i, fun c => absurd c n, fun _ => ⟨rfl, a⟩⟩)) ?_
  intro b MM1 fM hM
  obtain ⟨iM, yM, nM⟩ := hM
  by_cases c : 0 ≤ y1 ∧ y1 ≤ 2
  · obtain ⟨ez, x1, x2, x3, x4⟩ := yX c
    obtain ⟨eb, m1, m2, m3, m4⟩ := yM c
    have hF : FOLS MM1 := hR.F.keep S hR.E0 c m1 m4
    refine ⟨by rw [ez, eb], hR.s iX iM (by omega) (fX 156 1 (by omega)) (fM 1 14 (by omega)) (fX 182 2 (by omega)) (fM 1 45 (by omega)) (fun j => fX 157 j (by omega)) (fun j => fM 7 j (by omega)) (fun j => ⟨fX 183 j (by omega), fX 184 j (by omega), fM 26 j (by omega), fM 27 j (by omega)⟩) (fun k j q => fM k j (by omega)) hF ?_⟩
    exact S.keep (b := 0) hR.E0 hR.1 c x1 x2 x3 x4 m1 m2 m3 m4
  · obtain ⟨ez, x1⟩ := nX c
    obtain ⟨eb, m1⟩ := nM c
    have hF : FOLS MM1 := hR.F.fr (fun k j q => m1 k j (by omega))
    refine ⟨by rw [ez, eb], hR.s iX iM (by omega) (fX 156 1 (by omega)) (fM 1 14 (by omega)) (fX 182 2 (by omega)) (fM 1 45 (by omega)) (fun j => fX 157 j (by omega)) (fun j => fM 7 j (by omega)) (fun j => ⟨fX 183 j (by omega), fX 184 j (by omega), fM 26 j (by omega), fM 27 j (by omega)⟩) (fun k j q => fM k j (by omega)) hF ?_⟩
    exact S.fr hR.E0 hR.1 (fun k j q => by rw [x1]) (fun k j q => m1 k j (by omega))
theorem Cl_again (k : Nat) (MX MM : Mem) (y1 : Int) (hy1 : iR y1) (hk : k < 512) (hMX : MR MX) (hMM : MR MM) (hR : Rel k MX MM) : qX11_again y1 MX (fun z MX1 => qX12_again y1 MM (fun b MM1 => z = b ∧ Rel (k + 1) MX1 MM1)) := by
  have S := hR.S
  have c6 : MX 1 6 = cut MM 1 4 := S.2.2.1.1
  have c7 : MX 1 7 = cut MM 1 5 := S.2.2.1.2.1
  have hc : ((0 ≤ y1 ∧ y1 ≤ 2) ∧ MX 166 y1 ≠ 0 ∧ MX (29 + 7 * y1.toNat) 6 = MX 1 6 ∧ MX (29 + 7 * y1.toNat) 7 = MX 1 7) ↔ ((0 ≤ y1 ∧ y1 ≤ 2) ∧ MM 29 y1 ≠ 0 ∧ MM 30 y1 = MM 1 6) := by
    refine ⟨fun h => ?_, fun h => ?_⟩
    · obtain ⟨k1, k2⟩ := S.2.2.2.2.2 y1 h.1.1 (by have := h.1.2; omega)
      obtain ⟨a1, a2, a3, a4⟩ := k2 h.2.1
      refine ⟨h.1, fun q => h.2.1 (k1.mpr q), ?_⟩
      by_cases c : MM 30 y1 = MM 1 6
      · exact c
      · have := h.2.2
        rcases a4 (by omega) with q | q <;> omega
    · obtain ⟨k1, k2⟩ := S.2.2.2.2.2 y1 h.1.1 (by have := h.1.2; omega)
      have n0 : MX 166 y1 ≠ 0 := fun q => h.2.1 (k1.mp q)
      obtain ⟨a1, a2, a3, a4⟩ := k2 n0
      have s := (a3 h.2.2).1
      exact ⟨h.1, n0, by rw [c6]; exact s.1, by rw [c7]; exact s.2.1⟩
  refine fmX11_again (gX11_again (p1 := y1) hR.1 (Q := fun z M' => IX M' ∧ ((0 ≤ y1 ∧ y1 ≤ 2) ∧ MX 166 y1 ≠ 0 ∧ MX (29 + 7 * y1.toNat) 6 = MX 1 6 ∧ MX (29 + 7 * y1.toNat) 7 = MX 1 7 → z = 1 ∧ Ks (fun k j => (1 ≤ k ∧ k ≤ 7) ∨ (k = 163 ∧ j = 2)) MX M' ∧ M' 163 2 = 0 ∧ (∀ (E : Mem) (r : Int → Int), SC E MX (29 + 7 * y1.toNat) r → SC E M' 1 r)) ∧ (¬ ((0 ≤ y1 ∧ y1 ≤ 2) ∧ MX 166 y1 ≠ 0 ∧ MX (29 + 7 * y1.toNat) 6 = MX 1 6 ∧ MX (29 + 7 * y1.toNat) 7 = MX 1 7) → z = 0 ∧ M' = MX)) (fun c0 c1 c2 c3 M' i a1 a2 a3 => ⟨i, fun _ => ⟨rfl, a1, a2, a3⟩, fun n => absurd ⟨c0, c1, c2, c3⟩ n⟩) (fun n => ⟨hR.1, fun c => absurd c n, fun _ => ⟨rfl, rfl⟩⟩)) ?_
  intro z MX1 fX hX
  obtain ⟨iX, yX, nX⟩ := hX
  refine fmX12_again (gX12_again (p1 := y1) hR.2.1 (Q := fun z M' => IM (60000 * (k : Int)) M' ∧ ((0 ≤ y1 ∧ y1 ≤ 2) ∧ MM 29 y1 ≠ 0 ∧ MM 30 y1 = MM 1 6 → z = 1 ∧ FrJ (fun k j => k = 5 ∨ (k = 1 ∧ (j = 0 ∨ j = 28))) MM M' ∧ M' 1 28 = 0 ∧ (∀ j, 0 ≤ j → j < 38 → M' 5 j = MM 31 (38 * y1 + j))) ∧ (¬ ((0 ≤ y1 ∧ y1 ≤ 2) ∧ MM 29 y1 ≠ 0 ∧ MM 30 y1 = MM 1 6) → z = 0 ∧ FrJ (fun k j => k = 1 ∧ j = 0) MM M')) (fun c0 c1 c2 M' i a1 a2 a3 => ⟨i, fun _ => ⟨rfl, a1, a2, a3⟩, fun n => absurd ⟨c0, c1, c2⟩ n⟩) (fun n M' i a => ⟨i, fun c => absurd c n, fun _ => ⟨rfl, a⟩⟩)) ?_
  intro b MM1 fM hM
  obtain ⟨iM, yM, nM⟩ := hM
  by_cases c : (0 ≤ y1 ∧ y1 ≤ 2) ∧ MM 29 y1 ≠ 0 ∧ MM 30 y1 = MM 1 6
  · obtain ⟨ez, x1, x2, x3⟩ := yX (hc.mpr c)
    obtain ⟨eb, m1, m2, m3⟩ := yM c
    have hF : FOLS MM1 := hR.F.again S hR.E0 c.1 c.2.1 c.2.2 m1 m2 m3
    refine ⟨by rw [ez, eb], hR.s iX iM (by omega) (fX 156 1 (by omega)) (fM 1 14 (by omega)) (fX 182 2 (by omega)) (fM 1 45 (by omega)) (fun j => fX 157 j (by omega)) (fun j => fM 7 j (by omega)) (fun j => ⟨fX 183 j (by omega), fX 184 j (by omega), fM 26 j (by omega), fM 27 j (by omega)⟩) (fun k j q => fM k j (by omega)) hF ?_⟩
    exact S.again (p1 := y1) hR.E0 hR.1 c.1 (hc.mpr c).2.1 c.2.2 x1 x2 x3 m1 m2 m3
  · obtain ⟨ez, x1⟩ := nX (fun q => c (hc.mp q))
    obtain ⟨eb, m1⟩ := nM c
    have hF : FOLS MM1 := hR.F.fr (fun k j q => m1 k j (by omega))
    refine ⟨by rw [ez, eb], hR.s iX iM (by omega) (fX 156 1 (by omega)) (fM 1 14 (by omega)) (fX 182 2 (by omega)) (fM 1 45 (by omega)) (fun j => fX 157 j (by omega)) (fun j => fM 7 j (by omega)) (fun j => ⟨fX 183 j (by omega), fX 184 j (by omega), fM 26 j (by omega), fM 27 j (by omega)⟩) (fun k j q => fM k j (by omega)) hF ?_⟩
    exact S.fr hR.E0 hR.1 (fun k j q => by rw [x1]) (fun k j q => m1 k j (by omega))
theorem Rk_count (k : Nat) (MX MM : Mem) (y1 : Int) (hy1 : iR y1) (hk : k < 512) (hMX : MR MX) (hMM : MR MM) (hR : Rel k MX MM) : qX11_count y1 MX (fun z MX1 => qX12_count y1 MM (fun b MM1 => Rel (k + 1) MX1 MM1)) := by
  refine fmX11_count (sX11_count (p1 := y1) hR.1 (Q := fun _ M' => IX M') (fun _ => hR.1)) ?_
  intro z MX1 fX hX
  refine fmX12_count (sX12_count (p1 := y1) hR.2.1 (Q := fun _ M' => IM (60000 * (k : Int)) M') (fun _ _ h => h)) ?_
  intro b MM1 fM hM
  exact hR.q hX hM (by omega) (fX 156 1 (by first | omega | exact fun h => h)) (fM 1 14 (by first | omega | exact fun h => h)) (fX 182 2 (by first | omega | exact fun h => h)) (fM 1 45 (by first | omega | exact fun h => h)) (fun j => fX 157 j (by first | omega | exact fun h => h)) (fun j => fM 7 j (by first | omega | exact fun h => h)) (fun j => ⟨fX 183 j (by first | omega | exact fun h => h), fX 184 j (by first | omega | exact fun h => h), fM 26 j (by first | omega | exact fun h => h), fM 27 j (by first | omega | exact fun h => h)⟩) (fun k j q => fX k j (by first | omega | exact fun h => h)) (fun k j q => fM k j (by first | omega | exact fun h => h))
theorem Rk_row (k : Nat) (MX MM : Mem) (y1 : Int) (hy1 : iR y1) (hk : k < 512) (hMX : MR MX) (hMM : MR MM) (hR : Rel k MX MM) : qX11_row y1 MX (fun z MX1 => qX12_row y1 MM (fun b MM1 => Rel (k + 1) MX1 MM1)) (fun MX1 => qX12_row y1 MM (fun b MM1 => Rel (k + 1) MX1 MM1)) := by
  refine fmX11_row (sX11_row (p1 := y1) hR.1 (Q := fun _ M' => IX M') (E := fun M' => IX M') (fun _ _ h => h) (fun _ h => h)) ?_ ?_
  · intro z MX1 fX hX
    refine fmX12_row (sX12_row (p1 := y1) hR.2.1 (Q := fun _ M' => IM (60000 * (k : Int)) M') (fun _ _ h => h)) ?_
    intro b MM1 fM hM
    exact hR.q hX hM (by omega) (fX 156 1 (by first | omega | exact fun h => h)) (fM 1 14 (by first | omega | exact fun h => h)) (fX 182 2 (by first | omega | exact fun h => h)) (fM 1 45 (by first | omega | exact fun h => h)) (fun j => fX 157 j (by first | omega | exact fun h => h)) (fun j => fM 7 j (by first | omega | exact fun h => h)) (fun j => ⟨fX 183 j (by first | omega | exact fun h => h), fX 184 j (by first | omega | exact fun h => h), fM 26 j (by first | omega | exact fun h => h), fM 27 j (by first | omega | exact fun h => h)⟩) (fun k j q => fX k j (by first | omega | exact fun h => h)) (fun k j q => fM k j (by first | omega | exact fun h => h))
  · intro MX1 fX hX
    refine fmX12_row (sX12_row (p1 := y1) hR.2.1 (Q := fun _ M' => IM (60000 * (k : Int)) M') (fun _ _ h => h)) ?_
    intro b MM1 fM hM
    exact hR.q hX hM (by omega) (fX 156 1 (by first | omega | exact fun h => h)) (fM 1 14 (by first | omega | exact fun h => h)) (fX 182 2 (by first | omega | exact fun h => h)) (fM 1 45 (by first | omega | exact fun h => h)) (fun j => fX 157 j (by first | omega | exact fun h => h)) (fun j => fM 7 j (by first | omega | exact fun h => h)) (fun j => ⟨fX 183 j (by first | omega | exact fun h => h), fX 184 j (by first | omega | exact fun h => h), fM 26 j (by first | omega | exact fun h => h), fM 27 j (by first | omega | exact fun h => h)⟩) (fun k j q => fX k j (by first | omega | exact fun h => h)) (fun k j q => fM k j (by first | omega | exact fun h => h))
end
section
/-! ONE HEARSE, ONE MOURNER -/
theorem up_00 (M : Mem) {k : Nat} {j : Int} (h : ¬ (k = 1 ∧ j = 0)) : up2 M 1 0 0 k j = M k j := by
  rw [up2_a]
  by_cases c : k = 1
  · rw [if_pos c, if_neg (fun q => h ⟨c, q⟩)]
  · rw [if_neg c]
theorem gX11_paceNow {p1 : Int} {M E : Mem} {r : Int → Int} {Q : Int → Mem → Prop} (hI : IX M) (hS : STR E M) (hL : LAW E M (M 155 16).toNat) (hw : WFC (E 11) (E 1 24)) (hC : SC E M 1 r) (hW : WR E r) (h37 : r 37 ≤ 2000000000) (hp : 0 ≤ p1 ∧ p1 < E 1 4) (hQ : ∀ M' : Mem, IX M' → Q (if r p1 < 0 then 0 else paF E r p1) M') : qX11_paceNow p1 M Q := by
  have eb := hS.eb
  have e4 := eb.2.1
  have w := hW.2.1 p1 hp.1 hp.2
  have c2 : M 3 p1 = r (6 + p1) := hC.2.2.2.1 p1 hp.1 (by omega)
  have el : (M 155 16).toNat = 187 ∨ (M 155 16).toNat = 192 := hI.l16
  unfold qX11_paceNow
  refine gX6_hasArrived (k0 := 1) (by omega) ?_
  intro x1 h1 _ _
  rw [show M (1 + 2) p1 = M 3 p1 from rfl, c2] at h1
  refine ⟨fun c => ⟨hI.l16, ?_⟩, fun c => ?_⟩
  · refine gX2_observe hI hI.l16 (show isS 1 by decide) hS hC hW hp (by omega) (by omega) ?_
    intro M4 i4 k4 o4
    have g16 : M4 155 16 = M 155 16 := k4 155 16 (by omega)
    refine ⟨i4.l16, ?_⟩
    rw [g16]
    have L4 : LAW E M4 (M 155 16).toNat := hL.fr (k4 _ _ (by omega)) (k4 _ _ (by omega)) (fun j => k4 _ j (by omega)) (fun j => k4 _ j (by omega))
    refine gX2_pace (e := envF E r p1) i4 hI.l16 L4 hw ?_ ?_
    · exact o4
    · intro M6 i6 _ _
      have := hQ M6 i6
      rw [if_neg (by omega)] at this
      exact this
  · have := hQ M hI
    rw [if_pos (by omega)] at this
    exact this
theorem gX11_hearse {p1 p2 : Int} {M E : Mem} {r : Int → Int} {Q : Int → Mem → Prop} {X : Mem → Prop} (hI : IX M) (hS : STR E M) (hL : LAW E M (M 155 16).toNat) (hw : WFC (E 11) (E 1 24)) (hC : SC E M 1 r) (hW : WR E r) (h37 : r 37 ≤ 2000000000) (hQ : heOK E p1 p2 → ∀ M' : Mem, IX M' → Q (heF E r p1 p2) M') (hX : ¬ heOK E p1 p2 → X M) : qX11_hearse p1 p2 M Q X := by
  have eb := hS.eb
  have ef := eb.f
  have e4 := eb.2.1
  have e5 := eb.2.2
  obtain ⟨c6, c7, a1, a2, a3, a4, a5, a6, a7, a8, a9⟩ := id hC
  unfold qX11_hearse
  refine gX6_isHearse hC ?_
  intro x1 h1 _ _
  refine ⟨fun c => ?_, fun c => hX (fun q => by have := q.1; omega)⟩
  have hp : 0 ≤ p1 ∧ p1 < E 1 4 := by omega
  unfold heF at hQ
  refine ⟨fun d => ?_, fun d => ?_, fun d => ?_, fun d => ?_, fun d => ?_, fun d => ?_, fun d => ?_⟩
  · refine ⟨by omega, by omega, ?_⟩
    intro x6 e6 _
    have := hQ ⟨hp, by omega⟩ M hI
    rw [if_pos d] at this
    rw [e6, show M 2 p1 = r p1 from a1 p1 hp.1 (by omega)]
    exact this
  · refine ⟨by omega, by omega, ?_⟩
    intro x6 e6 _
    have := hQ ⟨hp, by omega⟩ M hI
    rw [if_neg (by omega), if_pos d] at this
    rw [e6, show M 3 p1 = r (6 + p1) from a2 p1 hp.1 (by omega)]
    exact this
  · refine gX11_paceNow hI hS hL hw hC hW h37 hp ?_
    intro M' i' _
    have := hQ ⟨hp, by omega⟩ M' i'
    rw [if_neg (by omega), if_neg (by omega), if_pos d] at this
    exact this
  · refine gX6_bitsOf (k0 := 1) (k1 := 6) hS c7 ?_
    intro _
    have := hQ ⟨hp, by omega⟩ M hI
    rw [if_neg (by omega), if_neg (by omega), if_neg (by omega), if_pos d] at this
    rw [bitF_cg (g := fun m => r (21 + m)) (fun i p q => a6 i p (by omega))]
    exact this
  · refine gX6_bitsOf (k0 := 1) (k1 := 7) hS c7 ?_
    intro _
    have := hQ ⟨hp, by omega⟩ M hI
    rw [if_neg (by omega), if_neg (by omega), if_neg (by omega), if_neg (by omega), if_pos d] at this
    rw [bitF_cg (g := fun m => r (29 + m)) (fun i p q => a7 i p (by omega))]
    exact this
  · refine gX6_bitsOf (k0 := 1) (k1 := 5) hS c7 ?_
    intro _
    have := hQ ⟨hp, by omega⟩ M hI
    rw [if_neg (by omega), if_neg (by omega), if_neg (by omega), if_neg (by omega), if_neg (by omega)] at this
    rw [bitF_cg (g := E 3) (fun i p q => a5 i p (by omega))]
    exact this
  · exact hX (fun q => by have := q.2; omega)
theorem gX12_refuse {b : Int} {M : Mem} {Q : Int → Mem → Prop} (hI : IM b M) (hQ : ∀ M' : Mem, IM b M' → M' 1 0 = 1 → Q 0 M') : qX12_refuse M Q := by
  unfold qX12_refuse
  intro M1 h1
  exact hQ M1 (by rw [h1]; exact hI.up (by omega) (by simp [BM])) (by rw [h1, up2_s])
theorem gX12_hearse {p1 p2 b : Int} {M E : Mem} {Q : Int → Mem → Prop} (hI : IM b M) (hE : CE E M) (hE0 : EBx E) (hW : WR E (M 5)) (hQ : heOK E p1 p2 → ∀ M' : Mem, IM b M' → M' 1 0 = 0 → Q (heF E (M 5) p1 p2) M') (hX : ¬ heOK E p1 p2 → ∀ M' : Mem, IM b M' → M' 1 0 = 1 → Q 0 M') : qX12_hearse p1 p2 M Q := by
  have e4 := hE0.2.1
  have e5 := hE0.2.2
  unfold qX12_hearse
  intro M1 h1
  have i1 : IM b M1 := by rw [h1]; exact hI.up (by omega) (by simp [BM])
  have z1 : M1 1 0 = 0 := by rw [h1, up2_s]
  have k5 : M1 5 = M 5 := by rw [h1, up2_n (by decide)]
  have E1 : CE E M1 := fun k j h => by rw [h1, up_00 M (by rcases h with h | h | h | h | h <;> omega)]; exact hE k j h
  have g14 : M1 1 4 = E 1 4 := E1 1 4 cE14
  have BAD : ¬ heOK E p1 p2 → qX12_hearse_J25 p1 p2 Q M1 := by
    intro n
    unfold qX12_hearse_J25
    exact gX12_refuse i1 (fun M' i' z' _ => hX n M' i' z')
  unfold qX12_isHearse
  intro x1 e1 _
  refine ⟨⟨by omega, by omega⟩, ?_⟩
  refine sX12_in (p0 := p1) (p2 := 0) (p4 := x1 - 1) i1 ?_
  intro z hz _ _
  refine ⟨by rcases hz.1 with q | q <;> omega, ?_⟩
  intro _ _
  refine ⟨fun c => BAD (fun q => by have := hz.2.2 c; have := q.1; omega), fun c => ?_⟩
  have hp0 := hz.2.1 (by rcases hz.1 with q | q <;> omega)
  have hp : 0 ≤ p1 ∧ p1 < E 1 4 := by omega
  refine sX12_in (p0 := p2) (p2 := 0) (p4 := 5) i1 ?_
  intro z2 hz2 _ _
  refine ⟨fun c2 => ?_, fun c2 => BAD (fun q => by have := hz2.2.2 c2; have := q.2; omega)⟩
  have h2 := hz2.2.1 (by rcases hz2.1 with q | q <;> omega)
  have G := hQ ⟨hp, by omega⟩
  unfold heF at G
  rw [← k5] at G
  refine ⟨fun d => ?_, fun d => ?_, fun d => ?_, fun d => ?_, fun d => ?_, fun d => ?_⟩
  · refine ⟨by omega, by omega, ?_⟩
    intro x10 e10 _
    have := G M1 i1 z1
    rw [if_pos d] at this
    rw [e10]
    exact this
  · refine ⟨by omega, by omega, ?_⟩
    intro x10 e10 _
    have := G M1 i1 z1
    rw [if_neg (by omega), if_pos d] at this
    rw [e10]
    exact this
  · by_cases on : M1 5 p1 < 0
    · unfold qX12_paceOf
      refine gX12_isOn (k0 := 5) (by omega) ?_
      intro zo ho _ _
      refine ⟨fun q => by omega, fun q => ?_⟩
      intro _
      have := G M1 i1 z1
      rw [if_neg (by omega), if_neg (by omega), if_pos d, if_pos on] at this
      exact this
    · refine fmX12_paceOf (gX12_paceOf (E := E) i1 E1 (Or.inl rfl) ⟨by omega, by omega, by omega⟩ (Q := fun z M' => IM b M' ∧ z = paF E (M1 5) p1) (fun M' i' _ => ⟨i', rfl⟩)) ?_
      intro x14 M14 k14 hh _
      obtain ⟨i14, e14⟩ := hh
      have := G M14 i14 (by rw [k14 1 0 (by omega)]; exact z1)
      rw [if_neg (by omega), if_neg (by omega), if_pos d, if_neg on] at this
      rw [e14]
      exact this
  · refine gX12_bitsBy i1 E1 (by decide) ?_
    intro _
    have := G M1 i1 z1
    rw [if_neg (by omega), if_neg (by omega), if_neg (by omega), if_pos d] at this
    exact this
  · refine gX12_bitsBy i1 E1 (by decide) ?_
    intro _
    have := G M1 i1 z1
    rw [if_neg (by omega), if_neg (by omega), if_neg (by omega), if_neg (by omega), if_pos d] at this
    exact this
  · refine gX12_owners i1 E1 ?_
    intro _
    have := G M1 i1 z1
    rw [if_neg (by omega), if_neg (by omega), if_neg (by omega), if_neg (by omega), if_neg (by omega)] at this
    exact this
theorem gX11_mourner {p1 p2 : Int} {M E : Mem} {r : Int → Int} {Q : Int → Mem → Prop} {X : Mem → Prop} (hI : IX M) (hS : STR E M) (hC : SC E M 1 r) (hW : WR E r) (hQ : moOK E p1 p2 → Q (moF E r p1 p2) M) (hX : ¬ moOK E p1 p2 → X M) : qX11_mourner p1 p2 M Q X := by
  have eb := hS.eb
  have e3 := eb.1
  have e4 := eb.2.1
  have e5 := eb.2.2
  have eg : eG E = E 1 3 - 1 := rfl
  obtain ⟨c6, c7, a1, a2, a3, a4, a5, a6, a7, a8, a9⟩ := id hC
  unfold qX11_mourner
  refine gX6_isMourner hC ?_
  intro x1 h1 _ _
  refine ⟨fun c => ?_, fun c => hX (fun q => by have := q.1; omega)⟩
  have hp : 0 ≤ p1 ∧ p1 < E 1 5 := by omega
  have w := hW.2.2.1 p1 hp.1 hp.2
  unfold moF at hQ
  refine ⟨fun d => ?_, fun d => ?_, fun d => ?_, fun d => ?_, fun d => ?_, fun d => ?_⟩
  · refine ⟨by omega, by omega, ?_⟩
    intro x6 e6 _
    have := hQ ⟨hp, by omega⟩
    rw [if_pos d] at this
    rw [e6, show M 4 p1 = r (13 + p1) from a4 p1 hp.1 (by omega)]
    exact this
  · refine ⟨by omega, by omega, ?_⟩
    intro x6 e6 _
    have := hQ ⟨hp, by omega⟩
    rw [if_neg (by omega), if_pos d] at this
    rw [e6, show M 5 p1 = E 3 p1 from a5 p1 hp.1 (by omega)]
    exact this
  · refine ⟨by omega, by omega, ?_⟩
    intro x6 e6 _
    have := hQ ⟨hp, by omega⟩
    rw [if_neg (by omega), if_neg (by omega), if_pos d] at this
    rw [e6, show M 6 p1 = r (21 + p1) from a6 p1 hp.1 (by omega)]
    exact this
  · refine ⟨by omega, by omega, ?_⟩
    intro x6 e6 _
    have := hQ ⟨hp, by omega⟩
    rw [if_neg (by omega), if_neg (by omega), if_neg (by omega), if_pos d] at this
    rw [e6, show M 7 p1 = r (29 + p1) from a7 p1 hp.1 (by omega)]
    exact this
  · refine ⟨by omega, by omega, ?_⟩
    intro x18 e18 _
    have f18 : x18 = r (13 + p1) := by rw [e18, show M 4 p1 = r (13 + p1) from a4 p1 hp.1 (by omega)]
    refine gX6_nearestTo hI (show isS 1 by decide) hS hC hW (by omega) ?_
    intro _
    have := hQ ⟨hp, by omega⟩
    rw [if_neg (by omega), if_neg (by omega), if_neg (by omega), if_neg (by omega)] at this
    rw [f18]
    exact this
  · exact hX (fun q => by have := q.2; omega)
theorem gX12_mourner {p1 p2 b : Int} {M E : Mem} {Q : Int → Mem → Prop} (hI : IM b M) (hE : CE E M) (hE0 : EBx E) (hW : WR E (M 5)) (hQ : moOK E p1 p2 → ∀ M' : Mem, IM b M' → M' 1 0 = 0 → Q (moF E (M 5) p1 p2) M') (hX : ¬ moOK E p1 p2 → ∀ M' : Mem, IM b M' → M' 1 0 = 1 → Q 0 M') : qX12_mourner p1 p2 M Q := by
  have e3 := hE0.1
  have e4 := hE0.2.1
  have e5 := hE0.2.2
  have eg : eG E = E 1 3 - 1 := rfl
  unfold qX12_mourner
  intro M1 h1
  have i1 : IM b M1 := by rw [h1]; exact hI.up (by omega) (by simp [BM])
  have z1 : M1 1 0 = 0 := by rw [h1, up2_s]
  have k5 : M1 5 = M 5 := by rw [h1, up2_n (by decide)]
  have E1 : CE E M1 := fun k j h => by rw [h1, up_00 M (by rcases h with h | h | h | h | h <;> omega)]; exact hE k j h
  have g15 : M1 1 5 = E 1 5 := E1 1 5 cE15
  have BAD : ¬ moOK E p1 p2 → qX12_mourner_J25 p1 p2 Q M1 := by
    intro n
    unfold qX12_mourner_J25
    exact gX12_refuse i1 (fun M' i' z' _ => hX n M' i' z')
  unfold qX12_isMourner
  intro x1 e1 _
  refine ⟨⟨by omega, by omega⟩, ?_⟩
  refine sX12_in (p0 := p1) (p2 := 0) (p4 := x1 - 1) i1 ?_
  intro z hz _ _
  refine ⟨by rcases hz.1 with q | q <;> omega, ?_⟩
  intro _ _
  refine ⟨fun c => BAD (fun q => by have := hz.2.2 c; have := q.1; omega), fun c => ?_⟩
  have hp0 := hz.2.1 (by rcases hz.1 with q | q <;> omega)
  have hp : 0 ≤ p1 ∧ p1 < E 1 5 := by omega
  have w := hW.2.2.1 p1 hp.1 hp.2
  rw [← k5] at w
  refine sX12_in (p0 := p2) (p2 := 0) (p4 := 4) i1 ?_
  intro z2 hz2 _ _
  refine ⟨fun c2 => ?_, fun c2 => BAD (fun q => by have := hz2.2.2 c2; have := q.2; omega)⟩
  have h2 := hz2.2.1 (by rcases hz2.1 with q | q <;> omega)
  have G := hQ ⟨hp, by omega⟩ M1 i1 z1
  unfold moF at G
  rw [← k5] at G
  refine ⟨fun d => ?_, fun d => ?_, fun d => ?_, fun d => ?_, fun d => ?_⟩
  · refine ⟨by omega, by omega, ?_⟩
    intro x10 e10 _
    rw [if_pos d] at G
    rw [e10]
    exact G
  · refine ⟨by omega, by omega, ?_⟩
    intro x10 e10 _
    rw [if_neg (by omega), if_pos d] at G
    rw [e10, E1 3 p1 (cE3 p1)]
    exact G
  · refine ⟨by omega, by omega, ?_⟩
    intro x10 e10 _
    rw [if_neg (by omega), if_neg (by omega), if_pos d] at G
    rw [e10]
    exact G
  · refine ⟨by omega, by omega, ?_⟩
    intro x10 e10 _
    rw [if_neg (by omega), if_neg (by omega), if_neg (by omega), if_pos d] at G
    rw [e10]
    exact G
  · refine ⟨by omega, by omega, ?_⟩
    intro x22 e22 _
    rw [if_neg (by omega), if_neg (by omega), if_neg (by omega), if_neg (by omega)] at G
    refine gX12_nearest i1 E1 (Or.inl rfl) (by omega) ?_
    intro _
    rw [e22]
    exact G
end
section
/-! A TRIAL on both sides: the row of now, over what stood in the other row -/
def cr (f g : Int → Int) : Int → Int := fun j => if 0 ≤ j ∧ j < 38 then f j else g j
theorem cr_i {f g : Int → Int} {j : Int} (h : 0 ≤ j) (h2 : j < 38) : cr f g j = f j := by unfold cr; rw [if_pos ⟨h, h2⟩]
theorem WR.cr {E : Mem} {r g : Int → Int} (h : WR E r) (hE : EBx E) : WR E (cr r g) := h.cg hE (fun j p q => cr_i p q)
theorem SC.cr {E M : Mem} {k : Nat} {r g : Int → Int} (h : SC E M k r) (hE : EBx E) : SC E M k (cr r g) := h.cg hE (fun j p q => cr_i p q)
theorem gX12_copiesC_L2 {Q : Mem → Prop} {b : Int} {M0 : Mem} (hQ : ∀ M' : Mem, IM b M' → FrJ (fun k _ => k = 6) M0 M' → M' 6 = cr (M0 5) (M0 6) → Q M') : ∀ (n : Nat) (v1 : Int) (M : Mem), IM b M → FrJ (fun k _ => k = 6) M0 M → (∀ j, M 6 j = if 0 ≤ j ∧ j < v1 then M0 5 j else M0 6 j) → (0 ≤ v1 ∧ v1 ≤ 38) → 38 - v1 < (n : Int) → qX12_copies_L2 Q n v1 M := by
  intro n
  induction n with
  | zero => intro v1 M hI hF hs hv hm; exact absurd hm (by omega)
  | succ n ih =>
    intro v1 M hI hF hs hv hm
    rw [qX12_copies_L2]
    refine ⟨⟨by omega, by omega⟩, ⟨fun c => hQ _ hI hF ?_, fun c => ⟨by omega, by omega, ?_⟩⟩⟩
    · funext j
      rw [hs j, show v1 = 38 from by omega]
      rfl
    intro x5 e5 _ M6 h6
    have hn : BN b v1 x5 := by rw [e5]; exact (bm_n (Or.inl rfl)).mp (hI.bx _ _)
    refine ih _ _ (by rw [h6]; exact hI.up (by omega) ((bm_n (Or.inr rfl)).mpr hn)) (by rw [h6]; exact hF.up rfl) ?_ (by omega) (by omega)
    intro j
    rw [h6]
    by_cases cj : j = v1
    · rw [cj, up2_s, e5, if_pos ⟨hv.1, by omega⟩]
      exact hF 5 v1 (by omega)
    · rw [up2_j cj, hs j]
      by_cases cc : 0 ≤ j ∧ j < v1
      · rw [if_pos cc, if_pos ⟨cc.1, by omega⟩]
      · rw [if_neg cc, if_neg (fun q => cc ⟨q.1, by omega⟩)]
theorem gX12_copiesC {b : Int} {M : Mem} {Q : Mem → Prop} (hI : IM b M) (hQ : ∀ M' : Mem, IM b M' → FrJ (fun k _ => k = 6) M M' → M' 6 = cr (M 5) (M 6) → Q M') : qX12_copies M Q := by
  unfold qX12_copies
  exact ⟨39, gX12_copiesC_L2 hQ _ _ _ hI FrJ.rf (fun j => by rw [if_neg (by omega)]) (by omega) (by omega)⟩
-- the thrown flag is put out ahead of every call
theorem th0 {b : Int} {M M1 E : Mem} (hI : IM b M) (hE : CE E M) (h1 : M1 = up2 M 1 0 0) : IM b M1 ∧ CE E M1 ∧ M1 5 = M 5 ∧ M1 6 = M 6 ∧ ∀ (k : Nat) (j : Int), ¬ (k = 1 ∧ j = 0) → M1 k j = M k j := by
  subst h1
  exact ⟨hI.up (by omega) (by simp [BM]), fun k j h => by rw [up_00 M (by rcases h with h | h | h | h | h <;> omega)]; exact hE k j h, up2_n (by decide), up2_n (by decide), fun k j h => up_00 M h⟩
theorem CE.c6 {E M M' : Mem} (h : CE E M) (f : FrJ (fun k _ => k = 6) M M') : CE E M' := h.fr f (by intro k j h; rcases h with h | h | h | h | h <;> omega)
-- one step of a trial of the class
theorem adv8 {M M0 E : Mem} {r : Int → Int} {Q : Mem → Prop} (hI : IX M) (hI0 : IX M0) (hS0 : STR E M0) (hL0 : LAW E M0 (M0 155 16).toNat) (hw : WFC (E 11) (E 1 24)) (hK : Ks (kAd 8 (M0 155 16).toNat) M0 M) (hC : SC E M 8 r) (hW : WR E r) (h37 : r 37 ≤ 2000000000) (hQ : ∀ M' : Mem, IX M' → Ks (kAd 8 (M0 155 16).toNat) M0 M' → SC E M' 8 (stF E r) → WR E (stF E r) → Q M') : isL (M 155 16).toNat ∧ qX10_advance 8 (M 155 16).toNat M Q := by
  have el : (M0 155 16).toNat = 187 ∨ (M0 155 16).toNat = 192 := hI0.l16
  have g16 : M 155 16 = M0 155 16 := hK 155 16 (by omega)
  have S1 : STR E M := hS0.fr (hK _ _ (by omega)) (hK _ _ (by omega)) (hK _ _ (by omega)) (fun j => hK 159 j (by omega))
  have L1 : LAW E M (M0 155 16).toNat := hL0.fr (hK _ _ (by omega)) (hK _ _ (by omega)) (fun j => hK _ j (by omega)) (fun j => hK _ j (by omega))
  refine ⟨hI.l16, ?_⟩
  rw [g16]
  refine gX10_advance hI (show isS 8 by decide) hI0.l16 S1 L1 hw hC hW h37 ?_
  intro M' i' k' c' w' _
  exact hQ M' i' (hK.tr k') c' w'
-- what is told
theorem tell1 {p1 : Int} {M : Mem} {Q : Mem → Prop} (hI : IX M) (hQ : ∀ M' : Mem, IX M' → Ks (fun k j => k = 0 ∨ (k = 167 ∧ j = 1)) M M' → Q M') : qX4_tellOne p1 M Q := fmX4_tellOne (sX4_tellOne (p1 := p1) hI (Q := fun M' => IX M') (fun _ h => h)) (fun M' k i => hQ M' i k)
theorem tell2 {p1 p3 : Int} {M : Mem} {Q : Mem → Prop} (hI : IX M) (hQ : ∀ M' : Mem, IX M' → Ks (fun k j => k = 0 ∨ (k = 167 ∧ j = 1)) M M' → Q M') : qX4_tellTwo p1 p3 M Q := fmX4_tellTwo (sX4_tellTwo (p1 := p1) (p3 := p3) hI (Q := fun M' => IX M') (fun _ h => h)) (fun M' k i => hQ M' i k)
theorem entC {p1 b : Int} {M : Mem} {Q : Mem → Prop} (hI : IM b M) (hp : M 1 1 ≤ 23) (hQ : ∀ M' : Mem, IM b M' → Ks (fun k j => k = 0 ∨ (k = 1 ∧ j = 1)) M M' → M' 1 1 = M 1 1 + 1 → Q M') : qX12_enters p1 M Q := fmX12_enters (sX12_enters (p1 := p1) hI hp (Q := fun M' => IM b M' ∧ M' 1 1 = M 1 1 + 1) (fun _ h e => ⟨h, e⟩)) (fun M' k i => hQ M' i.1 k i.2)
/-! WHEN ONE ARRIVES -/
noncomputable def avF (E : Mem) (r : Int → Int) (h : Int) : Nat → Int → Int
  | 0, _ => -2
  | n + 1, v => if itF E v.toNat r h < 0 then v else avF E r h n (v + 1)
noncomputable def avA (E : Mem) (r : Int → Int) (h : Int) : Int := if 0 ≤ h ∧ h < E 1 4 then avF E r h 201 0 else -1
theorem gX11_arrives_L26 {p1 T : Int} {X65 : Int → Mem → Prop} {Q : Int → Mem → Prop} {M0 E : Mem} {r : Int → Int} (hp : 0 ≤ p1 ∧ p1 < E 1 4) (hI0 : IX M0) (hS0 : STR E M0) (hL0 : LAW E M0 (M0 155 16).toNat) (hw : WFC (E 11) (E 1 24)) (hW : WR E r) (h37 : r 37 ≤ 1999999000) (hX : ∀ (v : Int) (M' : Mem), IX M' → SC E M' 8 (itF E v.toNat r) → (0 ≤ v ∧ v ≤ 200) → (itF E v.toNat r p1 < 0 ∧ T = v ∨ ¬ itF E v.toNat r p1 < 0 ∧ T = -2) → X65 v M') : ∀ (n : Nat) (v2 : Int) (M : Mem), IX M → Ks (kAd 8 (M0 155 16).toNat) M0 M → SC E M 8 (itF E v2.toNat r) → avF E r p1 n v2 = T → (0 ≤ v2 ∧ v2 ≤ 200 ∧ v2 + n = 201) → qX11_arrives_L26 p1 X65 Q n v2 M := by
  have e4 := hS0.eb.2.1
  intro n
  induction n with
  | zero => intro v2 M hI hK hC hT hv; omega
  | succ n ih =>
    intro v2 M hI hK hC hT hv
    have W := WR.it hS0.eb hW v2.toNat
    have w := W.2.1 p1 hp.1 hp.2
    have c2 : M (8 + 2) p1 = itF E v2.toNat r (6 + p1) := hC.2.2.2.1 p1 hp.1 (by omega)
    rw [qX11_arrives_L26]
    unfold avF at hT
    refine ⟨⟨by omega, by omega⟩, ⟨fun c => ?_, fun c => ?_⟩⟩
    · refine hX v2 M hI hC (by omega) ?_
      by_cases d : itF E v2.toNat r p1 < 0
      · rw [if_pos d] at hT
        exact Or.inl ⟨d, hT.symm⟩
      · rw [if_neg d, show n = 0 from by omega] at hT
        exact Or.inr ⟨d, hT.symm⟩
    · refine gX6_hasArrived (k0 := 8) (by omega) ?_
      intro x6 h6 _ _
      rw [c2] at h6
      refine ⟨fun d => ?_, fun d => ?_⟩
      · have d' : itF E v2.toNat r p1 < 0 := by omega
        rw [if_pos d'] at hT
        exact hX v2 M hI hC (by omega) (Or.inl ⟨d', hT.symm⟩)
      · have d' : ¬ itF E v2.toNat r p1 < 0 := by omega
        rw [if_neg d'] at hT
        refine adv8 hI hI0 hS0 hL0 hw hK hC W (by rw [itF_37 hS0.eb]; omega) ?_
        intro M9 i9 k9 c9 _
        refine ih (v2 + 1) M9 i9 k9 (by rw [itF_s hv.1]; exact c9) hT (by omega)
theorem gX11_arrives {p1 : Int} {M E : Mem} {r : Int → Int} {Q : Int → Mem → Prop} (hI : IX M) (hS : STR E M) (hL : LAW E M (M 155 16).toNat) (hw : WFC (E 11) (E 1 24)) (hC : SC E M 1 r) (hW : WR E r) (h37 : r 37 ≤ 1999999000) (hQ : ∀ M' : Mem, IX M' → Q (avA E r p1) M') : qX11_arrives p1 M Q := by
  have el : (M 155 16).toNat = 187 ∨ (M 155 16).toNat = 192 := hI.l16
  have e4 := hS.eb.2.1
  unfold avA at hQ
  unfold qX11_arrives
  refine gX6_isHearse hC ?_
  intro x1 h1 _ _
  refine ⟨fun c => ?_, fun c => by have := hQ M hI; rw [if_neg (by omega)] at this; exact this⟩
  have hp : 0 ≤ p1 ∧ p1 < E 1 4 := by omega
  rw [if_pos hp] at hQ
  refine gX6_copyFrom hI (show isS 8 by decide) (show isS 1 by decide) (by decide) ?_
  intro M3 i3 k3 s3 _
  have g16 : M3 155 16 = M 155 16 := k3 155 16 (by omega)
  have S3 : STR E M3 := hS.fr (k3 _ _ (by omega)) (k3 _ _ (by omega)) (k3 _ _ (by omega)) (fun j => k3 159 j (by omega))
  have L3 : LAW E M3 (M3 155 16).toNat := by rw [g16]; exact hL.fr (k3 _ _ (by omega)) (k3 _ _ (by omega)) (fun j => k3 _ j (by omega)) (fun j => k3 _ j (by omega))
  refine ⟨201, gX11_arrives_L26 (E := E) (r := r) (M0 := M3) (T := avF E r p1 201 0) hp i3 S3 L3 hw hW h37 ?_ 201 0 M3 i3 Ks.rf (s3 E r hC) rfl (by omega)⟩
  intro v M4 i4 c4 hv hT
  have W := WR.it hS.eb hW v.toNat
  have w := W.2.1 p1 hp.1 hp.2
  have c2 : M4 (8 + 2) p1 = itF E v.toNat r (6 + p1) := c4.2.2.2.1 p1 hp.1 (by omega)
  unfold qX11_arrives_J65
  refine gX6_hasArrived (k0 := 8) (by omega) ?_
  intro x6 h6 _ _
  rw [c2] at h6
  refine ⟨fun d => ?_, fun d => ?_⟩
  · refine ⟨by omega, by omega, ?_⟩
    intro x15 _ _
    refine tell1 i4 ?_
    intro M16 i16 _
    have := hQ M16 i16
    rw [show avF E r p1 201 0 = v from by omega] at this
    exact ⟨⟨by omega, by omega⟩, this⟩
  · have := hQ M4 i4
    rw [show avF E r p1 201 0 = -2 from by omega] at this
    exact this
theorem gX12_arrives_L21 {p1 b T : Int} {X39 : Int → Mem → Prop} {Q : Int → Mem → Prop} {E : Mem} {r : Int → Int} (hp : 0 ≤ p1 ∧ p1 ≤ 5) (hb : b + 201 ≤ 2000000000) (hX : ∀ (v : Int) (M' : Mem), IM (b + 201) M' → (0 ≤ v ∧ v ≤ 200) → T = v → X39 v M') (hQ : T = -2 → ∀ M' : Mem, IM (b + 201) M' → Q (-2) M') : ∀ (n : Nat) (v2 : Int) (M : Mem), IM (b + v2) M → CE E M → M 6 = itF E v2.toNat r → avF E r p1 n v2 = T → (0 ≤ v2 ∧ v2 + n = 201) → qX12_arrives_L21 p1 X39 Q (n + 1) v2 M := by
  intro n
  induction n with
  | zero =>
    intro v2 M hI hE h6 hT hv
    rw [qX12_arrives_L21]
    exact ⟨⟨by omega, by omega⟩, ⟨fun _ => hQ hT.symm M (hI.mono (by omega)), fun c => by omega⟩⟩
  | succ n ih =>
    intro v2 M hI hE h6 hT hv
    rw [qX12_arrives_L21]
    unfold avF at hT
    refine ⟨⟨by omega, by omega⟩, ⟨fun c => by omega, fun c => ?_⟩⟩
    refine gX12_isOn (k0 := 6) (by omega) ?_
    intro x7 h7 _ _
    rw [h6] at h7
    refine ⟨fun d => ?_, fun d => ?_⟩
    · rw [if_neg (by omega)] at hT
      refine gX12_stepGoes hI hE (by omega) (Or.inr rfl) ?_
      intro M' i' E' k'
      exact ih (v2 + 1) M' (i'.mono (by omega)) E' (by rw [k', h6, itF_s hv.1]) hT (by omega)
    · rw [if_pos (by omega)] at hT
      exact hX v2 M (hI.mono (by omega)) (by omega) hT.symm
theorem gX12_arrives {p1 b : Int} {M E : Mem} {Q : Int → Mem → Prop} (hI : IM b M) (hE : CE E M) (hE0 : EBx E) (hb : b + 201 ≤ 2000000000) (hQ : ∀ M' : Mem, IM (b + 201) M' → Q (avA E (cr (M 5) (M 6)) p1) M') : qX12_arrives p1 M Q := by
  have e4 := hE0.2.1
  unfold avA at hQ
  unfold qX12_arrives
  intro M1 h1
  obtain ⟨i1, E1, k5, k6, _⟩ := th0 hI hE h1
  refine gX12_isHearse i1 E1 ?_
  intro z hz _ _
  refine ⟨fun c => ?_, fun c => by have := hQ M1 (i1.mono (by omega)); rw [if_neg (by omega)] at this; exact this⟩
  have hp : 0 ≤ p1 ∧ p1 < E 1 4 := by omega
  rw [if_pos hp] at hQ
  refine gX12_copiesC i1 ?_
  intro M4 i4 f4 g4
  rw [k5, k6] at g4
  refine ⟨202, gX12_arrives_L21 (b := b) (E := E) (r := cr (M 5) (M 6)) (T := avF E (cr (M 5) (M 6)) p1 201 0) ⟨hp.1, by omega⟩ hb ?_ (fun e M' i' => by have := hQ M' i'; rw [e] at this; exact this) 201 0 M4 (i4.mono (by omega)) (E1.c6 f4) g4 rfl (by omega)⟩
  intro v M' i' hv hT M11 h11
  have i11 : IM (b + 201) M11 := by rw [h11]; exact i'.up (by omega) (bm_c1_1.mpr (by decide))
  have t11 : M11 1 1 = 0 := by rw [h11, up2_s]
  refine ⟨by omega, by omega, ?_⟩
  intro x14 _ _
  refine entC i11 (by omega) ?_
  intro M15 i15 _ _
  have := hQ M15 i15
  rw [hT] at this
  exact ⟨⟨by omega, by omega⟩, this⟩
/-! WHERE ONE ENDS -/
noncomputable def edF (E : Mem) (r : Int → Int) (m : Int) : Nat → Int → Int
  | 0, _ => -2
  | n + 1, v => if 0 ≤ itF E v.toNat r (29 + m) then itF E v.toNat r (29 + m) else edF E r m n (v + 1)
noncomputable def edA (E : Mem) (r : Int → Int) (m : Int) : Int := if 0 ≤ m ∧ m < E 1 5 then edF E r m 201 0 else -1
theorem gX11_ends_L33 {p1 T : Int} {X72 : Int → Mem → Prop} {Q : Int → Mem → Prop} {M0 E : Mem} {r : Int → Int} (hp : 0 ≤ p1 ∧ p1 < E 1 5) (hI0 : IX M0) (hS0 : STR E M0) (hL0 : LAW E M0 (M0 155 16).toNat) (hw : WFC (E 11) (E 1 24)) (hW : WR E r) (h37 : r 37 ≤ 1999999000) (hX : ∀ (v : Int) (M' : Mem), IX M' → SC E M' 8 (itF E v.toNat r) → (0 ≤ v ∧ v ≤ 200) → (0 ≤ itF E v.toNat r (29 + p1) ∧ T = itF E v.toNat r (29 + p1) ∨ ¬ 0 ≤ itF E v.toNat r (29 + p1) ∧ T = -2) → X72 v M') : ∀ (n : Nat) (v2 : Int) (M : Mem), IX M → Ks (kAd 8 (M0 155 16).toNat) M0 M → SC E M 8 (itF E v2.toNat r) → edF E r p1 n v2 = T → (0 ≤ v2 ∧ v2 ≤ 200 ∧ v2 + n = 201) → qX11_ends_L33 p1 X72 Q n v2 M := by
  have e5 := hS0.eb.2.2
  intro n
  induction n with
  | zero => intro v2 M hI hK hC hT hv; omega
  | succ n ih =>
    intro v2 M hI hK hC hT hv
    have W := WR.it hS0.eb hW v2.toNat
    have w := W.2.2.1 p1 hp.1 hp.2
    have c2 : M (8 + 6) p1 = itF E v2.toNat r (29 + p1) := hC.2.2.2.2.2.2.2.2.1 p1 hp.1 (by omega)
    rw [qX11_ends_L33]
    unfold edF at hT
    refine ⟨⟨by omega, by omega⟩, ⟨fun c => ?_, fun c => ?_⟩⟩
    · refine hX v2 M hI hC (by omega) ?_
      by_cases d : 0 ≤ itF E v2.toNat r (29 + p1)
      · rw [if_pos d] at hT
        exact Or.inl ⟨d, hT.symm⟩
      · rw [if_neg d, show n = 0 from by omega] at hT
        exact Or.inr ⟨d, hT.symm⟩
    · refine gX6_hasEnded (k0 := 8) (by omega) ?_
      intro x6 h6 _ _
      rw [c2] at h6
      refine ⟨fun d => ?_, fun d => ?_⟩
      · have d' : 0 ≤ itF E v2.toNat r (29 + p1) := by omega
        rw [if_pos d'] at hT
        exact hX v2 M hI hC (by omega) (Or.inl ⟨d', hT.symm⟩)
      · have d' : ¬ 0 ≤ itF E v2.toNat r (29 + p1) := by omega
        rw [if_neg d'] at hT
        refine adv8 hI hI0 hS0 hL0 hw hK hC W (by rw [itF_37 hS0.eb]; omega) ?_
        intro M9 i9 k9 c9 _
        refine ih (v2 + 1) M9 i9 k9 (by rw [itF_s hv.1]; exact c9) hT (by omega)
theorem gX11_ends {p1 : Int} {M E : Mem} {r : Int → Int} {Q : Int → Mem → Prop} (hI : IX M) (hS : STR E M) (hL : LAW E M (M 155 16).toNat) (hw : WFC (E 11) (E 1 24)) (hC : SC E M 1 r) (hW : WR E r) (h37 : r 37 ≤ 1999999000) (hQ : ∀ M' : Mem, IX M' → Q (edA E r p1) M') : qX11_ends p1 M Q := by
  have el : (M 155 16).toNat = 187 ∨ (M 155 16).toNat = 192 := hI.l16
  have e5 := hS.eb.2.2
  unfold edA at hQ
  unfold qX11_ends
  refine gX6_isMourner hC ?_
  intro x1 h1 _ _
  refine ⟨fun c => ?_, fun c => by have := hQ M hI; rw [if_neg (by omega)] at this; exact this⟩
  have hp : 0 ≤ p1 ∧ p1 < E 1 5 := by omega
  rw [if_pos hp] at hQ
  refine gX6_copyFrom hI (show isS 8 by decide) (show isS 1 by decide) (by decide) ?_
  intro M2 i2 k2 s2 _
  refine fmX10_forgetTallies (sX10_forgetTallies i2 (Q := fun M' => IX M') (fun _ h => h)) ?_
  intro M3 k23 i3
  have k3 : Ks (fun k _ => (8 ≤ k ∧ k ≤ 14) ∨ (160 ≤ k ∧ k ≤ 162)) M M3 := (k2.mono (by intro k j h; omega)).tr (k23.mono (by intro k j h; omega))
  have g16 : M3 155 16 = M 155 16 := k3 155 16 (by omega)
  have S3 : STR E M3 := hS.fr (k3 _ _ (by omega)) (k3 _ _ (by omega)) (k3 _ _ (by omega)) (fun j => k3 159 j (by omega))
  have L3 : LAW E M3 (M3 155 16).toNat := by rw [g16]; exact hL.fr (k3 _ _ (by omega)) (k3 _ _ (by omega)) (fun j => k3 _ j (by omega)) (fun j => k3 _ j (by omega))
  refine ⟨201, gX11_ends_L33 (E := E) (r := r) (M0 := M3) (T := edF E r p1 201 0) hp i3 S3 L3 hw hW h37 ?_ 201 0 M3 i3 Ks.rf ((s2 E r hC).fr (fun i j hi => k23 _ j (by omega))) rfl (by omega)⟩
  intro v M4 i4 c4 hv hT
  have W := WR.it hS.eb hW v.toNat
  have w := W.2.2.1 p1 hp.1 hp.2
  have c2 : M4 (8 + 6) p1 = itF E v.toNat r (29 + p1) := c4.2.2.2.2.2.2.2.2.1 p1 hp.1 (by omega)
  unfold qX11_ends_J72
  refine gX6_hasEnded (k0 := 8) (by omega) ?_
  intro x6 h6 _ _
  rw [c2] at h6
  refine ⟨fun d => ?_, fun d => ?_⟩
  · refine ⟨⟨by omega, by omega⟩, by omega, by omega, ?_⟩
    intro x17 _ _
    refine tell2 i4 ?_
    intro M18 i18 k18 x19 e19 _
    have := hQ M18 i18
    rw [show edF E r p1 201 0 = itF E v.toNat r (29 + p1) from by omega, ← c2] at this
    rw [e19, show M18 14 p1 = M4 (8 + 6) p1 from k18 14 p1 (by omega)]
    exact this
  · have := hQ M4 i4
    rw [show edF E r p1 201 0 = -2 from by omega] at this
    exact this
theorem gX12_ends_L30 {p1 b T : Int} {X48 : Int → Mem → Prop} {Q : Int → Mem → Prop} {E : Mem} {r : Int → Int} (hp : 0 ≤ p1 ∧ p1 ≤ 7) (hb : b + 201 ≤ 2000000000) (hX : ∀ (v : Int) (M' : Mem), IM (b + 201) M' → (0 ≤ v ∧ v ≤ 200) → T = M' 6 (29 + p1) → X48 v M') (hQ : T = -2 → ∀ M' : Mem, IM (b + 201) M' → Q (-2) M') : ∀ (n : Nat) (v2 : Int) (M : Mem), IM (b + v2) M → CE E M → M 6 = itF E v2.toNat r → edF E r p1 n v2 = T → (0 ≤ v2 ∧ v2 + n = 201) → qX12_ends_L30 p1 X48 Q (n + 1) v2 M := by
  intro n
  induction n with
  | zero =>
    intro v2 M hI hE h6 hT hv
    rw [qX12_ends_L30]
    exact ⟨⟨by omega, by omega⟩, ⟨fun _ => hQ hT.symm M (hI.mono (by omega)), fun c => by omega⟩⟩
  | succ n ih =>
    intro v2 M hI hE h6 hT hv
    rw [qX12_ends_L30]
    unfold edF at hT
    refine ⟨⟨by omega, by omega⟩, ⟨fun c => by omega, fun c => ?_⟩⟩
    refine gX12_isEnded (k0 := 6) (by omega) ?_
    intro x7 h7 _ _
    rw [h6] at h7
    refine ⟨fun d => ?_, fun d => ?_⟩
    · rw [if_neg (by omega)] at hT
      refine gX12_stepGoes hI hE (by omega) (Or.inr rfl) ?_
      intro M' i' E' k'
      exact ih (v2 + 1) M' (i'.mono (by omega)) E' (by rw [k', h6, itF_s hv.1]) hT (by omega)
    · rw [if_pos (by omega)] at hT
      exact hX v2 M (hI.mono (by omega)) (by omega) (by rw [h6]; exact hT.symm)
theorem gX12_ends {p1 b : Int} {M E : Mem} {Q : Int → Mem → Prop} (hI : IM b M) (hE : CE E M) (hE0 : EBx E) (hb : b + 401 ≤ 2000000000) (hQ : ∀ M' : Mem, IM (b + 401) M' → Q (edA E (cr (M 5) (M 6)) p1) M') : qX12_ends p1 M Q := by
  have e5 := hE0.2.2
  unfold edA at hQ
  unfold qX12_ends
  intro M1 h1
  obtain ⟨i1, E1, k5, k6, _⟩ := th0 hI hE h1
  refine gX12_isMourner i1 E1 ?_
  intro z hz _ _
  refine ⟨fun c => ?_, fun c => by have := hQ M1 (i1.mono (by omega)); rw [if_neg (by omega)] at this; exact this⟩
  have hp : 0 ≤ p1 ∧ p1 < E 1 5 := by omega
  rw [if_pos hp] at hQ
  refine gX12_copiesC i1 ?_
  intro M4 i4 f4 g4
  rw [k5, k6] at g4
  refine gX12_goesOn (p2 := 0) i4 (E1.c6 f4) (by omega) (Or.inr rfl) (by decide) ?_
  intro M5 i5 E5 g5
  have g5' : M5 6 = cr (M 5) (M 6) := by rw [g5, g4]; rfl
  refine ⟨202, gX12_ends_L30 (b := b + 200) (E := E) (r := cr (M 5) (M 6)) (T := edF E (cr (M 5) (M 6)) p1 201 0) ⟨hp.1, by omega⟩ (by omega) ?_ (fun e M' i' => by have := hQ M' (i'.mono (by omega)); rw [e] at this; exact this) 201 0 M5 (i5.mono (by omega)) E5 g5' rfl (by omega)⟩
  intro v M' i' hv hT M12 h12
  have i12 : IM (b + 200 + 201) M12 := by rw [h12]; exact i'.up (by omega) (bm_c1_1.mpr (by decide))
  have t12 : M12 1 1 = 0 := by rw [h12, up2_s]
  have q12 : M12 6 (29 + p1) = M' 6 (29 + p1) := by rw [h12, up2_n (by decide)]
  refine ⟨⟨by omega, by omega⟩, ?_⟩
  refine entC i12 (by omega) ?_
  intro M14 i14 k14 t14
  refine ⟨by omega, by omega, ?_⟩
  intro x17 _ _
  refine entC i14 (by omega) ?_
  intro M18 i18 k18 _
  refine ⟨by omega, by omega, ?_⟩
  intro x21 e21 _
  have := hQ M18 (i18.mono (by omega))
  rw [hT, ← q12] at this
  rw [e21, k18 6 _ (by omega), k14 6 _ (by omega)]
  exact this
end
section
/-! THE LINE, AHEAD, PASSING -/
theorem tB_mo (r : Int → Int) (H v i : Int) : tB r H v i ≤ tB r H (v + 1) i := by
  unfold tB
  split
  · rename_i h
    rw [if_pos (by omega)]
    exact Int.le_refl _
  · split <;> omega
theorem lnL_len {r : Int → Int} {H : Nat} (hH : H ≤ 6) : ∀ c : Nat, ((lnL r H c).length : Int) ≤ sB r H c := by
  intro c
  induction c with
  | zero =>
    show ((0 : Nat) : Int) ≤ _
    have := tB_b r H ((0 : Nat) : Int)
    unfold sB
    have a0 := (this 0).1
    have a1 := (this 1).1
    have a2 := (this 2).1
    have a3 := (this 3).1
    have a4 := (this 4).1
    have a5 := (this 5).1
    omega
  | succ c ih =>
    have m0 := tB_mo r H c 0
    have m1 := tB_mo r H c 1
    have m2 := tB_mo r H c 2
    have m3 := tB_mo r H c 3
    have m4 := tB_mo r H c 4
    have m5 := tB_mo r H c 5
    rw [show ((c + 1 : Nat) : Int) = (c : Int) + 1 from by omega]
    unfold lnL
    by_cases h : 0 ≤ onF r H c
    · rw [if_pos h]
      have he : r (onF r H c) = c := onF_c h
      have hl : onF r H c < H := (onF_b r H c).2
      have t0 : tB r H c (onF r H c) = 0 := by
        unfold tB
        rw [if_neg (by omega)]
      have t1 : tB r H ((c : Int) + 1) (onF r H c) = 1 := by
        unfold tB
        rw [if_pos (by omega)]
      show (((lnL r H c).length + 1 : Nat) : Int) ≤ _
      have cs : onF r H c = 0 ∨ onF r H c = 1 ∨ onF r H c = 2 ∨ onF r H c = 3 ∨ onF r H c = 4 ∨ onF r H c = 5 := by omega
      unfold sB at ih ⊢
      rcases cs with e | e | e | e | e | e <;> rw [e] at t0 t1 <;> omega
    · rw [if_neg h]
      unfold sB at ih ⊢
      omega
theorem sB_6 (r : Int → Int) (H v : Int) : sB r H v ≤ 6 := by
  have := tB_b r H v
  unfold sB
  have a0 := (this 0).2
  have a1 := (this 1).2
  have a2 := (this 2).2
  have a3 := (this 3).2
  have a4 := (this 4).2
  have a5 := (this 5).2
  omega
def liA (E : Mem) (r : Int → Int) : Int := (lnL r (eH E) (eG E).toNat).length
theorem add1 {p1 : Int} {M : Mem} {Q : Mem → Prop} (hI : IX M) (hn : M 167 1 ≤ 7) (hQ : ∀ M' : Mem, IX M' → Ks (fun k j => k = 0 ∨ (k = 167 ∧ j = 1)) M M' → M' 167 1 = M 167 1 + 1 → Q M') : qX4_add p1 M Q := by
  have b := bx_c167_1.mp (hI.bx 167 1)
  unfold qX4_add
  intro x1 e1 _
  refine ⟨fun c => by omega, fun c => ?_⟩
  intro x3 e3 _
  refine ⟨by omega, by omega, ?_⟩
  intro M6 h6 x7 e7 _
  have f7 : x7 = M 167 1 := by rw [e7, h6, up2_n (by decide)]
  have i6 : IX M6 := by rw [h6]; exact hI.up (by decide) (by simp [BX])
  refine ⟨⟨by omega, by omega⟩, ?_⟩
  intro M9 h9
  refine hQ M9 (by rw [h9]; exact i6.up (by decide) (bx_c167_1.mpr ⟨by omega, by omega⟩)) ?_ (by rw [h9, up2_s, f7])
  rw [h9, h6]
  exact (Ks.rf.wr (Or.inl rfl)).wr (Or.inr ⟨rfl, rfl⟩)
theorem gX11_line_L17 {Q : Int → Mem → Prop} {M0 E : Mem} {r : Int → Int} {N : Int} (hS0 : STR E M0) (hC0 : SC E M0 1 r) (hW : WR E r) (hN : N ≤ 6) (hQ : ∀ M' : Mem, IX M' → Q N M') : ∀ (n : Nat) (v1 v2 : Int) (M : Mem), IX M → Ks (fun k j => k = 0 ∨ (k = 167 ∧ j = 1)) M0 M → M 167 1 = v2 → v2 + (lnL r (eH E) v1.toNat).length = N → (0 ≤ v1 ∧ v1 ≤ 30) → (0 ≤ v2 ∧ v2 ≤ 6) → 6 - v2 < (n : Int) → qX11_line_L17 Q n v1 v2 M := by
  have eb := hS0.eb
  have ef := eb.f
  have b4 := eb.2.1
  have bg := hS0.g
  intro n
  induction n with
  | zero => intro v1 v2 M hI hK ht hT h1 h2 hm; omega
  | succ n ih =>
    intro v1 v2 M hI hK ht hT h1 h2 hm
    have hS : STR E M := hS0.fr (hK _ _ (by omega)) (hK _ _ (by omega)) (hK _ _ (by omega)) (fun j => hK 159 j (by omega))
    have hC : SC E M 1 r := hC0.fr (fun i j hi => hK _ j (by omega))
    rw [qX11_line_L17]
    refine ⟨⟨by omega, by omega⟩, ⟨fun c => ?_, fun c => ⟨⟨by omega, by omega⟩, ?_⟩⟩⟩
    · intro x5 e5 _
      have := hQ M hI
      rw [show N = x5 from by omega] at this
      exact this
    · refine gX6_foremostBelow hS hC hW ?_
      intro x7 p7 _
      refine ⟨fun c2 => ⟨by omega, by omega, ?_⟩, fun c2 => ?_⟩
      · obtain ⟨z0, z1, z2, z3⟩ : (0 ≤ x7 ∧ x7 < E 1 4) ∧ 0 ≤ r x7 ∧ r x7 < v1 ∧ ∀ h, 0 ≤ h → h < E 1 4 → r h < v1 → r h ≤ r x7 := by
          rcases p7 with q | q
          · exact absurd q.1 c2
          · exact q
        intro x11 e11 _
        have f11 : x11 = r x7 := by rw [e11]; exact hC.2.2.1 x7 z0.1 (by omega)
        have hd : DST r (eH E : Nat) := by rw [ef.1]; exact hW.1
        rw [lnL_f hd ⟨z0.1, by omega⟩ z1 v1.toNat (by omega) (fun i a q w => z3 i a (by omega) (by omega))] at hT
        have hT' : v2 + (((lnL r (eH E) (r x7).toNat).length + 1 : Nat) : Int) = N := hT
        refine add1 hI (by omega) ?_
        intro M12 i12 k12 t12
        refine ih x11 (v2 + 1) M12 i12 (hK.tr k12) (by omega) ?_ (by omega) (by omega) (by omega)
        rw [f11]
        omega
      · intro x13 e13 _
        have e : lnL r (eH E) v1.toNat = [] := by
          rcases p7 with q | q
          · exact lnL_0 v1.toNat (fun i a w u => by have := q.2 i a (by omega) u; omega)
          · omega
        rw [e] at hT
        have hT' : v2 + ((0 : Nat) : Int) = N := hT
        have := hQ M hI
        rw [show N = x13 from by omega] at this
        exact this
theorem gX11_line {M E : Mem} {r : Int → Int} {Q : Int → Mem → Prop} (hI : IX M) (hS : STR E M) (hC : SC E M 1 r) (hW : WR E r) (hQ : ∀ M' : Mem, IX M' → Q (liA E r) M') : qX11_line M Q := by
  have eb := hS.eb
  have ef := eb.f
  have b4 := eb.2.1
  have bg := eb.1
  have eg : eG E = E 1 3 - 1 := rfl
  unfold qX11_line qX4_clear
  intro M1 h1 x2 e2 _
  have i1 : IX M1 := by rw [h1]; exact hI.up (by decide) (bx_c167_1.mpr (by decide))
  have k1 : Ks (fun k j => k = 167 ∧ j = 1) M M1 := by rw [h1]; exact Ks.rf.wr ⟨rfl, rfl⟩
  have S1 : STR E M1 := hS.fr (k1 _ _ (by omega)) (k1 _ _ (by omega)) (k1 _ _ (by omega)) (fun j => k1 159 j (by omega))
  have C1 : SC E M1 1 r := hC.fr (fun i j hi => k1 _ j (by omega))
  have f2 : x2 = E 1 3 := by rw [e2]; exact S1.1
  have hl : (lnL r (eH E) x2.toNat).length = (lnL r (eH E) (eG E).toNat).length := by
    have nn : ¬ 0 ≤ onF r (eH E) (eG E) := by
      intro q
      have hb := (onF_b r (eH E) (eG E)).2
      have hc := onF_c q
      have w := hW.2.1 _ q (by omega)
      omega
    rw [show x2.toNat = (eG E + 1).toNat from by omega, lnL_s (by omega), if_neg nn]
  have len := lnL_len (r := r) (H := eH E) (by omega) (eG E).toNat
  have s6 := sB_6 r (eH E : Nat) ((eG E).toNat : Nat)
  refine ⟨7, gX11_line_L17 (N := liA E r) S1 C1 hW (by unfold liA; omega) hQ 7 x2 0 M1 i1 Ks.rf (by rw [h1, up2_s]) ?_ (by omega) (by omega) (by omega)⟩
  unfold liA
  omega
theorem gX12_line_L20 {b N : Int} {Q : Int → Mem → Prop} (hN : N ≤ 6) (hQ : ∀ M' : Mem, IM b M' → Q N M') : ∀ (n : Nat) (v1 : Int) (M : Mem), IM b M → M 1 35 = N → M 1 1 = v1 → (0 ≤ v1 ∧ v1 ≤ N) → N - v1 < (n : Int) → qX12_line_L20 Q n v1 M := by
  intro n
  induction n with
  | zero => intro v1 M hI h35 h1 hv hm; omega
  | succ n ih =>
    intro v1 M hI h35 h1 hv hm
    rw [qX12_line_L20]
    intro x4 e4 _
    refine ⟨⟨by omega, by omega⟩, ⟨fun c => ?_, fun c => ⟨by omega, by omega, ?_⟩⟩⟩
    · intro x7 e7 _
      have := hQ M hI
      rw [show N = x7 from by omega] at this
      exact this
    · intro x10 _ _
      refine entC hI (by omega) ?_
      intro M11 i11 k11 t11
      exact ih (v1 + 1) M11 i11 (by rw [k11 1 35 (by omega)]; exact h35) (by omega) (by omega) (by omega)
theorem gX12_line {b : Int} {M E : Mem} {Q : Int → Mem → Prop} (hI : IM b M) (hE : CE E M) (hE0 : EBx E) (hQ : ∀ M' : Mem, IM b M' → Q (liA E (M 5)) M') : qX12_line M Q := by
  have eb := hE0.2.1
  unfold qX12_line
  intro M1 h1
  obtain ⟨i1, E1, k5, k6, _⟩ := th0 hI hE h1
  refine gX12_laysLine (k1 := 5) i1 E1 (Or.inl rfl) ?_
  intro M2 i2 f2 l2 len M3 h3
  rw [k5] at l2 len
  have i3 : IM b M3 := by rw [h3]; exact i2.up (by omega) (bm_c1_1.mpr (by decide))
  refine ⟨7, gX12_line_L20 (b := b) (N := liA E (M 5)) (by unfold liA; omega) hQ 7 0 M3 i3 ?_ (by rw [h3, up2_s]) ⟨Int.le_refl _, by unfold liA; omega⟩ (by unfold liA; omega)⟩
  rw [h3, up2_j (by decide), l2.1]
  unfold liA
  omega
noncomputable def ahA (E : Mem) (r : Int → Int) (n : Int) : Int := if 0 ≤ n ∧ n ≤ 99 then itF E n.toNat r 12 else -1
theorem gX11_ahead_L48 {p1 : Int} {Q : Int → Mem → Prop} {M0 : Mem} (h6 : M0 8 6 ≤ 6 ∧ 0 ≤ M0 8 6) (hQ : ∀ M' : Mem, IX M' → Q (M0 8 8) M') : ∀ (n : Nat) (v2 : Int) (M : Mem), IX M → Ks (fun k j => k = 0 ∨ (k = 167 ∧ j = 1)) M0 M → M 167 1 = v2 → (0 ≤ v2 ∧ v2 ≤ M0 8 6) → M0 8 6 - v2 < (n : Int) → qX11_ahead_L48 p1 Q n v2 M := by
  intro n
  induction n with
  | zero => intro v2 M hI hK ht hv hm; omega
  | succ n ih =>
    intro v2 M hI hK ht hv hm
    have g6 : M 8 6 = M0 8 6 := hK 8 6 (by omega)
    rw [qX11_ahead_L48]
    intro x7 e7 _
    refine ⟨⟨by omega, by omega⟩, ⟨fun c => ?_, fun c => ⟨by omega, by omega, ?_⟩⟩⟩
    · intro x10 e10 _
      rw [e10, hK 8 8 (by omega)]
      exact hQ M hI
    · intro x13 _ _
      refine add1 hI (by omega) ?_
      intro M14 i14 k14 t14
      exact ih (v2 + 1) M14 i14 (hK.tr k14) (by omega) (by omega) (by omega)
theorem gX11_ahead {p1 : Int} {M E : Mem} {r : Int → Int} {Q : Int → Mem → Prop} (hI : IX M) (hS : STR E M) (hL : LAW E M (M 155 16).toNat) (hw : WFC (E 11) (E 1 24)) (hC : SC E M 1 r) (hW : WR E r) (h37 : r 37 ≤ 1999999000) (hQ : ∀ M' : Mem, IX M' → Q (ahA E r p1) M') : qX11_ahead p1 M Q := by
  have el : (M 155 16).toNat = 187 ∨ (M 155 16).toNat = 192 := hI.l16
  have e4 := hS.eb.2.1
  unfold ahA at hQ
  have NO : ¬ (0 ≤ p1 ∧ p1 ≤ 99) → Q (-1) M := fun n => by have := hQ M hI; rw [if_neg n] at this; exact this
  unfold qX11_ahead
  refine ⟨fun c => NO (by omega), fun c => ⟨fun c2 => ?_, fun c2 => NO (by omega)⟩⟩
  have cp : 0 ≤ p1 ∧ p1 ≤ 99 := by omega
  rw [if_pos cp] at hQ
  refine gX6_copyFrom hI (show isS 8 by decide) (show isS 1 by decide) (by decide) ?_
  intro M3 i3 k3 s3 _
  have g16 : M3 155 16 = M 155 16 := k3 155 16 (by omega)
  have S3 : STR E M3 := hS.fr (k3 _ _ (by omega)) (k3 _ _ (by omega)) (k3 _ _ (by omega)) (fun j => k3 159 j (by omega))
  have L3 : LAW E M3 (M 155 16).toNat := hL.fr (k3 _ _ (by omega)) (k3 _ _ (by omega)) (fun j => k3 _ j (by omega)) (fun j => k3 _ j (by omega))
  refine ⟨i3.l16, ?_⟩
  rw [g16]
  refine gX10_walk i3 (show isS 8 by decide) hI.l16 S3 L3 hw (s3 E r hC) hW h37 (by omega) ?_
  intro M5 i5 k5 c5 w5
  unfold qX4_clear
  intro M6 h6
  have i6 : IX M6 := by rw [h6]; exact i5.up (by decide) (bx_c167_1.mpr (by decide))
  have g6 : M6 8 6 = E 1 4 := by rw [h6, up2_n (by decide)]; exact c5.1
  refine ⟨7, gX11_ahead_L48 (M0 := M6) (by omega) ?_ 7 0 M6 i6 Ks.rf (by rw [h6, up2_s]) (by omega) (by omega)⟩
  intro M' i'
  have := hQ M' i'
  rw [show M6 8 8 = itF E p1.toNat r 12 from by rw [h6, up2_n (by decide)]; exact c5.2.2.2.2.1]
  exact this
theorem gX12_ahead_L39 {p1 b : Int} {Q : Int → Mem → Prop} {M0 : Mem} (h6 : M0 1 4 ≤ 6 ∧ 0 ≤ M0 1 4) (hQ : ∀ M' : Mem, IM b M' → Q (M0 6 12) M') : ∀ (n : Nat) (v2 : Int) (M : Mem), IM b M → Ks (fun k j => k = 0 ∨ (k = 1 ∧ j = 1)) M0 M → M 1 1 = v2 → (0 ≤ v2 ∧ v2 ≤ M0 1 4) → M0 1 4 - v2 < (n : Int) → qX12_ahead_L39 p1 Q n v2 M := by
  intro n
  induction n with
  | zero => intro v2 M hI hK ht hv hm; omega
  | succ n ih =>
    intro v2 M hI hK ht hv hm
    have g6 : M 1 4 = M0 1 4 := hK 1 4 (by omega)
    rw [qX12_ahead_L39]
    intro x7 e7 _
    refine ⟨⟨by omega, by omega⟩, ⟨fun c => ?_, fun c => ⟨by omega, by omega, ?_⟩⟩⟩
    · intro x10 e10 _
      rw [e10, hK 6 12 (by omega)]
      exact hQ M hI
    · intro x13 _ _
      refine entC hI (by omega) ?_
      intro M14 i14 k14 t14
      exact ih (v2 + 1) M14 i14 (hK.tr k14) (by omega) (by omega) (by omega)
theorem gX12_ahead {p1 b : Int} {M E : Mem} {Q : Int → Mem → Prop} (hI : IM b M) (hE : CE E M) (hE0 : EBx E) (hb : b + 200 ≤ 2000000000) (hQ : ∀ M' : Mem, IM (b + 200) M' → Q (ahA E (cr (M 5) (M 6)) p1) M') : qX12_ahead p1 M Q := by
  have e4 := hE0.2.1
  unfold ahA at hQ
  unfold qX12_ahead
  intro M1 h1
  obtain ⟨i1, E1, k5, k6, _⟩ := th0 hI hE h1
  refine sX12_in (p0 := p1) (p2 := 0) (p4 := 99) i1 ?_
  intro z hz _ _
  refine ⟨fun c => ?_, fun c => by have := hQ M1 (i1.mono (by omega)); rw [if_neg (by have := hz.2.2 c; omega)] at this; exact this⟩
  have cp := hz.2.1 (by rcases hz.1 with q | q <;> omega)
  rw [if_pos cp] at hQ
  refine gX12_copiesC i1 ?_
  intro M4 i4 f4 g4
  rw [k5, k6] at g4
  refine gX12_goesOn (p2 := p1) i4 (E1.c6 f4) (by omega) (Or.inr rfl) (by omega) ?_
  intro M5 i5 E5 g5
  rw [g4] at g5
  intro M6 h6
  have i6 : IM (b + 200) M6 := by rw [h6]; exact i5.up (by omega) (bm_c1_1.mpr (by decide))
  have g14 : M6 1 4 = E 1 4 := by rw [h6, up2_j (by decide)]; exact E5 1 4 cE14
  refine ⟨7, gX12_ahead_L39 (b := b + 200) (M0 := M6) (by omega) ?_ 7 0 M6 i6 Ks.rf (by rw [h6, up2_s]) (by omega) (by omega)⟩
  intro M' i'
  have := hQ M' i'
  rw [show M6 6 12 = itF E p1.toNat (cr (M 5) (M 6)) 12 from by rw [h6, up2_n (by decide), g5]]
  exact this
-- passing
def ahF (r : Int → Int) (a b : Int) : Prop := (0 ≤ r a ∧ 0 ≤ r b ∧ r b < r a) ∨ (r a < 0 ∧ (0 ≤ r b ∨ r (6 + a) < r (6 + b)))
noncomputable def pvF (E : Mem) (r : Int → Int) (a b : Int) : Nat → Int → Int
  | 0, _ => -2
  | n + 1, v => @ite Int (ahF (itF E v.toNat r) a b) (Classical.propDecidable _) v (pvF E r a b n (v + 1))
abbrev paOK (E : Mem) (a b : Int) : Prop := (0 ≤ a ∧ a < E 1 4) ∧ (0 ≤ b ∧ b < E 1 4) ∧ a ≠ b
noncomputable def pvA (E : Mem) (r : Int → Int) (a b : Int) : Int := if ¬ paOK E a b then -1 else if r a < 0 ∨ r b < 0 ∨ r b < r a then -2 else pvF E r a b 60 1
theorem gX6_isAheadOf {k0 : Nat} {p1 p2 : Int} {M E : Mem} {r : Int → Int} {Q : Int → Mem → Prop} (hE : EBx E) (hC : SC E M k0 r) (hW : WR E r) (h1 : 0 ≤ p1 ∧ p1 < E 1 4) (h2 : 0 ≤ p2 ∧ p2 < E 1 4) (hQ : ∀ z : Int, (z = 1 ∧ ahF r p1 p2 ∨ z = 0 ∧ ¬ ahF r p1 p2) → Q z M) : qX6_isAheadOf k0 p1 p2 M Q := by
  have e4 := hE.2.1
  have w1 := hW.2.1 p1 h1.1 h1.2
  have w2 := hW.2.1 p2 h2.1 h2.2
  have a1 : M (k0 + 1) p1 = r p1 := hC.2.2.1 p1 h1.1 (by omega)
  have a2 : M (k0 + 1) p2 = r p2 := hC.2.2.1 p2 h2.1 (by omega)
  have c1 : M (k0 + 2) p1 = r (6 + p1) := hC.2.2.2.1 p1 h1.1 (by omega)
  have c2 : M (k0 + 2) p2 = r (6 + p2) := hC.2.2.2.1 p2 h2.1 (by omega)
  unfold ahF at hQ
  unfold qX6_isAheadOf
  refine gX6_hasArrived (by omega) ?_
  intro x1 q1 _ _
  rw [c1] at q1
  refine ⟨fun d => ?_, fun d => ?_⟩
  · refine gX6_hasArrived (by omega) ?_
    intro x3 q3 _ _
    rw [c2] at q3
    refine ⟨fun d2 => hQ 0 (Or.inr ⟨rfl, by omega⟩), fun d2 => ⟨by omega, by omega, ?_⟩⟩
    intro x7 e7 _
    refine ⟨by omega, by omega, ?_⟩
    intro x10 e10 _
    exact ⟨fun d3 => hQ 0 (Or.inr ⟨rfl, by omega⟩), fun d3 => hQ 1 (Or.inl ⟨rfl, by omega⟩)⟩
  · refine gX6_hasArrived (by omega) ?_
    intro x3 q3 _ _
    rw [c2] at q3
    refine ⟨fun d2 => hQ 1 (Or.inl ⟨rfl, by omega⟩), fun d2 => ⟨by omega, by omega, ?_⟩⟩
    intro x7 e7 _
    refine ⟨by omega, by omega, ?_⟩
    intro x10 e10 _
    exact ⟨fun d3 => hQ 0 (Or.inr ⟨rfl, by omega⟩), fun d3 => hQ 1 (Or.inl ⟨rfl, by omega⟩)⟩
theorem gX12_isAhead {k0 : Nat} {p1 p2 : Int} {M : Mem} {Q : Int → Mem → Prop} (h1 : 0 ≤ p1 ∧ p1 ≤ 5) (h2 : 0 ≤ p2 ∧ p2 ≤ 5) (hQ : ∀ z : Int, (z = 1 ∧ ahF (M k0) p1 p2 ∨ z = 0 ∧ ¬ ahF (M k0) p1 p2) → Q z M) : qX12_isAhead k0 p1 p2 M Q := by
  unfold ahF at hQ
  unfold qX12_isAhead
  refine gX12_isOn (by omega) ?_
  intro x1 q1 _ _
  refine ⟨fun d => ?_, fun d => ?_⟩
  · refine gX12_isOn (by omega) ?_
    intro x3 q3 _ _
    refine ⟨fun d2 => hQ 1 (Or.inl ⟨rfl, by omega⟩), fun d2 => ⟨by omega, by omega, ?_⟩⟩
    intro x7 e7 _
    refine ⟨by omega, by omega, ?_⟩
    intro x10 e10 _
    exact ⟨fun d3 => hQ 0 (Or.inr ⟨rfl, by omega⟩), fun d3 => hQ 1 (Or.inl ⟨rfl, by omega⟩)⟩
  · refine gX12_isOn (by omega) ?_
    intro x3 q3 _ _
    refine ⟨fun d2 => hQ 0 (Or.inr ⟨rfl, by omega⟩), fun d2 => ⟨by omega, by omega, ?_⟩⟩
    intro x7 e7 _
    refine ⟨by omega, by omega, ?_⟩
    intro x10 e10 _
    exact ⟨fun d3 => hQ 0 (Or.inr ⟨rfl, by omega⟩), fun d3 => hQ 1 (Or.inl ⟨rfl, by omega⟩)⟩
theorem gX11_passes_L88 {p1 p2 T : Int} {X121 : Int → Mem → Prop} {Q : Int → Mem → Prop} {M0 E : Mem} {r : Int → Int} (h1 : 0 ≤ p1 ∧ p1 < E 1 4) (h2 : 0 ≤ p2 ∧ p2 < E 1 4) (hI0 : IX M0) (hS0 : STR E M0) (hL0 : LAW E M0 (M0 155 16).toNat) (hw : WFC (E 11) (E 1 24)) (hW : WR E r) (h37 : r 37 ≤ 1999999000) (hX : ∀ (v : Int) (M' : Mem), IX M' → (1 ≤ v ∧ v ≤ 60) → T = v → X121 v M') (hQ : T = -2 → ∀ M' : Mem, IX M' → Q (-2) M') : ∀ (n : Nat) (v3 : Int) (M : Mem), IX M → Ks (kAd 8 (M0 155 16).toNat) M0 M → SC E M 8 (itF E (v3 - 1).toNat r) → pvF E r p1 p2 n v3 = T → (1 ≤ v3 ∧ v3 + n = 61) → qX11_passes_L88 p1 p2 X121 Q (n + 1) v3 M := by
  intro n
  induction n with
  | zero =>
    intro v3 M hI hK hC hT hv
    rw [qX11_passes_L88]
    exact ⟨⟨by omega, by omega⟩, ⟨fun _ => hQ hT.symm M hI, fun c => by omega⟩⟩
  | succ n ih =>
    intro v3 M hI hK hC hT hv
    have W := WR.it hS0.eb hW (v3 - 1).toNat
    rw [qX11_passes_L88]
    unfold pvF at hT
    refine ⟨⟨by omega, by omega⟩, ⟨fun c => by omega, fun c => ?_⟩⟩
    refine adv8 hI hI0 hS0 hL0 hw hK hC W (by rw [itF_37 hS0.eb]; omega) ?_
    intro M9 i9 k9 c9 w9
    have e9 : stF E (itF E (v3 - 1).toNat r) = itF E v3.toNat r := by
      rw [← itF_s (by omega), show v3 - 1 + 1 = v3 from by omega]
    rw [e9] at c9 w9
    refine gX6_isAheadOf hS0.eb c9 w9 h1 h2 ?_
    intro x22 q22 _ _
    refine ⟨fun d => ?_, fun d => ?_⟩
    · rw [if_neg (by rcases q22 with q | q; omega; exact q.2)] at hT
      refine ih (v3 + 1) M9 i9 k9 ?_ hT (by omega)
      rw [show v3 + 1 - 1 = v3 from by omega]
      exact c9
    · rw [if_pos (by rcases q22 with q | q; exact q.2; omega)] at hT
      exact hX v3 M9 i9 (by omega) hT.symm
theorem gX11_passes {p1 p2 : Int} {M E : Mem} {r : Int → Int} {Q : Int → Mem → Prop} (hI : IX M) (hS : STR E M) (hL : LAW E M (M 155 16).toNat) (hw : WFC (E 11) (E 1 24)) (hC : SC E M 1 r) (hW : WR E r) (h37 : r 37 ≤ 1999999000) (hQ : ∀ M' : Mem, IX M' → Q (pvA E r p1 p2) M') : qX11_passes p1 p2 M Q := by
  have el : (M 155 16).toNat = 187 ∨ (M 155 16).toNat = 192 := hI.l16
  have e4 := hS.eb.2.1
  unfold pvA at hQ
  have NO : ¬ paOK E p1 p2 → Q (-1) M := fun n => by have := hQ M hI; rw [if_pos n] at this; exact this
  unfold qX11_passes
  refine gX6_isHearse hC ?_
  intro x1 q1 _ _
  refine ⟨fun c => NO (fun u => by have := u.1; omega), fun c => ?_⟩
  refine gX6_isHearse hC ?_
  intro x3 q3 _ _
  refine ⟨fun c2 => NO (fun u => by have := u.2.1; omega), fun c2 => ⟨fun c3 => ?_, fun c3 => NO (fun u => u.2.2 c3)⟩⟩
  have h1 : 0 ≤ p1 ∧ p1 < E 1 4 := by omega
  have h2 : 0 ≤ p2 ∧ p2 < E 1 4 := by omega
  have ok : paOK E p1 p2 := ⟨h1, h2, c3⟩
  have w1 := hW.2.1 p1 h1.1 h1.2
  have w2 := hW.2.1 p2 h2.1 h2.2
  have b1 : M (1 + 2) p1 = r (6 + p1) := hC.2.2.2.1 p1 h1.1 (by omega)
  have b2 : M (1 + 2) p2 = r (6 + p2) := hC.2.2.2.1 p2 h2.1 (by omega)
  rw [if_neg (fun u => u ok)] at hQ
  have N2 : (r p1 < 0 ∨ r p2 < 0 ∨ r p2 < r p1) → Q (-2) M := fun n => by have := hQ M hI; rw [if_pos n] at this; exact this
  refine gX6_hasArrived (by omega) ?_
  intro x6 q6 _ _
  rw [b1] at q6
  refine ⟨fun d => N2 (by omega), fun d => ?_⟩
  refine gX6_hasArrived (by omega) ?_
  intro x8 q8 _ _
  rw [b2] at q8
  refine ⟨fun d2 => N2 (by omega), fun d2 => ⟨by omega, by omega, ?_⟩⟩
  intro x12 e12 _
  have f12 : x12 = r p1 := by rw [e12]; exact hC.2.2.1 p1 h1.1 (by omega)
  refine ⟨by omega, by omega, ?_⟩
  intro x15 e15 _
  have f15 : x15 = r p2 := by rw [e15]; exact hC.2.2.1 p2 h2.1 (by omega)
  refine ⟨fun d3 => ?_, fun d3 => N2 (by omega)⟩
  rw [if_neg (by omega)] at hQ
  refine gX6_copyFrom hI (show isS 8 by decide) (show isS 1 by decide) (by decide) ?_
  intro M3 i3 k3 s3 _
  have g16 : M3 155 16 = M 155 16 := k3 155 16 (by omega)
  have S3 : STR E M3 := hS.fr (k3 _ _ (by omega)) (k3 _ _ (by omega)) (k3 _ _ (by omega)) (fun j => k3 159 j (by omega))
  have L3 : LAW E M3 (M3 155 16).toNat := by rw [g16]; exact hL.fr (k3 _ _ (by omega)) (k3 _ _ (by omega)) (fun j => k3 _ j (by omega)) (fun j => k3 _ j (by omega))
  refine ⟨61, gX11_passes_L88 (E := E) (r := r) (M0 := M3) (T := pvF E r p1 p2 60 1) h1 h2 i3 S3 L3 hw hW h37 ?_ (fun e M' i' => by have := hQ M' i'; rw [e] at this; exact this) 60 1 M3 i3 Ks.rf (s3 E r hC) rfl (by omega)⟩
  intro v M' i' hv hT
  refine ⟨by omega, by omega, ?_⟩
  intro x27 _ _
  refine tell1 i' ?_
  intro M28 i28 _
  have := hQ M28 i28
  rw [hT] at this
  exact ⟨⟨by omega, by omega⟩, this⟩
theorem gX12_passes_L71 {p1 p2 b T : Int} {X97 : Int → Mem → Prop} {Q : Int → Mem → Prop} {E : Mem} {r : Int → Int} (h1 : 0 ≤ p1 ∧ p1 ≤ 5) (h2 : 0 ≤ p2 ∧ p2 ≤ 5) (hb : b + 61 ≤ 2000000000) (hX : ∀ (v : Int) (M' : Mem), IM (b + 61) M' → (1 ≤ v ∧ v ≤ 60) → T = v → X97 v M') (hQ : T = -2 → ∀ M' : Mem, IM (b + 61) M' → Q (-2) M') : ∀ (n : Nat) (v3 : Int) (M : Mem), IM (b + v3) M → CE E M → M 6 = itF E (v3 - 1).toNat r → pvF E r p1 p2 n v3 = T → (1 ≤ v3 ∧ v3 + n = 61) → qX12_passes_L71 p1 p2 X97 Q (n + 1) v3 M := by
  intro n
  induction n with
  | zero =>
    intro v3 M hI hE h6 hT hv
    rw [qX12_passes_L71]
    exact ⟨⟨by omega, by omega⟩, ⟨fun _ => hQ hT.symm M (hI.mono (by omega)), fun c => by omega⟩⟩
  | succ n ih =>
    intro v3 M hI hE h6 hT hv
    rw [qX12_passes_L71]
    unfold pvF at hT
    refine ⟨⟨by omega, by omega⟩, ⟨fun c => by omega, fun c => ?_⟩⟩
    refine gX12_stepGoes hI hE (by omega) (Or.inr rfl) ?_
    intro M' i' E' k'
    have e9 : M' 6 = itF E v3.toNat r := by
      rw [k', h6, ← itF_s (by omega), show v3 - 1 + 1 = v3 from by omega]
    refine gX12_isAhead h1 h2 ?_
    intro x17 q17 _ _
    rw [e9] at q17
    refine ⟨fun d => ?_, fun d => ?_⟩
    · rw [if_neg (by rcases q17 with q | q; omega; exact q.2)] at hT
      refine ih (v3 + 1) M' (i'.mono (by omega)) E' ?_ hT (by omega)
      rw [show v3 + 1 - 1 = v3 from by omega]
      exact e9
    · rw [if_pos (by rcases q17 with q | q; exact q.2; omega)] at hT
      exact hX v3 M' (i'.mono (by omega)) (by omega) hT.symm
theorem gX12_passes {p1 p2 b : Int} {M E : Mem} {Q : Int → Mem → Prop} (hI : IM b M) (hE : CE E M) (hE0 : EBx E) (hb : b + 100 ≤ 2000000000) (hQ : ∀ M' : Mem, IM (b + 100) M' → Q (pvA E (cr (M 5) (M 6)) p1 p2) M') : qX12_passes p1 p2 M Q := by
  have e4 := hE0.2.1
  unfold pvA at hQ
  unfold qX12_passes
  intro M1 h1'
  obtain ⟨i1, E1, k5, k6, _⟩ := th0 hI hE h1'
  have NO : ¬ paOK E p1 p2 → Q (-1) M1 := fun n => by have := hQ M1 (i1.mono (by omega)); rw [if_pos n] at this; exact this
  refine gX12_isHearse i1 E1 ?_
  intro x1 q1 _ _
  refine ⟨fun c => NO (fun u => by have := u.1; omega), fun c => ?_⟩
  refine gX12_isHearse i1 E1 ?_
  intro x3 q3 _ _
  refine ⟨fun c2 => NO (fun u => by have := u.2.1; omega), fun c2 => ⟨fun c3 => ?_, fun c3 => NO (fun u => u.2.2 c3)⟩⟩
  have h1 : 0 ≤ p1 ∧ p1 < E 1 4 := by omega
  have h2 : 0 ≤ p2 ∧ p2 < E 1 4 := by omega
  have ok : paOK E p1 p2 := ⟨h1, h2, c3⟩
  rw [if_neg (fun u => u ok), cr_i (f := M 5) (g := M 6) (j := p1) (by omega) (by omega), cr_i (f := M 5) (g := M 6) (j := p2) (by omega) (by omega), ← k5] at hQ
  have N2 : (M1 5 p1 < 0 ∨ M1 5 p2 < 0 ∨ M1 5 p2 < M1 5 p1) → Q (-2) M1 := fun n => by have := hQ M1 (i1.mono (by omega)); rw [if_pos n] at this; exact this
  refine gX12_isOn (by omega) ?_
  intro x7 q7 _ _
  refine ⟨fun d => N2 (by omega), fun d => ?_⟩
  refine gX12_isOn (by omega) ?_
  intro x9 q9 _ _
  refine ⟨fun d2 => N2 (by omega), fun d2 => ?_⟩
  refine gX12_isAhead ⟨by omega, by omega⟩ ⟨by omega, by omega⟩ ?_
  intro x11 q11 _ _
  unfold ahF at q11
  refine ⟨fun d3 => ?_, fun d3 => N2 (by omega)⟩
  rw [if_neg (by omega)] at hQ
  refine gX12_copiesC i1 ?_
  intro M4 i4 f4 g4
  rw [k6] at g4
  refine ⟨61, gX12_passes_L71 (b := b) (E := E) (r := cr (M1 5) (M 6)) (T := pvF E (cr (M1 5) (M 6)) p1 p2 60 1) ⟨h1.1, by omega⟩ ⟨h2.1, by omega⟩ (by omega) ?_ (fun e M' i' => by have := hQ M' (i'.mono (by omega)); rw [e] at this; exact this) 60 1 M4 (i4.mono (by omega)) (E1.c6 f4) g4 rfl (by omega)⟩
  intro v M' i' hv hT M20 h20
  have i20 : IM (b + 61) M20 := by rw [h20]; exact i'.up (by omega) (bm_c1_1.mpr (by decide))
  have t20 : M20 1 1 = 0 := by rw [h20, up2_s]
  refine ⟨by omega, by omega, ?_⟩
  intro x23 _ _
  refine entC i20 (by omega) ?_
  intro M24 i24 _ _
  have := hQ M24 (i24.mono (by omega))
  rw [hT] at this
  exact ⟨⟨by omega, by omega⟩, this⟩
end
section
/-! YEARS -/
def rnF (R : Int) : Int := w32 (w32 (R * 1103515245) + 12345)
def drF (R n : Int) : Int := rmI (usI (rnF R) 16) n
theorem drF_b {R n : Int} (hn : 1 ≤ n ∧ n ≤ 100) : 0 ≤ drF R n ∧ drF R n ≤ n - 1 := by
  have u := usI_16 (rnF R)
  exact rmI_b (a := usI (rnF R) 16) (b := n) ⟨by omega, by omega⟩ ⟨by omega, by omega⟩
theorem tn_37 {E : Mem} {r : Int → Int} (hE : EBx E) (m : Int) : tnR E r m 37 = r 37 := by
  have e := hE.2
  unfold tnR
  split
  · rename_i c
    have c0 : 0 ≤ m ∧ m < E 1 5 := c.1
    rw [up_j (by omega)]
  · rfl
theorem ps_37 {E : Mem} {r : Int → Int} (hE : EBx E) (m v : Int) : psR E r m v 37 = r 37 := by
  have e := hE.2
  unfold psR
  split
  · rename_i c
    have c0 : 0 ≤ m ∧ m < E 1 5 := c.1.1
    rw [up_j (by omega)]
  · rfl
theorem st_37 {E : Mem} {r : Int → Int} (hE : EBx E) : stF E r 37 = r 37 + 1 := by
  have h := itF_37 (E := E) (r := r) hE 1
  exact h
noncomputable def yrF (E : Mem) : Nat → Int → (Int → Int) → Int → Int
  | 0, _, r => r
  | n + 1, R, r => if drF R 4 < 2 then yrF E n (rnF R) (stF E r) else if E 1 5 ≤ 0 then yrF E n (rnF R) r else if drF R 4 = 2 then yrF E n (rnF (rnF R)) (tnR E r (drF (rnF R) (E 1 5))) else yrF E n (rnF (rnF (rnF R))) (psR E r (drF (rnF R) (E 1 5)) (drF (rnF (rnF R)) 5 - 2))
noncomputable def yrA (E : Mem) (r : Int → Int) (s n : Int) : Int := if 1 ≤ n ∧ n ≤ 60 then yrF E n.toNat s r 12 else -1
theorem gX11_draw {p1 : Int} {M : Mem} {Q : Int → Mem → Prop} (hI : IX M) (hp : 1 ≤ p1 ∧ p1 ≤ 100) (hQ : ∀ M' : Mem, IX M' → Ks (fun k j => k = 155 ∧ j = 15) M M' → M' 155 15 = rnF (M 155 15) → Q (drF (M 155 15) p1) M') : qX11_draw p1 M Q := by
  unfold qX11_draw
  intro x1 e1 _ x2 e2 _ x3 e3 _ M4 h4
  have f3 : x3 = rnF (M 155 15) := by rw [e3, e2, e1]; rfl
  have i4 : IX M4 := by rw [h4]; exact hI.up15 rfl
  have k4 : Ks (fun k j => k = 155 ∧ j = 15) M M4 := by rw [h4]; exact Ks.rf.wr ⟨rfl, rfl⟩
  have g4 : M4 155 15 = rnF (M 155 15) := by rw [h4, up2_s]; exact f3
  refine ⟨fun c => ?_, fun c => by omega⟩
  intro x6 e6 _ x7 e7 _
  refine ⟨by omega, ?_⟩
  intro x9 e9 _
  rw [e9, e7, e6, g4]
  exact hQ M4 i4 k4 g4
theorem gX12_draws {p1 b : Int} {M : Mem} {Q : Int → Mem → Prop} (hI : IM b M) (hp : 1 ≤ p1 ∧ p1 ≤ 100) (hQ : ∀ M' : Mem, IM b M' → FrJ (fun k j => k = 1 ∧ j = 49) M M' → M' 1 49 = rnF (M 1 49) → Q (drF (M 1 49) p1) M') : qX12_draws p1 M Q := by
  unfold qX12_draws
  intro x1 e1 _ x2 e2 _ x3 e3 _ M4 h4
  have f3 : x3 = rnF (M 1 49) := by rw [e3, e2, e1]; rfl
  have i4 : IM b M4 := by rw [h4]; exact hI.up (by omega) (by simp [BM])
  have k4 : FrJ (fun k j => k = 1 ∧ j = 49) M M4 := by rw [h4]; exact FrJ.rf.up ⟨rfl, rfl⟩
  have g4 : M4 1 49 = rnF (M 1 49) := by rw [h4, up2_s]; exact f3
  intro x5 e5 _ x6 e6 _
  refine ⟨by omega, ?_⟩
  intro x8 e8 _
  rw [e8, e6, e5, g4]
  exact hQ M4 i4 k4 g4
abbrev kYr (kl k : Nat) (j : Int) : Prop := kAd 8 kl k j ∨ (k = 155 ∧ j = 15)
theorem gX11_years_L31 {p1 p2 : Int} {X155 : Mem → Prop} {Q : Int → Mem → Prop} {M0 E : Mem} {T : Int → Int} (hI0 : IX M0) (hS0 : STR E M0) (hL0 : LAW E M0 (M0 155 16).toNat) (hw : WFC (E 11) (E 1 24)) (h2 : p2 ≤ 60) (hX : ∀ M' : Mem, IX M' → SC E M' 8 T → X155 M') : ∀ (n : Nat) (v3 : Int) (M : Mem) (r : Int → Int), IX M → Ks (kYr (M0 155 16).toNat) M0 M → SC E M 8 r → WR E r → r 37 ≤ 1999999000 + v3 → yrF E n (M 155 15) r = T → (0 ≤ v3 ∧ v3 + n = p2) → qX11_years_L31 p1 p2 X155 Q (n + 1) v3 M := by
  have eb := hS0.eb
  have e5 := eb.2.2
  have el : (M0 155 16).toNat = 187 ∨ (M0 155 16).toNat = 192 := hI0.l16
  have own : ∀ m, 0 ≤ m → m < E 1 5 → 0 ≤ E 3 m ∧ E 3 m < E 1 4 := hS0.2.2.2.2.2.2.2.2
  intro n
  induction n with
  | zero =>
    intro v3 M r hI hK hC hW h37 hT hv
    rw [qX11_years_L31]
    have hT' : r = T := hT
    exact ⟨⟨by omega, by omega⟩, ⟨fun _ => hX M hI (by rw [← hT']; exact hC), fun c => by omega⟩⟩
  | succ n ih =>
    intro v3 M r hI hK hC hW h37 hT hv
    have S1 : ∀ M' : Mem, Ks (kYr (M0 155 16).toNat) M0 M' → STR E M' := fun M' k => hS0.fr (k _ _ (by omega)) (k _ _ (by omega)) (k _ _ (by omega)) (fun j => k 159 j (by omega))
    rw [qX11_years_L31]
    unfold yrF at hT
    refine ⟨⟨by omega, by omega⟩, ⟨fun c => by omega, fun c => ?_⟩⟩
    refine gX11_draw hI (by decide) ?_
    intro M7 i7 k7 g7 _
    have K7 : Ks (kYr (M0 155 16).toNat) M0 M7 := hK.tr (k7.mono (fun k j h => Or.inr h))
    have C7 : SC E M7 8 r := hC.fr (fun i j hi => k7 _ j (by omega))
    refine ⟨fun d => ?_, fun d => ?_⟩
    · rw [if_neg (by omega)] at hT
      refine ⟨fun d2 => ?_, fun d2 => ?_⟩
      · intro x10 e10 _
        have f10 : x10 = E 1 5 := by rw [e10]; exact C7.2.1
        refine ⟨fun d3 => ?_, fun d3 => ?_⟩
        · rw [if_pos (by omega)] at hT
          exact ih (v3 + 1) M7 r i7 K7 C7 hW (by omega) (by rw [g7]; exact hT) (by omega)
        · rw [if_neg (by omega), if_neg d2] at hT
          intro x12 e12 _
          have f12 : x12 = E 1 5 := by rw [e12]; exact C7.2.1
          rw [f12]
          refine gX11_draw i7 (by omega) ?_
          intro M13 i13 k13 g13 _
          refine gX11_draw i13 (by decide) ?_
          intro M14 i14 k14 g14 _
          have K14 : Ks (kYr (M0 155 16).toNat) M0 M14 := (K7.tr (k13.mono (fun k j h => Or.inr h))).tr (k14.mono (fun k j h => Or.inr h))
          have C14 : SC E M14 8 r := (C7.fr (M' := M13) (fun i j hi => k13 _ j (by omega))).fr (fun i j hi => k14 _ j (by omega))
          have d5 := drF_b (R := M13 155 15) (n := 5) (by decide)
          refine ⟨⟨by omega, by omega⟩, ?_⟩
          refine gX6_shove i14 (show isS 8 by decide) (S1 M14 K14) C14 hW ?_
          intro M16 i16 k16 c16 _
          rw [g7] at c16
          rw [g13, g7] at c16
          refine ih (v3 + 1) M16 _ i16 (K14.tr (k16.mono (fun k j h => Or.inl (by omega)))) c16 (hW.ps eb) (by rw [ps_37 eb]; omega) ?_ (by omega)
          rw [k16 155 15 (by omega), g14, g13, g7]
          exact hT
      · intro x10 e10 _
        have f10 : x10 = E 1 5 := by rw [e10]; exact C7.2.1
        refine ⟨fun d3 => ?_, fun d3 => ?_⟩
        · rw [if_pos (by omega)] at hT
          exact ih (v3 + 1) M7 r i7 K7 C7 hW (by omega) (by rw [g7]; exact hT) (by omega)
        · rw [if_neg (by omega), if_pos d2] at hT
          intro x12 e12 _
          have f12 : x12 = E 1 5 := by rw [e12]; exact C7.2.1
          rw [f12]
          refine gX11_draw i7 (by omega) ?_
          intro M13 i13 k13 g13 _
          have K13 : Ks (kYr (M0 155 16).toNat) M0 M13 := K7.tr (k13.mono (fun k j h => Or.inr h))
          have C13 : SC E M13 8 r := C7.fr (fun i j hi => k13 _ j (by omega))
          refine gX6_turn i13 (show isS 8 by decide) (S1 M13 K13) C13 hW ?_
          intro M16 i16 k16 c16 _
          rw [g7] at c16
          refine ih (v3 + 1) M16 _ i16 (K13.tr (k16.mono (fun k j h => Or.inl (by omega)))) c16 (hW.tn eb own) (by rw [tn_37 eb]; omega) ?_ (by omega)
          rw [k16 155 15 (by omega), g13, g7]
          exact hT
    · rw [if_pos (by omega)] at hT
      have g16 : M7 155 16 = M0 155 16 := K7 155 16 (by omega)
      have L7 : LAW E M7 (M0 155 16).toNat := hL0.fr (K7 _ _ (by omega)) (K7 _ _ (by omega)) (fun j => K7 _ j (by omega)) (fun j => K7 _ j (by omega))
      refine ⟨i7.l16, ?_⟩
      rw [g16]
      refine gX10_advance i7 (show isS 8 by decide) hI0.l16 (S1 M7 K7) L7 hw C7 hW (by omega) ?_
      intro M23 i23 k23 c23 w23 _
      refine ih (v3 + 1) M23 _ i23 (K7.tr (k23.mono (fun k j h => Or.inl h))) c23 w23 (by rw [st_37 eb]; omega) ?_ (by omega)
      rw [k23 155 15 (by omega), g7]
      exact hT
theorem gX11_years {p1 p2 : Int} {M E : Mem} {r : Int → Int} {Q : Int → Mem → Prop} (hI : IX M) (hS : STR E M) (hL : LAW E M (M 155 16).toNat) (hw : WFC (E 11) (E 1 24)) (hC : SC E M 1 r) (hW : WR E r) (h37 : r 37 ≤ 1999999000) (hQ : ∀ M' : Mem, IX M' → Q (yrA E r p1 p2) M') : qX11_years p1 p2 M Q := by
  have el : (M 155 16).toNat = 187 ∨ (M 155 16).toNat = 192 := hI.l16
  unfold yrA at hQ
  have NO : ¬ (1 ≤ p2 ∧ p2 ≤ 60) → Q (-1) M := fun n => by have := hQ M hI; rw [if_neg n] at this; exact this
  unfold qX11_years
  refine ⟨fun c => NO (by omega), fun c => ⟨fun c2 => ?_, fun c2 => NO (by omega)⟩⟩
  rw [if_pos (by omega)] at hQ
  refine gX6_copyFrom hI (show isS 8 by decide) (show isS 1 by decide) (by decide) ?_
  intro M3 i3 k3 s3 _ M4 h4
  have i4 : IX M4 := by rw [h4]; exact i3.up15 rfl
  have k4 : Ks (fun k j => (8 ≤ k ∧ k ≤ 14) ∨ (k = 155 ∧ j = 15)) M M4 := by rw [h4]; exact (k3.mono (by intro k j h; omega)).wr (by omega)
  have g16 : M4 155 16 = M 155 16 := k4 155 16 (by omega)
  have S4 : STR E M4 := hS.fr (k4 _ _ (by omega)) (k4 _ _ (by omega)) (k4 _ _ (by omega)) (fun j => k4 159 j (by omega))
  have L4 : LAW E M4 (M4 155 16).toNat := by rw [g16]; exact hL.fr (k4 _ _ (by omega)) (k4 _ _ (by omega)) (fun j => k4 _ j (by omega)) (fun j => k4 _ j (by omega))
  have C4 : SC E M4 8 r := (s3 E r hC).fr (fun i j hi => by rw [h4, up2_n (by omega)])
  refine ⟨p2.toNat + 1, gX11_years_L31 (E := E) (M0 := M4) (T := yrF E p2.toNat p1 r) i4 S4 L4 hw (by omega) ?_ p2.toNat 0 M4 r i4 Ks.rf C4 hW (by omega) (by rw [h4, up2_s]) (by omega)⟩
  intro M5 i5 c5 x25 _ _
  refine sX6_rightBits i5 (show isS 8 by decide) ?_
  intro x26 _
  refine sJ6_bitCount_0f7a4 (p0 := x26) i5 ?_
  intro x27 _ _
  refine tell2 i5 ?_
  intro M28 i28 k28 x29 e29 _
  have := hQ M28 i28
  rw [e29, k28 8 8 (by omega), show M5 8 8 = yrF E p2.toNat p1 r 12 from c5.2.2.2.2.1]
  exact this
theorem gX12_years_L30 {p1 p2 b : Int} {X120 : Mem → Prop} {Q : Int → Mem → Prop} {E : Mem} {T : Int → Int} (hE0 : EBx E) (h2 : p2 ≤ 60) (hb : b + 60 ≤ 2000000000) (hX : ∀ M' : Mem, IM (b + 60) M' → M' 6 = T → X120 M') : ∀ (n : Nat) (v3 : Int) (M : Mem) (r : Int → Int), IM (b + v3) M → CE E M → M 6 = r → yrF E n (M 1 49) r = T → (0 ≤ v3 ∧ v3 + n = p2) → qX12_years_L30 p1 p2 X120 Q (n + 1) v3 M := by
  have e5 := hE0.2.2
  intro n
  induction n with
  | zero =>
    intro v3 M r hI hE h6 hT hv
    rw [qX12_years_L30]
    have hT' : r = T := hT
    exact ⟨⟨by omega, by omega⟩, ⟨fun _ => hX M (hI.mono (by omega)) (by rw [h6, hT']), fun c => by omega⟩⟩
  | succ n ih =>
    intro v3 M r hI hE h6 hT hv
    have ce : ∀ (N N' : Mem), CE E N → FrJ (fun k j => k = 1 ∧ j = 49) N N' → CE E N' := fun N N' h f => h.fr f (by intro k j h; rcases h with h | h | h | h | h <;> omega)
    rw [qX12_years_L30]
    unfold yrF at hT
    refine ⟨⟨by omega, by omega⟩, ⟨fun c => by omega, fun c => ?_⟩⟩
    refine gX12_draws hI (by decide) ?_
    intro M8 i8 k8 g8 _
    have E8 := ce M M8 hE k8
    have q8 : M8 6 = r := by rw [← h6]; exact funext fun j => k8 6 j (by omega)
    refine ⟨fun d => ?_, fun d => ?_⟩
    · rw [if_neg (by omega)] at hT
      intro x10 e10 _
      have f10 : x10 = E 1 5 := by rw [e10]; exact E8 1 5 cE15
      refine ⟨fun d3 => ?_, fun d3 => ?_⟩
      · rw [if_pos (by omega)] at hT
        exact ih (v3 + 1) M8 r (i8.mono (by omega)) E8 q8 (by rw [g8]; exact hT) (by omega)
      · rw [if_neg (by omega)] at hT
        intro x12 e12 _
        have f12 : x12 = E 1 5 := by rw [e12]; exact E8 1 5 cE15
        rw [f12]
        refine gX12_draws i8 (by omega) ?_
        intro M13 i13 k13 g13 _
        have E13 := ce M8 M13 E8 k13
        have q13 : M13 6 = r := by rw [← q8]; exact funext fun j => k13 6 j (by omega)
        refine ⟨fun d2 => ?_, fun d2 => ?_⟩
        · rw [if_neg d2] at hT
          refine gX12_draws i13 (by decide) ?_
          intro M15 i15 k15 g15 _
          have E15 := ce M13 M15 E13 k15
          have q15 : M15 6 = r := by rw [← q13]; exact funext fun j => k15 6 j (by omega)
          have d5 := drF_b (R := M13 1 49) (n := 5) (by decide)
          refine ⟨⟨by omega, by omega⟩, ?_⟩
          refine gX12_pushesOne i15 E15 (Or.inr rfl) ?_
          intro M17 i17 f17 g17 _
          rw [q15, g13, g8] at g17
          refine ih (v3 + 1) M17 _ (i17.mono (by omega)) (E15.c6 f17) g17 ?_ (by omega)
          rw [f17 1 49 (by omega), g15, g13, g8]
          exact hT
        · rw [if_pos d2] at hT
          refine gX12_turnsOne i13 E13 (Or.inr rfl) ?_
          intro M17 i17 f17 g17 _
          rw [q13, g8] at g17
          refine ih (v3 + 1) M17 _ (i17.mono (by omega)) (E13.c6 f17) g17 ?_ (by omega)
          rw [f17 1 49 (by omega), g13, g8]
          exact hT
    · rw [if_pos (by omega)] at hT
      refine fmX12_stepGoes (gX12_stepGoes (E := E) i8 E8 (by omega) (Or.inr rfl) (Q := fun M' => IM (b + v3 + 1) M' ∧ CE E M' ∧ M' 6 = stF E (M8 6)) (fun M' i e g => ⟨i, e, g⟩)) ?_
      intro M19 f19 hh
      obtain ⟨i19, E19, g19⟩ := hh
      rw [q8] at g19
      refine ih (v3 + 1) M19 _ (i19.mono (by omega)) E19 g19 ?_ (by omega)
      rw [f19 1 49 (by omega), g8]
      exact hT
theorem gX12_years {p1 p2 b : Int} {M E : Mem} {Q : Int → Mem → Prop} (hI : IM b M) (hE : CE E M) (hE0 : EBx E) (hb : b + 100 ≤ 2000000000) (hQ : ∀ M' : Mem, IM (b + 100) M' → Q (yrA E (cr (M 5) (M 6)) p1 p2) M') : qX12_years p1 p2 M Q := by
  unfold yrA at hQ
  unfold qX12_years
  intro M1 h1
  obtain ⟨i1, E1, k5, k6, _⟩ := th0 hI hE h1
  refine sX12_in (p0 := p2) (p2 := 1) (p4 := 60) i1 ?_
  intro z hz _ _
  refine ⟨fun c => ?_, fun c => by have := hQ M1 (i1.mono (by omega)); rw [if_neg (by have := hz.2.2 c; omega)] at this; exact this⟩
  have cp := hz.2.1 (by rcases hz.1 with q | q <;> omega)
  rw [if_pos cp] at hQ
  intro M4 h4
  have i4 : IM b M4 := by rw [h4]; exact i1.up (by omega) (by simp [BM])
  have F4 : FrJ (fun k j => k = 1 ∧ j = 49) M1 M4 := by rw [h4]; exact FrJ.rf.up ⟨rfl, rfl⟩
  have E4 : CE E M4 := E1.fr F4 (by intro k j h; rcases h with h | h | h | h | h <;> omega)
  refine gX12_copiesC i4 ?_
  intro M5 i5 f5 g5
  rw [show M4 5 = M 5 from by rw [h4, up2_n (by decide)]; exact k5, show M4 6 = M 6 from by rw [h4, up2_n (by decide)]; exact k6] at g5
  refine ⟨p2.toNat + 1, gX12_years_L30 (b := b) (E := E) (T := yrF E p2.toNat p1 (cr (M 5) (M 6))) hE0 cp.2 (by omega) ?_ p2.toNat 0 M5 _ (i5.mono (by omega)) (E4.c6 f5) g5 (by rw [f5 1 49 (by omega), h4, up2_s]) (by omega)⟩
  intro M6 i6 q6
  refine sX12_endedBy (k1 := 6) i6 (Or.inr rfl) ?_
  intro x21 _
  refine sX12_endedBy (k1 := 6) i6 (Or.inr rfl) ?_
  intro x22 _ x23 _ _ M24 h24
  have i24 : IM (b + 60) M24 := by rw [h24]; exact i6.up (by omega) (bm_c1_1.mpr (by decide))
  have t24 : M24 1 1 = 0 := by rw [h24, up2_s]
  have q24 : M24 6 = M6 6 := by rw [h24, up2_n (by decide)]
  refine sJ6_bitCountM i24 ?_
  intro x25 _ _
  refine entC i24 (by omega) ?_
  intro M26 i26 k26 t26
  refine sX12_endedBy (k1 := 6) i26 (Or.inr rfl) ?_
  intro x27 _
  refine sJ6_bitCountM i26 ?_
  intro x28 _ _
  refine entC i26 (by omega) ?_
  intro M29 i29 k29 _ x30 e30 _
  have := hQ M29 (i29.mono (by omega))
  rw [e30, k29 6 12 (by omega), k26 6 12 (by omega), q24, q6]
  exact this
end
section
/-! QUESTIONS, alike on both sides -/
theorem Cl_line (k : Nat) (MX MM : Mem)  (hk : k < 512) (hMX : MR MX) (hMM : MR MM) (hR : Rel k MX MM) : qX11_line  MX (fun z MX1 => qX12_line  MM (fun b MM1 => z = b ∧ Rel (k + 1) MX1 MM1)) := by
  have S := hR.S
  have r37 := hR.r37 hk
  have h37 : (cr (MM 5) (MM 6)) 37 ≤ 1999999000 := by rw [cr_i (by decide) (by decide)]; omega
  have C := S.2.2.1.cr hR.E0 (g := MM 6)
  have W := S.2.2.2.1.cr hR.E0 (g := MM 6)
  refine fmX11_line (gX11_line (E := cut MM) (r := (MM 5))  hR.1 S.1 S.2.2.1 S.2.2.2.1 (Q := fun z M' => z = liA (cut MM) (MM 5) ∧ IX M') (fun M' i => ⟨rfl, i⟩)) ?_
  intro z MX1 fX hX
  refine fmX12_line (gX12_line (E := cut MM)  hR.2.1 (cut_CE MM) hR.E0 (Q := fun z M' => z = liA (cut MM) (MM 5) ∧ IM (60000 * (k : Int) + 0) M') (fun M' i => ⟨rfl, i.mono (by omega)⟩)) ?_
  intro b MM1 fM hM
  exact ⟨by rw [hX.1, hM.1], hR.q hX.2 hM.2 (by omega) (fX 156 1 (by first | omega | exact fun h => h)) (fM 1 14 (by first | omega | exact fun h => h)) (fX 182 2 (by first | omega | exact fun h => h)) (fM 1 45 (by first | omega | exact fun h => h)) (fun j => fX 157 j (by first | omega | exact fun h => h)) (fun j => fM 7 j (by first | omega | exact fun h => h)) (fun j => ⟨fX 183 j (by first | omega | exact fun h => h), fX 184 j (by first | omega | exact fun h => h), fM 26 j (by first | omega | exact fun h => h), fM 27 j (by first | omega | exact fun h => h)⟩) (fun k j q => fX k j (by first | omega | exact fun h => h)) (fun k j q => fM k j (by first | omega | exact fun h => h))⟩
theorem Cl_ahead (k : Nat) (MX MM : Mem) (y1 : Int) (hy1 : iR y1) (hk : k < 512) (hMX : MR MX) (hMM : MR MM) (hR : Rel k MX MM) : qX11_ahead y1 MX (fun z MX1 => qX12_ahead y1 MM (fun b MM1 => z = b ∧ Rel (k + 1) MX1 MM1)) := by
  have S := hR.S
  have r37 := hR.r37 hk
  have h37 : (cr (MM 5) (MM 6)) 37 ≤ 1999999000 := by rw [cr_i (by decide) (by decide)]; omega
  have C := S.2.2.1.cr hR.E0 (g := MM 6)
  have W := S.2.2.2.1.cr hR.E0 (g := MM 6)
  refine fmX11_ahead (gX11_ahead (E := cut MM) (r := (cr (MM 5) (MM 6))) (p1 := y1) hR.1 S.1 S.2.1 hR.W C W h37 (Q := fun z M' => z = ahA (cut MM) (cr (MM 5) (MM 6)) y1 ∧ IX M') (fun M' i => ⟨rfl, i⟩)) ?_
  intro z MX1 fX hX
  refine fmX12_ahead (gX12_ahead (E := cut MM) (p1 := y1) hR.2.1 (cut_CE MM) hR.E0 (by omega) (Q := fun z M' => z = ahA (cut MM) (cr (MM 5) (MM 6)) y1 ∧ IM (60000 * (k : Int) + 200) M') (fun M' i => ⟨rfl, i.mono (by omega)⟩)) ?_
  intro b MM1 fM hM
  exact ⟨by rw [hX.1, hM.1], hR.q hX.2 hM.2 (by omega) (fX 156 1 (by first | omega | exact fun h => h)) (fM 1 14 (by first | omega | exact fun h => h)) (fX 182 2 (by first | omega | exact fun h => h)) (fM 1 45 (by first | omega | exact fun h => h)) (fun j => fX 157 j (by first | omega | exact fun h => h)) (fun j => fM 7 j (by first | omega | exact fun h => h)) (fun j => ⟨fX 183 j (by first | omega | exact fun h => h), fX 184 j (by first | omega | exact fun h => h), fM 26 j (by first | omega | exact fun h => h), fM 27 j (by first | omega | exact fun h => h)⟩) (fun k j q => fX k j (by first | omega | exact fun h => h)) (fun k j q => fM k j (by first | omega | exact fun h => h))⟩
theorem Cl_arrives (k : Nat) (MX MM : Mem) (y1 : Int) (hy1 : iR y1) (hk : k < 512) (hMX : MR MX) (hMM : MR MM) (hR : Rel k MX MM) : qX11_arrives y1 MX (fun z MX1 => qX12_arrives y1 MM (fun b MM1 => z = b ∧ Rel (k + 1) MX1 MM1)) := by
  have S := hR.S
  have r37 := hR.r37 hk
  have h37 : (cr (MM 5) (MM 6)) 37 ≤ 1999999000 := by rw [cr_i (by decide) (by decide)]; omega
  have C := S.2.2.1.cr hR.E0 (g := MM 6)
  have W := S.2.2.2.1.cr hR.E0 (g := MM 6)
  refine fmX11_arrives (gX11_arrives (E := cut MM) (r := (cr (MM 5) (MM 6))) (p1 := y1) hR.1 S.1 S.2.1 hR.W C W h37 (Q := fun z M' => z = avA (cut MM) (cr (MM 5) (MM 6)) y1 ∧ IX M') (fun M' i => ⟨rfl, i⟩)) ?_
  intro z MX1 fX hX
  refine fmX12_arrives (gX12_arrives (E := cut MM) (p1 := y1) hR.2.1 (cut_CE MM) hR.E0 (by omega) (Q := fun z M' => z = avA (cut MM) (cr (MM 5) (MM 6)) y1 ∧ IM (60000 * (k : Int) + 201) M') (fun M' i => ⟨rfl, i.mono (by omega)⟩)) ?_
  intro b MM1 fM hM
  exact ⟨by rw [hX.1, hM.1], hR.q hX.2 hM.2 (by omega) (fX 156 1 (by first | omega | exact fun h => h)) (fM 1 14 (by first | omega | exact fun h => h)) (fX 182 2 (by first | omega | exact fun h => h)) (fM 1 45 (by first | omega | exact fun h => h)) (fun j => fX 157 j (by first | omega | exact fun h => h)) (fun j => fM 7 j (by first | omega | exact fun h => h)) (fun j => ⟨fX 183 j (by first | omega | exact fun h => h), fX 184 j (by first | omega | exact fun h => h), fM 26 j (by first | omega | exact fun h => h), fM 27 j (by first | omega | exact fun h => h)⟩) (fun k j q => fX k j (by first | omega | exact fun h => h)) (fun k j q => fM k j (by first | omega | exact fun h => h))⟩
theorem Cl_passes (k : Nat) (MX MM : Mem) (y1 y2 : Int) (hy1 : iR y1) (hy2 : iR y2) (hk : k < 512) (hMX : MR MX) (hMM : MR MM) (hR : Rel k MX MM) : qX11_passes y1 y2 MX (fun z MX1 => qX12_passes y1 y2 MM (fun b MM1 => z = b ∧ Rel (k + 1) MX1 MM1)) := by
  have S := hR.S
  have r37 := hR.r37 hk
  have h37 : (cr (MM 5) (MM 6)) 37 ≤ 1999999000 := by rw [cr_i (by decide) (by decide)]; omega
  have C := S.2.2.1.cr hR.E0 (g := MM 6)
  have W := S.2.2.2.1.cr hR.E0 (g := MM 6)
  refine fmX11_passes (gX11_passes (E := cut MM) (r := (cr (MM 5) (MM 6))) (p1 := y1) (p2 := y2) hR.1 S.1 S.2.1 hR.W C W h37 (Q := fun z M' => z = pvA (cut MM) (cr (MM 5) (MM 6)) y1 y2 ∧ IX M') (fun M' i => ⟨rfl, i⟩)) ?_
  intro z MX1 fX hX
  refine fmX12_passes (gX12_passes (E := cut MM) (p1 := y1) (p2 := y2) hR.2.1 (cut_CE MM) hR.E0 (by omega) (Q := fun z M' => z = pvA (cut MM) (cr (MM 5) (MM 6)) y1 y2 ∧ IM (60000 * (k : Int) + 100) M') (fun M' i => ⟨rfl, i.mono (by omega)⟩)) ?_
  intro b MM1 fM hM
  exact ⟨by rw [hX.1, hM.1], hR.q hX.2 hM.2 (by omega) (fX 156 1 (by first | omega | exact fun h => h)) (fM 1 14 (by first | omega | exact fun h => h)) (fX 182 2 (by first | omega | exact fun h => h)) (fM 1 45 (by first | omega | exact fun h => h)) (fun j => fX 157 j (by first | omega | exact fun h => h)) (fun j => fM 7 j (by first | omega | exact fun h => h)) (fun j => ⟨fX 183 j (by first | omega | exact fun h => h), fX 184 j (by first | omega | exact fun h => h), fM 26 j (by first | omega | exact fun h => h), fM 27 j (by first | omega | exact fun h => h)⟩) (fun k j q => fX k j (by first | omega | exact fun h => h)) (fun k j q => fM k j (by first | omega | exact fun h => h))⟩
theorem Cl_ends (k : Nat) (MX MM : Mem) (y1 : Int) (hy1 : iR y1) (hk : k < 512) (hMX : MR MX) (hMM : MR MM) (hR : Rel k MX MM) : qX11_ends y1 MX (fun z MX1 => qX12_ends y1 MM (fun b MM1 => z = b ∧ Rel (k + 1) MX1 MM1)) := by
  have S := hR.S
  have r37 := hR.r37 hk
  have h37 : (cr (MM 5) (MM 6)) 37 ≤ 1999999000 := by rw [cr_i (by decide) (by decide)]; omega
  have C := S.2.2.1.cr hR.E0 (g := MM 6)
  have W := S.2.2.2.1.cr hR.E0 (g := MM 6)
  refine fmX11_ends (gX11_ends (E := cut MM) (r := (cr (MM 5) (MM 6))) (p1 := y1) hR.1 S.1 S.2.1 hR.W C W h37 (Q := fun z M' => z = edA (cut MM) (cr (MM 5) (MM 6)) y1 ∧ IX M') (fun M' i => ⟨rfl, i⟩)) ?_
  intro z MX1 fX hX
  refine fmX12_ends (gX12_ends (E := cut MM) (p1 := y1) hR.2.1 (cut_CE MM) hR.E0 (by omega) (Q := fun z M' => z = edA (cut MM) (cr (MM 5) (MM 6)) y1 ∧ IM (60000 * (k : Int) + 401) M') (fun M' i => ⟨rfl, i.mono (by omega)⟩)) ?_
  intro b MM1 fM hM
  exact ⟨by rw [hX.1, hM.1], hR.q hX.2 hM.2 (by omega) (fX 156 1 (by first | omega | exact fun h => h)) (fM 1 14 (by first | omega | exact fun h => h)) (fX 182 2 (by first | omega | exact fun h => h)) (fM 1 45 (by first | omega | exact fun h => h)) (fun j => fX 157 j (by first | omega | exact fun h => h)) (fun j => fM 7 j (by first | omega | exact fun h => h)) (fun j => ⟨fX 183 j (by first | omega | exact fun h => h), fX 184 j (by first | omega | exact fun h => h), fM 26 j (by first | omega | exact fun h => h), fM 27 j (by first | omega | exact fun h => h)⟩) (fun k j q => fX k j (by first | omega | exact fun h => h)) (fun k j q => fM k j (by first | omega | exact fun h => h))⟩
theorem Cl_years (k : Nat) (MX MM : Mem) (y1 y2 : Int) (hy1 : iR y1) (hy2 : iR y2) (hk : k < 512) (hMX : MR MX) (hMM : MR MM) (hR : Rel k MX MM) : qX11_years y1 y2 MX (fun z MX1 => qX12_years y1 y2 MM (fun b MM1 => z = b ∧ Rel (k + 1) MX1 MM1)) := by
  have S := hR.S
  have r37 := hR.r37 hk
  have h37 : (cr (MM 5) (MM 6)) 37 ≤ 1999999000 := by rw [cr_i (by decide) (by decide)]; omega
  have C := S.2.2.1.cr hR.E0 (g := MM 6)
  have W := S.2.2.2.1.cr hR.E0 (g := MM 6)
  refine fmX11_years (gX11_years (E := cut MM) (r := (cr (MM 5) (MM 6))) (p1 := y1) (p2 := y2) hR.1 S.1 S.2.1 hR.W C W h37 (Q := fun z M' => z = yrA (cut MM) (cr (MM 5) (MM 6)) y1 y2 ∧ IX M') (fun M' i => ⟨rfl, i⟩)) ?_
  intro z MX1 fX hX
  refine fmX12_years (gX12_years (E := cut MM) (p1 := y1) (p2 := y2) hR.2.1 (cut_CE MM) hR.E0 (by omega) (Q := fun z M' => z = yrA (cut MM) (cr (MM 5) (MM 6)) y1 y2 ∧ IM (60000 * (k : Int) + 100) M') (fun M' i => ⟨rfl, i.mono (by omega)⟩)) ?_
  intro b MM1 fM hM
  exact ⟨by rw [hX.1, hM.1], hR.q hX.2 hM.2 (by omega) (fX 156 1 (by first | omega | exact fun h => h)) (fM 1 14 (by first | omega | exact fun h => h)) (fX 182 2 (by first | omega | exact fun h => h)) (fM 1 45 (by first | omega | exact fun h => h)) (fun j => fX 157 j (by first | omega | exact fun h => h)) (fun j => fM 7 j (by first | omega | exact fun h => h)) (fun j => ⟨fX 183 j (by first | omega | exact fun h => h), fX 184 j (by first | omega | exact fun h => h), fM 26 j (by first | omega | exact fun h => h), fM 27 j (by first | omega | exact fun h => h)⟩) (fun k j q => fX k j (by first | omega | exact fun h => h)) (fun k j q => fM k j (by first | omega | exact fun h => h))⟩
theorem Cl_hearse (k : Nat) (MX MM : Mem) (y1 y2 : Int) (hy1 : iR y1) (hy2 : iR y2) (hk : k < 512) (hMX : MR MX) (hMM : MR MM) (hR : Rel k MX MM) : qX11_hearse y1 y2 MX (fun z MX1 => qX12_hearse y1 y2 MM (fun b MM1 => z = b ∧ MM1 1 0 = 0 ∧ Rel (k + 1) MX1 MM1)) (fun MX1 => qX12_hearse y1 y2 MM (fun b MM1 => MM1 1 0 = 1 ∧ Rel (k + 1) MX1 MM1)) := by
  have S := hR.S
  have r37 := hR.r37 hk
  refine fmX11_hearse (gX11_hearse (E := cut MM) (r := MM 5) (p1 := y1) (p2 := y2) hR.1 S.1 S.2.1 hR.W S.2.2.1 S.2.2.2.1 (by omega) (Q := fun z M' => (heOK (cut MM) y1 y2) ∧ z = heF (cut MM) (MM 5) y1 y2 ∧ IX M') (X := fun M' => ¬ (heOK (cut MM) y1 y2) ∧ IX M') (fun c M' i => ⟨c, rfl, i⟩) (fun n => ⟨n, hR.1⟩)) ?_ ?_
  · intro z MX1 fX hX
    have iX := hX.2.2
    refine fmX12_hearse (gX12_hearse (E := cut MM) (p1 := y1) (p2 := y2) hR.2.1 (cut_CE MM) hR.E0 S.2.2.2.1 (Q := fun z M' => IM (60000 * (k : Int)) M' ∧ ((heOK (cut MM) y1 y2) ∧ z = heF (cut MM) (MM 5) y1 y2 ∧ M' 1 0 = 0 ∨ ¬ (heOK (cut MM) y1 y2) ∧ M' 1 0 = 1)) (fun c M' i t => ⟨i, Or.inl ⟨c, rfl, t⟩⟩) (fun n M' i t => ⟨i, Or.inr ⟨n, t⟩⟩)) ?_
    intro b MM1 fM hM
    obtain ⟨iM, gM⟩ := hM
    have q := hR.q iX iM (by omega) (fX 156 1 (by first | omega | exact fun h => h)) (fM 1 14 (by first | omega | exact fun h => h)) (fX 182 2 (by first | omega | exact fun h => h)) (fM 1 45 (by first | omega | exact fun h => h)) (fun j => fX 157 j (by first | omega | exact fun h => h)) (fun j => fM 7 j (by first | omega | exact fun h => h)) (fun j => ⟨fX 183 j (by first | omega | exact fun h => h), fX 184 j (by first | omega | exact fun h => h), fM 26 j (by first | omega | exact fun h => h), fM 27 j (by first | omega | exact fun h => h)⟩) (fun k j q => fX k j (by first | omega | exact fun h => h)) (fun k j q => fM k j (by first | omega | exact fun h => h))
    rcases gM with g | g
    · exact ⟨by rw [hX.2.1, g.2.1], g.2.2, q⟩
    · exact absurd hX.1 g.1
  · intro MX1 fX hX
    have iX := hX.2
    refine fmX12_hearse (gX12_hearse (E := cut MM) (p1 := y1) (p2 := y2) hR.2.1 (cut_CE MM) hR.E0 S.2.2.2.1 (Q := fun z M' => IM (60000 * (k : Int)) M' ∧ ((heOK (cut MM) y1 y2) ∧ z = heF (cut MM) (MM 5) y1 y2 ∧ M' 1 0 = 0 ∨ ¬ (heOK (cut MM) y1 y2) ∧ M' 1 0 = 1)) (fun c M' i t => ⟨i, Or.inl ⟨c, rfl, t⟩⟩) (fun n M' i t => ⟨i, Or.inr ⟨n, t⟩⟩)) ?_
    intro b MM1 fM hM
    obtain ⟨iM, gM⟩ := hM
    have q := hR.q iX iM (by omega) (fX 156 1 (by first | omega | exact fun h => h)) (fM 1 14 (by first | omega | exact fun h => h)) (fX 182 2 (by first | omega | exact fun h => h)) (fM 1 45 (by first | omega | exact fun h => h)) (fun j => fX 157 j (by first | omega | exact fun h => h)) (fun j => fM 7 j (by first | omega | exact fun h => h)) (fun j => ⟨fX 183 j (by first | omega | exact fun h => h), fX 184 j (by first | omega | exact fun h => h), fM 26 j (by first | omega | exact fun h => h), fM 27 j (by first | omega | exact fun h => h)⟩) (fun k j q => fX k j (by first | omega | exact fun h => h)) (fun k j q => fM k j (by first | omega | exact fun h => h))
    rcases gM with g | g
    · exact absurd g.1 hX.1
    · exact ⟨g.2, q⟩
theorem Cl_mourner (k : Nat) (MX MM : Mem) (y1 y2 : Int) (hy1 : iR y1) (hy2 : iR y2) (hk : k < 512) (hMX : MR MX) (hMM : MR MM) (hR : Rel k MX MM) : qX11_mourner y1 y2 MX (fun z MX1 => qX12_mourner y1 y2 MM (fun b MM1 => z = b ∧ MM1 1 0 = 0 ∧ Rel (k + 1) MX1 MM1)) (fun MX1 => qX12_mourner y1 y2 MM (fun b MM1 => MM1 1 0 = 1 ∧ Rel (k + 1) MX1 MM1)) := by
  have S := hR.S
  have r37 := hR.r37 hk
  refine fmX11_mourner (gX11_mourner (E := cut MM) (r := MM 5) (p1 := y1) (p2 := y2) hR.1 S.1 S.2.2.1 S.2.2.2.1 (Q := fun z M' => (moOK (cut MM) y1 y2) ∧ z = moF (cut MM) (MM 5) y1 y2 ∧ IX M') (X := fun M' => ¬ (moOK (cut MM) y1 y2) ∧ IX M') (fun c => ⟨c, rfl, hR.1⟩) (fun n => ⟨n, hR.1⟩)) ?_ ?_
  · intro z MX1 fX hX
    have iX := hX.2.2
    refine fmX12_mourner (gX12_mourner (E := cut MM) (p1 := y1) (p2 := y2) hR.2.1 (cut_CE MM) hR.E0 S.2.2.2.1 (Q := fun z M' => IM (60000 * (k : Int)) M' ∧ ((moOK (cut MM) y1 y2) ∧ z = moF (cut MM) (MM 5) y1 y2 ∧ M' 1 0 = 0 ∨ ¬ (moOK (cut MM) y1 y2) ∧ M' 1 0 = 1)) (fun c M' i t => ⟨i, Or.inl ⟨c, rfl, t⟩⟩) (fun n M' i t => ⟨i, Or.inr ⟨n, t⟩⟩)) ?_
    intro b MM1 fM hM
    obtain ⟨iM, gM⟩ := hM
    have q := hR.q iX iM (by omega) (fX 156 1 (by first | omega | exact fun h => h)) (fM 1 14 (by first | omega | exact fun h => h)) (fX 182 2 (by first | omega | exact fun h => h)) (fM 1 45 (by first | omega | exact fun h => h)) (fun j => fX 157 j (by first | omega | exact fun h => h)) (fun j => fM 7 j (by first | omega | exact fun h => h)) (fun j => ⟨fX 183 j (by first | omega | exact fun h => h), fX 184 j (by first | omega | exact fun h => h), fM 26 j (by first | omega | exact fun h => h), fM 27 j (by first | omega | exact fun h => h)⟩) (fun k j q => fX k j (by first | omega | exact fun h => h)) (fun k j q => fM k j (by first | omega | exact fun h => h))
    rcases gM with g | g
    · exact ⟨by rw [hX.2.1, g.2.1], g.2.2, q⟩
    · exact absurd hX.1 g.1
  · intro MX1 fX hX
    have iX := hX.2
    refine fmX12_mourner (gX12_mourner (E := cut MM) (p1 := y1) (p2 := y2) hR.2.1 (cut_CE MM) hR.E0 S.2.2.2.1 (Q := fun z M' => IM (60000 * (k : Int)) M' ∧ ((moOK (cut MM) y1 y2) ∧ z = moF (cut MM) (MM 5) y1 y2 ∧ M' 1 0 = 0 ∨ ¬ (moOK (cut MM) y1 y2) ∧ M' 1 0 = 1)) (fun c M' i t => ⟨i, Or.inl ⟨c, rfl, t⟩⟩) (fun n M' i t => ⟨i, Or.inr ⟨n, t⟩⟩)) ?_
    intro b MM1 fM hM
    obtain ⟨iM, gM⟩ := hM
    have q := hR.q iX iM (by omega) (fX 156 1 (by first | omega | exact fun h => h)) (fM 1 14 (by first | omega | exact fun h => h)) (fX 182 2 (by first | omega | exact fun h => h)) (fM 1 45 (by first | omega | exact fun h => h)) (fun j => fX 157 j (by first | omega | exact fun h => h)) (fun j => fM 7 j (by first | omega | exact fun h => h)) (fun j => ⟨fX 183 j (by first | omega | exact fun h => h), fX 184 j (by first | omega | exact fun h => h), fM 26 j (by first | omega | exact fun h => h), fM 27 j (by first | omega | exact fun h => h)⟩) (fun k j q => fX k j (by first | omega | exact fun h => h)) (fun k j q => fM k j (by first | omega | exact fun h => h))
    rcases gM with g | g
    · exact absurd g.1 hX.1
    · exact ⟨g.2, q⟩
end
section
theorem Rl_sign (k : Nat) (MX MM : Mem) (y1 : Int) (hy1 : iR y1) (hk : k < 512) (hMX : MR MX) (hMM : MR MM) (hR : Rel k MX MM) : qX11_sign y1 MX (fun z MX1 => qX12_sign y1 MM (fun b MM1 => Rel (k + 1) MX1 MM1)) :=
  fmX11_sign (Cl_sign k MX MM y1 hy1 hk hMX hMM hR) (fun _ _ _ h => fmX12_sign h (fun _ _ _ h2 => h2.2))
theorem Rl_end (k : Nat) (MX MM : Mem) (y1 : Int) (hy1 : iR y1) (hk : k < 512) (hMX : MR MX) (hMM : MR MM) (hR : Rel k MX MM) : qX11_end y1 MX (fun z MX1 => qX12_end y1 MM (fun b MM1 => Rel (k + 1) MX1 MM1)) :=
  fmX11_end (Cl_end k MX MM y1 hy1 hk hMX hMM hR) (fun _ _ _ h => fmX12_end h (fun _ _ _ h2 => h2.2))
theorem Rl_avenue (k : Nat) (MX MM : Mem)  (hk : k < 512) (hMX : MR MX) (hMM : MR MM) (hR : Rel k MX MM) : qX11_avenue  MX (fun z MX1 => qX12_avenue  MM (fun b MM1 => Rel (k + 1) MX1 MM1)) :=
  fmX11_avenue (Cl_avenue k MX MM   hk hMX hMM hR) (fun _ _ _ h => fmX12_avenue h (fun _ _ _ h2 => h2.2))
theorem Rl_hearses (k : Nat) (MX MM : Mem)  (hk : k < 512) (hMX : MR MX) (hMM : MR MM) (hR : Rel k MX MM) : qX11_hearses  MX (fun z MX1 => qX12_hearses  MM (fun b MM1 => Rel (k + 1) MX1 MM1)) :=
  fmX11_hearses (Cl_hearses k MX MM   hk hMX hMM hR) (fun _ _ _ h => fmX12_hearses h (fun _ _ _ h2 => h2.2))
theorem Rl_mourners (k : Nat) (MX MM : Mem)  (hk : k < 512) (hMX : MR MX) (hMM : MR MM) (hR : Rel k MX MM) : qX11_mourners  MX (fun z MX1 => qX12_mourners  MM (fun b MM1 => Rel (k + 1) MX1 MM1)) :=
  fmX11_mourners (Cl_mourners k MX MM   hk hMX hMM hR) (fun _ _ _ h => fmX12_mourners h (fun _ _ _ h2 => h2.2))
theorem Rl_weather (k : Nat) (MX MM : Mem)  (hk : k < 512) (hMX : MR MX) (hMM : MR MM) (hR : Rel k MX MM) : qX11_weather  MX (fun z MX1 => qX12_weather  MM (fun b MM1 => Rel (k + 1) MX1 MM1)) :=
  fmX11_weather (Cl_weather k MX MM   hk hMX hMM hR) (fun _ _ _ h => fmX12_weather h (fun _ _ _ h2 => h2.2))
theorem Rl_rule (k : Nat) (MX MM : Mem)  (hk : k < 512) (hMX : MR MX) (hMM : MR MM) (hR : Rel k MX MM) : qX11_rule  MX (fun z MX1 => qX12_rule  MM (fun b MM1 => Rel (k + 1) MX1 MM1)) :=
  fmX11_rule (Cl_rule k MX MM   hk hMX hMM hR) (fun _ _ _ h => fmX12_rule h (fun _ _ _ h2 => h2.2))
theorem Rl_hearse (k : Nat) (MX MM : Mem) (y1 y2 : Int) (hy1 : iR y1) (hy2 : iR y2) (hk : k < 512) (hMX : MR MX) (hMM : MR MM) (hR : Rel k MX MM) : qX11_hearse y1 y2 MX (fun z MX1 => qX12_hearse y1 y2 MM (fun b MM1 => Rel (k + 1) MX1 MM1)) (fun MX1 => qX12_hearse y1 y2 MM (fun b MM1 => Rel (k + 1) MX1 MM1)) :=
  fmX11_hearse (Cl_hearse k MX MM y1 y2 hy1 hy2 hk hMX hMM hR) (fun _ _ _ h => fmX12_hearse h (fun _ _ _ h2 => h2.2.2)) (fun _ _ h => fmX12_hearse h (fun _ _ _ h2 => h2.2))
theorem Rl_mourner (k : Nat) (MX MM : Mem) (y1 y2 : Int) (hy1 : iR y1) (hy2 : iR y2) (hk : k < 512) (hMX : MR MX) (hMM : MR MM) (hR : Rel k MX MM) : qX11_mourner y1 y2 MX (fun z MX1 => qX12_mourner y1 y2 MM (fun b MM1 => Rel (k + 1) MX1 MM1)) (fun MX1 => qX12_mourner y1 y2 MM (fun b MM1 => Rel (k + 1) MX1 MM1)) :=
  fmX11_mourner (Cl_mourner k MX MM y1 y2 hy1 hy2 hk hMX hMM hR) (fun _ _ _ h => fmX12_mourner h (fun _ _ _ h2 => h2.2.2)) (fun _ _ h => fmX12_mourner h (fun _ _ _ h2 => h2.2))
theorem Rl_sheet (k : Nat) (MX MM : Mem) (y1 y2 y3 y4 : Int) (hy1 : iR y1) (hy2 : iR y2) (hy3 : iR y3) (hy4 : iR y4) (hk : k < 512) (hMX : MR MX) (hMM : MR MM) (hR : Rel k MX MM) : qX11_sheet y1 y2 y3 y4 MX (fun z MX1 => qX12_sheet y1 y2 y3 y4 MM (fun b MM1 => Rel (k + 1) MX1 MM1)) :=
  fmX11_sheet (Cl_sheet k MX MM y1 y2 y3 y4 hy1 hy2 hy3 hy4 hk hMX hMM hR) (fun _ _ _ h => fmX12_sheet h (fun _ _ _ h2 => h2.2))
theorem Rl_steps (k : Nat) (MX MM : Mem) (y1 : Int) (hy1 : iR y1) (hk : k < 512) (hMX : MR MX) (hMM : MR MM) (hR : Rel k MX MM) : qX11_steps y1 MX (fun z MX1 => qX12_steps y1 MM (fun b MM1 => Rel (k + 1) MX1 MM1)) :=
  fmX11_steps (Cl_steps k MX MM y1 hy1 hk hMX hMM hR) (fun _ _ _ h => fmX12_steps h (fun _ _ _ h2 => h2.2))
theorem Rl_turnsTo (k : Nat) (MX MM : Mem) (y1 : Int) (hy1 : iR y1) (hk : k < 512) (hMX : MR MX) (hMM : MR MM) (hR : Rel k MX MM) : qX11_turnsTo y1 MX (fun z MX1 => qX12_turnsTo y1 MM (fun b MM1 => Rel (k + 1) MX1 MM1)) :=
  fmX11_turnsTo (Cl_turnsTo k MX MM y1 hy1 hk hMX hMM hR) (fun _ _ _ h => fmX12_turnsTo h (fun _ _ _ h2 => h2.2))
theorem Rl_pushes (k : Nat) (MX MM : Mem) (y1 y2 : Int) (hy1 : iR y1) (hy2 : iR y2) (hk : k < 512) (hMX : MR MX) (hMM : MR MM) (hR : Rel k MX MM) : qX11_pushes y1 y2 MX (fun z MX1 => qX12_pushes y1 y2 MM (fun b MM1 => Rel (k + 1) MX1 MM1)) :=
  fmX11_pushes (Cl_pushes k MX MM y1 y2 hy1 hy2 hk hMX hMM hR) (fun _ _ _ h => fmX12_pushes h (fun _ _ _ h2 => h2.2))
theorem Rl_swaps (k : Nat) (MX MM : Mem) (y1 y2 : Int) (hy1 : iR y1) (hy2 : iR y2) (hk : k < 512) (hMX : MR MX) (hMM : MR MM) (hR : Rel k MX MM) : qX11_swaps y1 y2 MX (fun z MX1 => qX12_swaps y1 y2 MM (fun b MM1 => Rel (k + 1) MX1 MM1)) :=
  fmX11_swaps (Cl_swaps k MX MM y1 y2 hy1 hy2 hk hMX hMM hR) (fun _ _ _ h => fmX12_swaps h (fun _ _ _ h2 => h2.2))
theorem Rl_hour (k : Nat) (MX MM : Mem)  (hk : k < 512) (hMX : MR MX) (hMM : MR MM) (hR : Rel k MX MM) : qX11_hour  MX (fun z MX1 => qX12_hour  MM (fun b MM1 => Rel (k + 1) MX1 MM1)) :=
  fmX11_hour (Cl_hour k MX MM   hk hMX hMM hR) (fun _ _ _ h => fmX12_hour h (fun _ _ _ h2 => h2.2))
theorem Rl_undo (k : Nat) (MX MM : Mem)  (hk : k < 512) (hMX : MR MX) (hMM : MR MM) (hR : Rel k MX MM) : qX11_undo  MX (fun z MX1 => qX12_undo  MM (fun b MM1 => Rel (k + 1) MX1 MM1)) :=
  fmX11_undo (Cl_undo k MX MM   hk hMX hMM hR) (fun _ _ _ h => fmX12_undo h (fun _ _ _ h2 => h2.2))
theorem Rl_line (k : Nat) (MX MM : Mem)  (hk : k < 512) (hMX : MR MX) (hMM : MR MM) (hR : Rel k MX MM) : qX11_line  MX (fun z MX1 => qX12_line  MM (fun b MM1 => Rel (k + 1) MX1 MM1)) :=
  fmX11_line (Cl_line k MX MM   hk hMX hMM hR) (fun _ _ _ h => fmX12_line h (fun _ _ _ h2 => h2.2))
theorem Rl_ahead (k : Nat) (MX MM : Mem) (y1 : Int) (hy1 : iR y1) (hk : k < 512) (hMX : MR MX) (hMM : MR MM) (hR : Rel k MX MM) : qX11_ahead y1 MX (fun z MX1 => qX12_ahead y1 MM (fun b MM1 => Rel (k + 1) MX1 MM1)) :=
  fmX11_ahead (Cl_ahead k MX MM y1 hy1 hk hMX hMM hR) (fun _ _ _ h => fmX12_ahead h (fun _ _ _ h2 => h2.2))
theorem Rl_arrives (k : Nat) (MX MM : Mem) (y1 : Int) (hy1 : iR y1) (hk : k < 512) (hMX : MR MX) (hMM : MR MM) (hR : Rel k MX MM) : qX11_arrives y1 MX (fun z MX1 => qX12_arrives y1 MM (fun b MM1 => Rel (k + 1) MX1 MM1)) :=
  fmX11_arrives (Cl_arrives k MX MM y1 hy1 hk hMX hMM hR) (fun _ _ _ h => fmX12_arrives h (fun _ _ _ h2 => h2.2))
theorem Rl_jam (k : Nat) (MX MM : Mem) (y1 : Int) (hy1 : iR y1) (hk : k < 512) (hMX : MR MX) (hMM : MR MM) (hR : Rel k MX MM) : qX11_jam y1 MX (fun z MX1 => qX12_jam y1 MM (fun b MM1 => Rel (k + 1) MX1 MM1)) :=
  Rk_jam k MX MM y1 hy1 hk hMX hMM hR
theorem Rl_passes (k : Nat) (MX MM : Mem) (y1 y2 : Int) (hy1 : iR y1) (hy2 : iR y2) (hk : k < 512) (hMX : MR MX) (hMM : MR MM) (hR : Rel k MX MM) : qX11_passes y1 y2 MX (fun z MX1 => qX12_passes y1 y2 MM (fun b MM1 => Rel (k + 1) MX1 MM1)) :=
  fmX11_passes (Cl_passes k MX MM y1 y2 hy1 hy2 hk hMX hMM hR) (fun _ _ _ h => fmX12_passes h (fun _ _ _ h2 => h2.2))
theorem Rl_ends (k : Nat) (MX MM : Mem) (y1 : Int) (hy1 : iR y1) (hk : k < 512) (hMX : MR MX) (hMM : MR MM) (hR : Rel k MX MM) : qX11_ends y1 MX (fun z MX1 => qX12_ends y1 MM (fun b MM1 => Rel (k + 1) MX1 MM1)) :=
  fmX11_ends (Cl_ends k MX MM y1 hy1 hk hMX hMM hR) (fun _ _ _ h => fmX12_ends h (fun _ _ _ h2 => h2.2))
theorem Rl_right (k : Nat) (MX MM : Mem)  (hk : k < 512) (hMX : MR MX) (hMM : MR MM) (hR : Rel k MX MM) : qX11_right  MX (fun z MX1 => qX12_right  MM (fun b MM1 => Rel (k + 1) MX1 MM1)) :=
  Rk_right k MX MM   hk hMX hMM hR
theorem Rl_order (k : Nat) (MX MM : Mem)  (hk : k < 512) (hMX : MR MX) (hMM : MR MM) (hR : Rel k MX MM) : qX11_order  MX (fun z MX1 => qX12_order  MM (fun b MM1 => Rel (k + 1) MX1 MM1)) :=
  Rk_order k MX MM   hk hMX hMM hR
theorem Rl_stands (k : Nat) (MX MM : Mem) (y1 : Int) (hy1 : iR y1) (hk : k < 512) (hMX : MR MX) (hMM : MR MM) (hR : Rel k MX MM) : qX11_stands y1 MX (fun z MX1 => qX12_stands y1 MM (fun b MM1 => Rel (k + 1) MX1 MM1)) :=
  Rk_stands k MX MM y1 hy1 hk hMX hMM hR
theorem Rl_when (k : Nat) (MX MM : Mem) (y1 : Int) (hy1 : iR y1) (hk : k < 512) (hMX : MR MX) (hMM : MR MM) (hR : Rel k MX MM) : qX11_when y1 MX (fun z MX1 => qX12_when y1 MM (fun b MM1 => Rel (k + 1) MX1 MM1)) :=
  Rk_when k MX MM y1 hy1 hk hMX hMM hR
theorem Rl_mends (k : Nat) (MX MM : Mem) (y1 : Int) (hy1 : iR y1) (hk : k < 512) (hMX : MR MX) (hMM : MR MM) (hR : Rel k MX MM) : qX11_mends y1 MX (fun z MX1 => qX12_mends y1 MM (fun b MM1 => Rel (k + 1) MX1 MM1)) :=
  Rk_mends k MX MM y1 hy1 hk hMX hMM hR
theorem Rl_misleads (k : Nat) (MX MM : Mem)  (hk : k < 512) (hMX : MR MX) (hMM : MR MM) (hR : Rel k MX MM) : qX11_misleads  MX (fun z MX1 => qX12_misleads  MM (fun b MM1 => Rel (k + 1) MX1 MM1)) :=
  Rk_misleads k MX MM   hk hMX hMM hR
theorem Rl_crowd (k : Nat) (MX MM : Mem)  (hk : k < 512) (hMX : MR MX) (hMM : MR MM) (hR : Rel k MX MM) : qX11_crowd  MX (fun z MX1 => qX12_crowd  MM (fun b MM1 => Rel (k + 1) MX1 MM1)) :=
  Rk_crowd k MX MM   hk hMX hMM hR
theorem Rl_shares (k : Nat) (MX MM : Mem) (y1 : Int) (hy1 : iR y1) (hk : k < 512) (hMX : MR MX) (hMM : MR MM) (hR : Rel k MX MM) : qX11_shares y1 MX (fun z MX1 => qX12_shares y1 MM (fun b MM1 => Rel (k + 1) MX1 MM1)) :=
  Rk_shares k MX MM y1 hy1 hk hMX hMM hR
theorem Rl_strangers (k : Nat) (MX MM : Mem)  (hk : k < 512) (hMX : MR MX) (hMM : MR MM) (hR : Rel k MX MM) : qX11_strangers  MX (fun z MX1 => qX12_strangers  MM (fun b MM1 => Rel (k + 1) MX1 MM1)) :=
  Rk_strangers k MX MM   hk hMX hMM hR
theorem Rl_doubts (k : Nat) (MX MM : Mem)  (hk : k < 512) (hMX : MR MX) (hMM : MR MM) (hR : Rel k MX MM) : qX11_doubts  MX (fun z MX1 => qX12_doubts  MM (fun b MM1 => Rel (k + 1) MX1 MM1)) :=
  Rk_doubts k MX MM   hk hMX hMM hR
theorem Rl_heard (k : Nat) (MX MM : Mem) (y1 y2 : Int) (hy1 : iR y1) (hy2 : iR y2) (hk : k < 512) (hMX : MR MX) (hMM : MR MM) (hR : Rel k MX MM) : qX11_heard y1 y2 MX (fun z MX1 => qX12_heard y1 y2 MM (fun b MM1 => Rel (k + 1) MX1 MM1)) :=
  fmX11_heard (Cl_heard k MX MM y1 y2 hy1 hy2 hk hMX hMM hR) (fun _ _ _ h => fmX12_heard h (fun _ _ _ h2 => h2.2))
theorem Rl_forget (k : Nat) (MX MM : Mem)  (hk : k < 512) (hMX : MR MX) (hMM : MR MM) (hR : Rel k MX MM) : qX11_forget  MX (fun z MX1 => qX12_forget  MM (fun b MM1 => Rel (k + 1) MX1 MM1)) :=
  fmX11_forget (Cl_forget k MX MM   hk hMX hMM hR) (fun _ _ _ h => fmX12_forget h (fun _ _ _ h2 => h2.2))
theorem Rl_fits (k : Nat) (MX MM : Mem)  (hk : k < 512) (hMX : MR MX) (hMM : MR MM) (hR : Rel k MX MM) : qX11_fits  MX (fun z MX1 => qX12_fits  MM (fun b MM1 => Rel (k + 1) MX1 MM1)) :=
  Rk_fits k MX MM   hk hMX hMM hR
theorem Rl_rains (k : Nat) (MX MM : Mem) (y1 y2 y3 : Int) (hy1 : iR y1) (hy2 : iR y2) (hy3 : iR y3) (hk : k < 512) (hMX : MR MX) (hMM : MR MM) (hR : Rel k MX MM) : qX11_rains y1 y2 y3 MX (fun z MX1 => qX12_rains y1 y2 y3 MM (fun b MM1 => Rel (k + 1) MX1 MM1)) :=
  fmX11_rains (Cl_rains k MX MM y1 y2 y3 hy1 hy2 hy3 hk hMX hMM hR) (fun _ _ _ h => fmX12_rains h (fun _ _ _ h2 => h2.2))
theorem Rl_law (k : Nat) (MX MM : Mem)  (hk : k < 512) (hMX : MR MX) (hMM : MR MM) (hR : Rel k MX MM) : qX11_law  MX (fun z MX1 => qX12_law  MM (fun b MM1 => Rel (k + 1) MX1 MM1)) :=
  Rk_law k MX MM   hk hMX hMM hR
theorem Rl_rests (k : Nat) (MX MM : Mem) (y1 : Int) (hy1 : iR y1) (hk : k < 512) (hMX : MR MX) (hMM : MR MM) (hR : Rel k MX MM) : qX11_rests y1 MX (fun z MX1 => qX12_rests y1 MM (fun b MM1 => Rel (k + 1) MX1 MM1)) :=
  fmX11_rests (Cl_rests k MX MM y1 hy1 hk hMX hMM hR) (fun _ _ _ h => fmX12_rests h (fun _ _ _ h2 => h2.2))
theorem Rl_years (k : Nat) (MX MM : Mem) (y1 y2 : Int) (hy1 : iR y1) (hy2 : iR y2) (hk : k < 512) (hMX : MR MX) (hMM : MR MM) (hR : Rel k MX MM) : qX11_years y1 y2 MX (fun z MX1 => qX12_years y1 y2 MM (fun b MM1 => z = b ∧ Rel (k + 1) MX1 MM1)) :=
  Cl_years k MX MM y1 y2 hy1 hy2 hk hMX hMM hR
theorem Rl_keep (k : Nat) (MX MM : Mem) (y1 : Int) (hy1 : iR y1) (hk : k < 512) (hMX : MR MX) (hMM : MR MM) (hR : Rel k MX MM) : qX11_keep y1 MX (fun z MX1 => qX12_keep y1 MM (fun b MM1 => Rel (k + 1) MX1 MM1)) :=
  fmX11_keep (Cl_keep k MX MM y1 hy1 hk hMX hMM hR) (fun _ _ _ h => fmX12_keep h (fun _ _ _ h2 => h2.2))
theorem Rl_again (k : Nat) (MX MM : Mem) (y1 : Int) (hy1 : iR y1) (hk : k < 512) (hMX : MR MX) (hMM : MR MM) (hR : Rel k MX MM) : qX11_again y1 MX (fun z MX1 => qX12_again y1 MM (fun b MM1 => Rel (k + 1) MX1 MM1)) :=
  fmX11_again (Cl_again k MX MM y1 hy1 hk hMX hMM hR) (fun _ _ _ h => fmX12_again h (fun _ _ _ h2 => h2.2))
theorem Rl_count (k : Nat) (MX MM : Mem) (y1 : Int) (hy1 : iR y1) (hk : k < 512) (hMX : MR MX) (hMM : MR MM) (hR : Rel k MX MM) : qX11_count y1 MX (fun z MX1 => qX12_count y1 MM (fun b MM1 => Rel (k + 1) MX1 MM1)) :=
  Rk_count k MX MM y1 hy1 hk hMX hMM hR
theorem Rl_row (k : Nat) (MX MM : Mem) (y1 : Int) (hy1 : iR y1) (hk : k < 512) (hMX : MR MX) (hMM : MR MM) (hR : Rel k MX MM) : qX11_row y1 MX (fun z MX1 => qX12_row y1 MM (fun b MM1 => Rel (k + 1) MX1 MM1)) (fun MX1 => qX12_row y1 MM (fun b MM1 => Rel (k + 1) MX1 MM1)) :=
  Rk_row k MX MM y1 hy1 hk hMX hMM hR
theorem BM_0 {k : Nat} {j : Int} (h : ¬ (k = 1 ∧ j = 3)) (h2 : ¬ (k = 1 ∧ j = 7)) : BM 0 k j 0 := by
  by_cases c : k = 5 ∨ k = 6
  · exact (bm_n c).mpr ⟨by omega, by omega, by omega, by omega⟩
  by_cases c15 : k = 15
  · subst c15; exact bm_c15.mpr ⟨by omega, by omega, by omega, by omega⟩
  by_cases c31 : k = 31
  · subst c31; exact bm_c31.mpr ⟨by omega, by omega, by omega, by omega⟩
  by_cases c1 : k = 1
  · subst c1
    by_cases d1 : j = 1
    · subst d1; exact bm_c1_1.mpr (by decide)
    by_cases d3 : j = 3
    · exact absurd ⟨rfl, d3⟩ h
    by_cases d4 : j = 4
    · subst d4; exact bm_c1_4.mpr (by decide)
    by_cases d5 : j = 5
    · subst d5; exact bm_c1_5.mpr (by decide)
    by_cases d6 : j = 6
    · subst d6; exact bm_c1_6.mpr (by decide)
    by_cases d7 : j = 7
    · exact absurd ⟨rfl, d7⟩ h2
    by_cases d14 : j = 14
    · subst d14; exact bm_c1_14.mpr (by decide)
    by_cases d15 : j = 15
    · subst d15; exact bm_c1_15.mpr (by decide)
    by_cases d16 : j = 16
    · subst d16; exact bm_c1_16.mpr (by decide)
    by_cases d20 : j = 20
    · subst d20; exact bm_c1_20.mpr (by decide)
    by_cases d24 : j = 24
    · subst d24; exact bm_c1_24.mpr (by decide)
    by_cases d25 : j = 25
    · subst d25; exact bm_c1_25.mpr (by decide)
    by_cases d28 : j = 28
    · subst d28; exact bm_c1_28.mpr (by decide)
    by_cases d35 : j = 35
    · subst d35; exact bm_c1_35.mpr (by decide)
    by_cases d39 : j = 39
    · subst d39; exact bm_c1_39.mpr (by decide)
    by_cases d45 : j = 45
    · subst d45; exact bm_c1_45.mpr (by decide)
    simp [BM, d1, d3, d4, d5, d6, d7, d14, d15, d16, d20, d24, d25, d28, d35, d39, d45]
  by_cases c3 : k = 3
  · subst c3; exact bm_c3.mpr (by decide)
  by_cases c7 : k = 7
  · subst c7; exact bm_c7.mpr (by decide)
  by_cases c8 : k = 8
  · subst c8; exact bm_c8.mpr (by decide)
  by_cases c9 : k = 9
  · subst c9; exact bm_c9.mpr (by decide)
  by_cases c18 : k = 18
  · subst c18; exact bm_c18.mpr (by decide)
  by_cases c20 : k = 20
  · subst c20; exact bm_c20.mpr (by decide)
  by_cases c21 : k = 21
  · subst c21; exact bm_c21.mpr (by decide)
  by_cases c22 : k = 22
  · subst c22; exact bm_c22.mpr (by decide)
  unfold BM
  rw [if_neg c, if_neg (by omega)]
  simp [c1, c3, c7, c8, c9, c18, c20, c21, c22]
theorem BX_0 {k : Nat} {j : Int} (h : ¬ (k = 158 ∧ j = 1)) : BX k j 0 := by
  by_cases h0 : k = 0
  · simp [BX, h0]
  by_cases h155 : k < 155
  · unfold BX
    rw [if_neg h0, if_pos h155]
    by_cases r0 : (k - 1) % 7 = 0
    · rw [if_pos r0]
      by_cases d6 : j = 6
      · rw [if_pos d6]; decide
      · rw [if_neg d6]
        by_cases d7 : j = 7
        · rw [if_pos d7]; decide
        · rw [if_neg d7]; trivial
    · rw [if_neg r0]
      by_cases r1 : (k - 1) % 7 = 1
      · rw [if_pos r1]; decide
      · rw [if_neg r1]
        by_cases r3 : (k - 1) % 7 = 3
        · rw [if_pos r3]; decide
        · rw [if_neg r3]
          by_cases r4 : (k - 1) % 7 = 4
          · rw [if_pos r4]; decide
          · rw [if_neg r4]
            by_cases r5 : (k - 1) % 7 = 5
            · rw [if_pos r5]; decide
            · rw [if_neg r5]; trivial
  by_cases c156 : k = 156
  · subst c156
    by_cases d1 : j = 1
    · subst d1; exact bx_c156_1.mpr (by decide)
    by_cases d2 : j = 2
    · subst d2; exact bx_c156_2.mpr (by decide)
    by_cases d3 : j = 3
    · subst d3; exact bx_c156_3.mpr (by decide)
    simp [BX, d1, d2, d3]
  by_cases c157 : k = 157
  · subst c157; exact bx_c157.mpr (by decide)
  by_cases c158 : k = 158
  · subst c158
    by_cases d1 : j = 1
    · exact absurd ⟨rfl, d1⟩ h
    by_cases d3 : j = 3
    · subst d3; exact bx_c158_3.mpr (by decide)
    simp [BX, d1, d3]
  by_cases c163 : k = 163
  · subst c163
    by_cases d1 : j = 1
    · subst d1; exact bx_c163_1.mpr (by decide)
    by_cases d2 : j = 2
    · subst d2; exact bx_c163_2.mpr (by decide)
    simp [BX, d1, d2]
  by_cases c167 : k = 167
  · subst c167
    by_cases d1 : j = 1
    · subst d1; exact bx_c167_1.mpr (by decide)
    simp [BX, d1]
  by_cases c168 : k = 168
  · subst c168
    by_cases d1 : j = 1
    · subst d1; exact bx_c168_1.mpr (by decide)
    simp [BX, d1]
  by_cases c179 : k = 179
  · subst c179
    by_cases d2 : j = 2
    · subst d2; exact bx_c179_2.mpr (by decide)
    simp [BX, d2]
  by_cases c180 : k = 180
  · subst c180; exact bx_c180.mpr (by decide)
  by_cases c182 : k = 182
  · subst c182
    by_cases d2 : j = 2
    · subst d2; exact bx_c182_2.mpr (by decide)
    simp [BX, d2]
  by_cases c185 : k = 185
  · subst c185
    by_cases d1 : j = 1
    · subst d1; exact bx_c185_1.mpr (by decide)
    by_cases d2 : j = 2
    · subst d2; exact bx_c185_2.mpr (by decide)
    simp [BX, d1, d2]
  by_cases cl : k = 187 ∨ k = 192
  · by_cases d4 : j = 4
    · subst d4; exact (bx_l4 cl).mpr (by decide)
    · exact bx_lf0 cl d4
  by_cases cr : 170 ≤ k ∧ k ≤ 178
  · have e : k = 170 + ((k : Int) - 170).toNat := by omega
    rw [e]
    exact (bx_sh (e := (k : Int) - 170) (by omega) (by omega)).mpr ⟨by omega, by omega⟩
  unfold BX
  rw [if_neg h0, if_neg h155]
  simp only [if_neg cl, if_neg cr, if_neg c156, if_neg c157, if_neg c158, if_neg c163, if_neg c167, if_neg c168, if_neg c179, if_neg c180, if_neg c182, if_neg c185]
theorem IX_MX0 : IX MX0 := by
  refine ⟨fun k j => ?_, Or.inl ⟨by simp [MX0], by simp [MX0]⟩, fun k j hk he => ?_⟩
  · unfold MX0
    split
    · rename_i c; rw [c.1, c.2]; exact bx_c158_1.mpr (by decide)
    · rename_i c1
      split
      · rename_i c; rw [c.1, c.2]; exact bx_c158_3.mpr (by decide)
      · split
        · rename_i c; rw [c.1, c.2]; simp [BX]
        · split
          · rename_i c; rw [c.1, c.2]; simp [BX]
          · split
            · rename_i c; rw [c.1, c.2]; simp [BX]
            · exact BX_0 c1
  · exfalso
    have : MX0 (k + 1) j = 0 := by
      unfold MX0
      rcases hk with rfl | rfl <;> simp
    omega
theorem IM_MM0 : IM 0 MM0 := by
  refine ⟨fun k j => ?_, ?_⟩
  · unfold MM0
    split
    · rename_i c; rw [c.1, c.2]; exact bm_c1_3.mpr (by decide)
    · rename_i c1
      split
      · rename_i c; rw [c.1, c.2]; exact bm_c1_7.mpr (by decide)
      · rename_i c2
        exact BM_0 c1 c2
  · intro j hj
    exfalso
    have : MM0 1 24 = 0 := by simp [MM0]
    omega
theorem Rel_init : qInit (fun MX => Rel 0 MX MM0) := by
  unfold qInit
  refine gX2_plain (k0 := 187) IX_MX0 (Or.inl rfl) ?_
  intro M1 h1 f1 o1
  refine ⟨h1.l17, ?_⟩
  have e17 : (M1 155 17).toNat = 192 := by rw [f1 155 17 (by omega)]; simp [MX0]
  rw [e17]
  refine gX2_plain (k0 := 192) h1 (Or.inr rfl) ?_
  intro M2 h2 f2 _
  have K : ∀ (k : Nat) (j : Int), k < 187 → M2 k j = MX0 k j := fun k j h => by rw [f2 k j (by omega), f1 k j (by omega)]
  have Z : ∀ (k : Nat) (j : Int), k < 155 → M2 k j = 0 := fun k j h => by
    rw [K k j (by omega)]
    unfold MX0
    rw [if_neg (by omega), if_neg (by omega), if_neg (by omega), if_neg (by omega), if_neg (by omega)]
  have Y : ∀ (k : Nat) (j : Int), ¬ (k = 1 ∧ j = 3) → ¬ (k = 1 ∧ j = 7) → MM0 k j = 0 := fun k j h h' => by
    unfold MM0
    rw [if_neg h, if_neg h']
  have C : ∀ (k : Nat) (j : Int), ¬ (k = 1 ∧ j = 3) → ¬ (k = 1 ∧ j = 7) → cut MM0 k j = 0 := fun k j h h' => by
    unfold cut
    split
    · exact Y k j h h'
    · rfl
  have c3 : cut MM0 1 3 = 4 := by rw [cut13]; simp [MM0]
  have c4 : cut MM0 1 4 = 0 := C 1 4 (by omega) (by omega)
  have c5 : cut MM0 1 5 = 0 := C 1 5 (by omega) (by omega)
  have c7 : cut MM0 1 7 = 1 := by rw [cut17]; simp [MM0]
  have e0 : eO (cut MM0) = 0 := by show (cut MM0 1 5).toNat = 0; rw [c5]; rfl
  have eh : eH (cut MM0) = 0 := by show (cut MM0 1 4).toNat = 0; rw [c4]; rfl
  refine ⟨h2, IM_MM0.mono (by omega), ?_, ?_, fun j a q => ?_, ⟨?_, ?_, ?_, ?_, ?_, ?_⟩, FOLS.z (Y 1 5 (by omega) (by omega)), HRD.nil (by rw [K 182 2 (by omega)]; simp [MX0])⟩
  · rw [K 156 1 (by omega)]; simp [MX0, MM0]
  · rw [K 182 2 (by omega)]; simp [MX0, MM0]
  · rw [K 156 1 (by omega)] at q
    simp [MX0] at q
    omega
  · unfold STR
    rw [c3, c4, c5, c7]
    refine ⟨by rw [K 158 1 (by omega)]; simp [MX0], by decide, fun c hc => ?_, by rw [K 158 3 (by omega)]; simp [MX0], by decide, fun j p q => ?_, by decide, by decide, fun m p q => by omega⟩
    · have e2 : M2 158 2 = 0 := by rw [K 158 2 (by omega)]; simp [MX0]
      rw [e2, show iI 0 = (0 : Int32) from rfl, b_0, C 2 c (by omega) (by omega)]
      exact ⟨fun q => absurd q (by decide), fun q => absurd rfl q⟩
    · rw [K 159 j (by omega), C 4 j (by omega) (by omega)]
      unfold MX0
      rw [if_neg (by omega), if_neg (by omega), if_neg (by omega), if_neg (by omega), if_neg (by omega)]
  · have e16 : (M2 155 16).toNat = 187 := by rw [K 155 16 (by omega)]; simp [MX0]
    rw [e16]
    refine Or.inr ⟨C 1 24 (by omega) (by omega), ?_⟩
    have o2 : ROl 187 M2 plO := o1.fr (f2 _ _ (by omega)) (f2 _ _ (by omega)) (funext fun j => f2 _ j (by omega)) (funext fun j => f2 _ j (by omega))
    exact ⟨o2.1, SO_SCd o2.2 SCd_pl⟩
  · unfold SC
    rw [c4, c5, e0]
    refine ⟨Z 1 6 (by omega), Z 1 7 (by omega), fun j p q => ?_, fun j p q => ?_, ?_, fun m p q => ?_, fun m p q => ?_, fun m p q => ?_, fun m p q => ?_, ?_, ?_⟩
    · rw [Z _ _ (by omega), Y 5 _ (by omega) (by omega)]
    · rw [Z _ _ (by omega), Y 5 _ (by omega) (by omega)]
    · rw [Z 1 8 (by omega), Y 5 _ (by omega) (by omega)]
    · rw [Z _ _ (by omega), Y 5 _ (by omega) (by omega)]
    · rw [Z _ _ (by omega), C 3 _ (by omega) (by omega)]
    · rw [Z _ _ (by omega), Y 5 _ (by omega) (by omega)]
    · rw [Z _ _ (by omega), Y 5 _ (by omega) (by omega)]
    · rw [Z 1 10 (by omega), Y 5 _ (by omega) (by omega)]
    · rw [Z 1 9 (by omega)]
      rfl
  · unfold WR
    rw [c4, c5, eh]
    refine ⟨fun i j p q => by omega, fun i p q => by omega, fun i p q => by omega, ?_, ?_⟩
    · rw [Y 5 12 (by omega) (by omega)]
      rfl
    · rw [Y 5 37 (by omega) (by omega)]
      decide
  · exact HIS.nil (by rw [K 163 2 (by omega)]; simp [MX0]) (Y 1 28 (by omega) (by omega))
  · intro i p q
    have x0 : M2 166 i = 0 := by
      rw [K 166 i (by omega)]
      unfold MX0
      rw [if_neg (by omega), if_neg (by omega), if_neg (by omega), if_neg (by omega), if_neg (by omega)]
    exact ⟨⟨fun _ => Y 29 i (by omega) (by omega), fun _ => x0⟩, fun h => absurd x0 h⟩
end
