section
/-! THE CALLS over the relation of the whole state -/
theorem up2_id (M : Mem) (k : Nat) (j : Int) : up2 M k j (M k j) = M := by
  funext i x
  rw [up2_a]
  by_cases c : i = k
  · rw [if_pos c]
    by_cases c2 : x = j
    · rw [if_pos c2, c, c2]
    · rw [if_neg c2]
  · rw [if_neg c]
theorem Cl_sign (k : Nat) (MX MM : Mem) (y1 : Int) (hy1 : iR y1) (hk : k < 512) (hMX : MR MX) (hMM : MR MM) (hR : Rel k MX MM) : qX11_sign y1 MX (fun z MX1 => qX12_sign y1 MM (fun b MM1 => z = b ∧ Rel (k + 1) MX1 MM1)) := by
  refine fmX11_sign (gX11_signC (p1 := y1) hR.1 (Q := fun z M' => IX M' ∧ (77 ≤ MX 156 1 ∧ z = -1 ∧ M' 156 1 = MX 156 1 ∧ (∀ j, M' 157 j = MX 157 j) ∨ MX 156 1 ≤ 76 ∧ z = MX 156 1 + 4 ∧ M' 156 1 = MX 156 1 + 4 ∧ (∀ j, 0 ≤ j → j < MX 156 1 → M' 157 j = MX 157 j) ∧ (∀ i, 0 ≤ i → i < 4 → M' 157 (MX 156 1 + i) = byt y1 i))) (fun z M' h q => ⟨h, q⟩)) ?_
  intro z MX1 fX hX
  refine fmX12_sign (gX12_signC (p1 := y1) hR.2.1 (Q := fun z M' => IM (60000 * (k : Int)) M' ∧ (77 ≤ MM 1 14 ∧ z = -1 ∧ M' 1 14 = MM 1 14 ∧ (∀ j, M' 7 j = MM 7 j) ∨ MM 1 14 ≤ 76 ∧ z = MM 1 14 + 4 ∧ M' 1 14 = MM 1 14 + 4 ∧ (∀ j, 0 ≤ j → j < MM 1 14 → M' 7 j = MM 7 j) ∧ (∀ i, 0 ≤ i → i < 4 → M' 7 (MM 1 14 + i) = byt y1 i))) (fun z M' h q => ⟨h, q⟩)) ?_
  intro b MM1 fM hM
  have e := hR.2.2.1
  have e2 : MX1 182 2 = MM1 1 45 := by rw [fX 182 2 (by omega), fM 1 45 (by omega)]; exact hR.2.2.2.1
  have eS : STA (cut MM1) MX1 MM1 := by
    rw [cut_of (fun k j c => fM k j (by omega))]
    exact hR.S.fr hR.E0 hR.1 (fun k j q => fX k j (by omega)) (fun k j q => fM k j (by omega))
  obtain ⟨iX, gX⟩ := hX
  obtain ⟨iM, gM⟩ := hM
  have T := hR.2.2.2.2.1
  rcases gX with g | g
  · rcases gM with h | h
    · exact ⟨by omega, iX, iM.mono (by omega), by omega, e2, fun j a q => by rw [g.2.2.2, h.2.2.2]; exact T j a (by omega), eS, hR.F.fr (fun k j q => fM k j (by omega)), hR.H.fr (fX 182 2 (by omega)) (fun j => ⟨fX 183 j (by omega), fX 184 j (by omega), fM 26 j (by omega), fM 27 j (by omega)⟩)⟩
    · exact absurd g.1 (by omega)
  · rcases gM with h | h
    · exact absurd g.1 (by omega)
    · refine ⟨by omega, iX, iM.mono (by omega), by omega, e2, fun j a q => ?_, eS, hR.F.fr (fun k j q => fM k j (by omega)), hR.H.fr (fX 182 2 (by omega)) (fun j => ⟨fX 183 j (by omega), fX 184 j (by omega), fM 26 j (by omega), fM 27 j (by omega)⟩)⟩
      by_cases cj : j < MX 156 1
      · rw [g.2.2.2.1 j a cj, h.2.2.2.1 j a (by omega)]
        exact T j a cj
      · have u := g.2.2.2.2 (j - MX 156 1) (by omega) (by omega)
        have v := h.2.2.2.2 (j - MX 156 1) (by omega) (by omega)
        rw [show MX 156 1 + (j - MX 156 1) = j from by omega] at u
        rw [show MM 1 14 + (j - MX 156 1) = j from by omega] at v
        rw [u, v]
theorem Cl_end (k : Nat) (MX MM : Mem) (y1 : Int) (hy1 : iR y1) (hk : k < 512) (hMX : MR MX) (hMM : MR MM) (hR : Rel k MX MM) : qX11_end y1 MX (fun z MX1 => qX12_end y1 MM (fun b MM1 => z = b ∧ Rel (k + 1) MX1 MM1)) := by
  refine fmX11_end (gX11_end (p1 := y1) hR.1 (Q := fun z M' => IX M' ∧ ((0 ≤ y1 ∧ y1 ≤ MX 156 1) ∧ z = 1 ∧ M' 156 1 = y1 ∨ (y1 < 0 ∨ MX 156 1 < y1) ∧ z = 0 ∧ M' 156 1 = MX 156 1)) (fun z M' h q => ⟨h, q⟩)) ?_
  intro z MX1 fX hX
  refine fmX12_end (gX12_end (p1 := y1) hR.2.1 (Q := fun z M' => IM (60000 * (k : Int)) M' ∧ ((0 ≤ y1 ∧ y1 ≤ MM 1 14) ∧ z = 1 ∧ M' 1 14 = y1 ∨ (y1 < 0 ∨ MM 1 14 < y1) ∧ z = 0 ∧ M' 1 14 = MM 1 14)) (fun z M' h q => ⟨h, q⟩)) ?_
  intro b MM1 fM hM
  have e := hR.2.2.1
  have e2 : MX1 182 2 = MM1 1 45 := by rw [fX 182 2 (by omega), fM 1 45 (by omega)]; exact hR.2.2.2.1
  have eS : STA (cut MM1) MX1 MM1 := by
    rw [cut_of (fun k j c => fM k j (by omega))]
    exact hR.S.fr hR.E0 hR.1 (fun k j q => fX k j (by omega)) (fun k j q => fM k j (by omega))
  obtain ⟨iX, gX⟩ := hX
  obtain ⟨iM, gM⟩ := hM
  exact ⟨by omega, iX, iM.mono (by omega), by omega, e2, fun j a q => by rw [fX 157 j (by omega), fM 7 j (by omega)]; exact hR.2.2.2.2.1 j a (by omega), eS, hR.F.fr (fun k j q => fM k j (by omega)), hR.H.fr (fX 182 2 (by omega)) (fun j => ⟨fX 183 j (by omega), fX 184 j (by omega), fM 26 j (by omega), fM 27 j (by omega)⟩)⟩
theorem Cl_avenue (k : Nat) (MX MM : Mem)  (hk : k < 512) (hMX : MR MX) (hMM : MR MM) (hR : Rel k MX MM) : qX11_avenue  MX (fun z MX1 => qX12_avenue  MM (fun b MM1 => z = b ∧ Rel (k + 1) MX1 MM1)) := by
  refine fmX11_avenue (gX11_avenueC hR.1 (Q := fun z M' => ∃ q, z = avz (MX 156 1) q ∧ IX M' ∧ AV (MX 157) (MX 156 1) q ∧ M' 156 1 = 0 ∧ (q = MX 156 1 ∧ 4 ≤ q → Ks kAv MX M' ∧ M' 158 1 = MX 156 1 ∧ (∀ c : Nat, c < 32 → (bt (iI (M' 158 2)) c = true ↔ (c : Int) < MX 156 1 ∧ MX 157 c = 99)) ∧ M' 163 2 = 0 ∧ (∀ i, 0 ≤ i → i < 3 → M' 166 i = 0) ∧ M' 1 6 = 0 ∧ M' 1 7 = 0 ∧ M' 1 8 = 0 ∧ M' 1 9 = 0 ∧ M' 1 10 = 0) ∧ (¬ (q = MX 156 1 ∧ 4 ≤ q) → Ks (fun k j => k = 156 ∧ j = 1) MX M')) (fun q M' i a l y n => ⟨q, rfl, i, a, l, y, n⟩)) ?_
  intro z MX1 fX hX
  obtain ⟨q, ez, iX, aX, lX, yX, nX⟩ := hX
  refine fmX12_avenue (gX12_avenueC hR.2.1 (by omega) (Q := fun z M' => ∃ q, z = avz (MM 1 14) q ∧ IM (60000 * (k : Int) + 1) M' ∧ AV (MM 7) (MM 1 14) q ∧ M' 1 14 = 0 ∧ (q = MM 1 14 ∧ 4 ≤ q → FrJ kAw MM M' ∧ M' 1 3 = MM 1 14 ∧ (∀ i, 0 ≤ i → i < MM 1 14 → (M' 2 i = 0 ↔ MM 7 i ≠ 99)) ∧ M' 1 4 = 0 ∧ M' 1 5 = 0 ∧ M' 5 = up (up (MM 5) 12 0) 37 0 ∧ M' 1 28 = 0 ∧ (∀ i, 0 ≤ i → i < 3 → M' 29 i = 0)) ∧ (¬ (q = MM 1 14 ∧ 4 ≤ q) → FrJ (fun k j => k = 8 ∨ (k = 1 ∧ (j = 0 ∨ j = 14 ∨ j = 15 ∨ j = 16 ∨ j = 17))) MM M')) (fun q M' i a l y n => ⟨q, rfl, i, a, l, y, n⟩)) ?_
  intro b MM1 fM hM
  obtain ⟨q2, eb, iM, aM, lM, yM, nM⟩ := hM
  have e := hR.2.2.1
  rw [← e] at eb aM yM nM
  have eq := aX.uq aM hR.2.2.2.2.1
  subst eq
  have hF : FOLS MM1 := by
    by_cases c : q = MX 156 1 ∧ 4 ≤ q
    · obtain ⟨m0, m1, m2, m3, m4, m5, m6, m7⟩ := yM c
      exact FOLS.z m4
    · exact hR.F.fr (fun k j h => nM c k j (by omega))
  refine ⟨by rw [ez, eb], hR.t iX iM (by omega) lX lM (fX 182 2 (by omega)) (fM 1 45 (by omega)) (fun j => ⟨fX 183 j (by omega), fX 184 j (by omega), fM 26 j (by omega), fM 27 j (by omega)⟩) hF ?_⟩
  by_cases c : q = MX 156 1 ∧ 4 ≤ q
  · obtain ⟨x0, x1, x2, x3, x4, x5, x6, x7, x8, x9⟩ := yX c
    obtain ⟨m0, m1, m2, m3, m4, m5, m6, m7⟩ := yM c
    have ck : ∀ (k : Nat) (j : Int), cE k j → k ≠ 2 → ¬ (k = 1 ∧ (j = 3 ∨ j = 4 ∨ j = 5)) → cut MM1 k j = cut MM k j := by
      intro k j h1 h2 h3
      rw [cut_p h1, cut_p h1]
      exact m0 k j (by omega)
    have a30 := aX.1
    refine hR.S.avenue hR.1 (len := MX 156 1) (f := MX 157) (by omega) (by rw [cut13]; exact m1) (by rw [cut14]; exact m3) (by rw [cut15]; exact m4) (ck 1 7 (by omega) (by decide) (by omega)) (ck 1 24 (by omega) (by decide) (by omega)) (fun i p q => ?_) (funext fun j => ck 3 j (by omega) (by decide) (by omega)) (funext fun j => ck 4 j (by omega) (by decide) (by omega)) (funext fun j => ck 11 j (by omega) (by decide) (by omega)) x0 x1 x2 x3 x4 x5 x6 x7 x8 x9 m5 m6 m7
    rw [cut2, hR.2.2.2.2.1 i p q]
    exact m2 i p q
  · have x0 := nX c
    have m0 := nM c
    rw [cut_of (M0 := MM) (fun k j h => m0 k j (by omega))]
    exact hR.S.fr hR.E0 hR.1 (fun k j q => x0 k j (by omega)) (fun k j q => m0 k j (by omega))
theorem Cl_hearses (k : Nat) (MX MM : Mem)  (hk : k < 512) (hMX : MR MX) (hMM : MR MM) (hR : Rel k MX MM) : qX11_hearses  MX (fun z MX1 => qX12_hearses  MM (fun b MM1 => z = b ∧ Rel (k + 1) MX1 MM1)) := by
  have S := hR.S
  have e := hR.2.2.1
  have bL := bm_c1_14.mp (hR.2.1.bx 1 14)
  have eT : hsT (MX 157) (MX 156 1) (eG (cut MM)) (cut MM 1 4) (MM 5) = hsT (MM 7) (MM 1 14) (eG (cut MM)) (cut MM 1 4) (MM 5) := by
    rw [e]
    exact rdH_cg (fun j p q => hR.2.2.2.2.1 j p (by omega)) 7 _ _ 0 (Int.le_refl _) (by omega)
  have eA : hsA (MX 157) (MX 156 1) (eG (cut MM)) (cut MM 1 4) (MM 5) = hsA (MM 7) (MM 1 14) (eG (cut MM)) (cut MM 1 4) (MM 5) := by
    unfold hsA hsOK
    rw [eT, e]
  refine fmX11_hearses (gX11_hearses (E := cut MM) (r := MM 5) hR.1 S.1 S.2.2.1 (Q := fun z M' => z = hsA (MM 7) (MM 1 14) (eG (cut MM)) (cut MM 1 4) (MM 5) ∧ IX M' ∧ M' 156 1 = 0 ∧ (hsOK (MM 7) (MM 1 14) (eG (cut MM)) (cut MM 1 4) (MM 5) ∧ MM 1 14 ≠ 0 → Ks (fun k j => (1 ≤ k ∧ k ≤ 14) ∨ k = 156 ∨ (k = 163 ∧ j = 2)) MX M' ∧ M' 163 2 = 0 ∧ SC (up2 (cut MM) 1 4 (hsT (MM 7) (MM 1 14) (eG (cut MM)) (cut MM 1 4) (MM 5)).2.2.1) M' 1 (hsT (MM 7) (MM 1 14) (eG (cut MM)) (cut MM 1 4) (MM 5)).2.2.2) ∧ (¬ (hsOK (MM 7) (MM 1 14) (eG (cut MM)) (cut MM 1 4) (MM 5) ∧ MM 1 14 ≠ 0) → Ks (fun k j => (8 ≤ k ∧ k ≤ 14) ∨ k = 156) MX M')) (fun M' i l y n => by unfold hsOK at y n; rw [eT, e] at y n; exact ⟨eA, i, l, y, n⟩)) ?_
  intro z MX1 fX hX
  obtain ⟨ez, iX, lX, yX, nX⟩ := hX
  refine fmX12_hearses (gX12_hearses (E := cut MM) hR.2.1 (cut_CE MM) (by omega) (Q := fun z M' => z = hsA (MM 7) (MM 1 14) (eG (cut MM)) (cut MM 1 4) (MM 5) ∧ IM (60000 * (k : Int) + 1) M' ∧ M' 1 14 = 0 ∧ (hsOK (MM 7) (MM 1 14) (eG (cut MM)) (cut MM 1 4) (MM 5) ∧ MM 1 14 ≠ 0 → M' 1 4 = (hsT (MM 7) (MM 1 14) (eG (cut MM)) (cut MM 1 4) (MM 5)).2.2.1 ∧ M' 5 = (hsT (MM 7) (MM 1 14) (eG (cut MM)) (cut MM 1 4) (MM 5)).2.2.2 ∧ M' 1 28 = 0 ∧ M' 1 6 = MM 1 6 + 1 ∧ FrJ (fun k j => k = 5 ∨ k = 9 ∨ (k = 1 ∧ (j = 0 ∨ j = 4 ∨ j = 6 ∨ j = 14 ∨ j = 15 ∨ j = 16 ∨ j = 17 ∨ j = 20 ∨ j = 28))) MM M') ∧ (¬ (hsOK (MM 7) (MM 1 14) (eG (cut MM)) (cut MM 1 4) (MM 5) ∧ MM 1 14 ≠ 0) → FrJ (fun k j => k = 9 ∨ (k = 1 ∧ (j = 0 ∨ j = 14 ∨ j = 15 ∨ j = 16 ∨ j = 17 ∨ j = 20))) MM M' ∧ M' 1 6 = MM 1 6)) (fun M' i l y n => ⟨rfl, i, l, y, n⟩)) ?_
  intro b MM1 fM hM
  obtain ⟨eb, iM, lM, yM, nM⟩ := hM
  have hF : FOLS MM1 := by
    by_cases c : hsOK (MM 7) (MM 1 14) (eG (cut MM)) (cut MM 1 4) (MM 5) ∧ MM 1 14 ≠ 0
    · obtain ⟨m0, m1, m2, m3, m4⟩ := yM c
      refine FOLS.new S m2 m3 (fun i => m4 29 i (by omega)) (fun i => m4 30 i (by omega)) ?_
      rw [m1]
      exact (fol_rdH (E := cut MM) (f := MM 7) (t := min (MM 1 14) 17) (g := eG (cut MM)) (a := 0) (n := 7) hR.f hR.E0 S.2.2.2.1 ⟨Int.le_refl _, by omega⟩).e (by rw [m4 1 5 (by omega), cut15])
    · exact hR.F.fr (fun k j h => (nM c).1 k j (by omega))
  refine ⟨by rw [ez, eb], hR.t iX iM (by omega) lX lM (fX 182 2 (by omega)) (fM 1 45 (by omega)) (fun j => ⟨fX 183 j (by omega), fX 184 j (by omega), fM 26 j (by omega), fM 27 j (by omega)⟩) hF ?_⟩
  by_cases c : hsOK (MM 7) (MM 1 14) (eG (cut MM)) (cut MM 1 4) (MM 5) ∧ MM 1 14 ≠ 0
  · obtain ⟨x0, x1, x2⟩ := yX c
    obtain ⟨m0, m1, m2, m3, m4⟩ := yM c
    have E0 := hR.E0
    have eb' := E0.2
    have b := rdH_b (f := MM 7) (t := min (MM 1 14) 17) (g := eG (cut MM)) 7 (cut MM 1 4) (MM 5) 0 ⟨Int.le_refl _, by omega⟩ eb'.1 (by omega)
    have b' : cut MM 1 4 < (hsT (MM 7) (MM 1 14) (eG (cut MM)) (cut MM 1 4) (MM 5)).2.2.1 ∧ (hsT (MM 7) (MM 1 14) (eG (cut MM)) (cut MM 1 4) (MM 5)).2.2.1 ≤ 6 := by
      rcases b.2 with q | q
      · exact absurd (c.1.1.symm.trans q) (by decide)
      · exact q.2
    have W := WR.rds (E := cut MM) (f := MM 7) (t := min (MM 1 14) 17) eb'.2.2 7 (cut MM 1 4) (MM 5) 0 (by rw [show up2 (cut MM) 1 4 (cut MM 1 4) = cut MM from up2_id _ _ _]; exact S.2.2.2.1) eb'.1 ⟨Int.le_refl _, by omega⟩ c.1.1
    refine (S.hearses (H' := (hsT (MM 7) (MM 1 14) (eG (cut MM)) (cut MM 1 4) (MM 5)).2.2.1) (r' := (hsT (MM 7) (MM 1 14) (eG (cut MM)) (cut MM 1 4) (MM 5)).2.2.2) E0 hR.1 b' x0 x1 x2 m1 m2 m3 m4 W).c ?_
    funext k j
    by_cases h4 : k = 1 ∧ j = 4
    · rw [h4.1, h4.2, cut14, up2_s]
      exact m0
    · have hu : up2 (cut MM) 1 4 (hsT (MM 7) (MM 1 14) (eG (cut MM)) (cut MM 1 4) (MM 5)).2.2.1 k j = cut MM k j := by
        rw [up2_a]
        by_cases c1 : k = 1
        · rw [if_pos c1, if_neg (fun q => h4 ⟨c1, q⟩)]
        · rw [if_neg c1]
      rw [hu]
      by_cases h : cE k j
      · rw [cut_p h, cut_p h]
        exact m4 k j (by omega)
      · unfold cut
        rw [if_neg h, if_neg h]
  · have x0 := nX c
    obtain ⟨m0, m6⟩ := nM c
    rw [cut_of (M0 := MM) (fun k j h => m0 k j (by omega))]
    exact S.fr hR.E0 hR.1 (fun k j q => x0 k j (by omega)) (fun k j q => m0 k j (by omega))
theorem Cl_mourners (k : Nat) (MX MM : Mem)  (hk : k < 512) (hMX : MR MX) (hMM : MR MM) (hR : Rel k MX MM) : qX11_mourners  MX (fun z MX1 => qX12_mourners  MM (fun b MM1 => z = b ∧ Rel (k + 1) MX1 MM1)) := by
  have S := hR.S
  have e := hR.2.2.1
  have bL := bm_c1_14.mp (hR.2.1.bx 1 14)
  have eT : msT (MX 157) (MX 156 1) (eG (cut MM)) (cut MM 1 4) (cut MM 1 5) (MM 5) (cut MM 3) = msT (MM 7) (MM 1 14) (eG (cut MM)) (cut MM 1 4) (cut MM 1 5) (MM 5) (cut MM 3) := by
    rw [e]
    exact rdM_cg (fun j p q => hR.2.2.2.2.1 j p (by omega)) 9 _ _ _ 0 (Int.le_refl _) (by omega)
  have eA : msA (MX 157) (MX 156 1) (eG (cut MM)) (cut MM 1 4) (cut MM 1 5) (MM 5) (cut MM 3) = msA (MM 7) (MM 1 14) (eG (cut MM)) (cut MM 1 4) (cut MM 1 5) (MM 5) (cut MM 3) := by
    unfold msA msOK
    rw [eT, e]
  refine fmX11_mourners (gX11_mourners (E := cut MM) (r := MM 5) hR.1 S.1 S.2.2.1 (Q := fun z M' => z = msA (MM 7) (MM 1 14) (eG (cut MM)) (cut MM 1 4) (cut MM 1 5) (MM 5) (cut MM 3) ∧ IX M' ∧ M' 156 1 = 0 ∧ (msOK (MM 7) (MM 1 14) (eG (cut MM)) (cut MM 1 4) (cut MM 1 5) (MM 5) (cut MM 3) ∧ MM 1 14 ≠ 0 → Ks (fun k j => (1 ≤ k ∧ k ≤ 14) ∨ k = 156 ∨ (k = 163 ∧ j = 2)) MX M' ∧ M' 163 2 = 0 ∧ SC (eM (cut MM) (msT (MM 7) (MM 1 14) (eG (cut MM)) (cut MM 1 4) (cut MM 1 5) (MM 5) (cut MM 3)).2.2.2.2 (msT (MM 7) (MM 1 14) (eG (cut MM)) (cut MM 1 4) (cut MM 1 5) (MM 5) (cut MM 3)).2.2.1) M' 1 (msT (MM 7) (MM 1 14) (eG (cut MM)) (cut MM 1 4) (cut MM 1 5) (MM 5) (cut MM 3)).2.2.2.1) ∧ (¬ (msOK (MM 7) (MM 1 14) (eG (cut MM)) (cut MM 1 4) (cut MM 1 5) (MM 5) (cut MM 3) ∧ MM 1 14 ≠ 0) → Ks (fun k j => (8 ≤ k ∧ k ≤ 14) ∨ k = 156) MX M')) (fun M' i l y n => by unfold msOK at y n; rw [eT, e] at y n; exact ⟨eA, i, l, y, n⟩)) ?_
  intro z MX1 fX hX
  obtain ⟨ez, iX, lX, yX, nX⟩ := hX
  refine fmX12_mourners (gX12_mourners (E := cut MM) hR.2.1 (cut_CE MM) (by omega) (Q := fun z M' => z = msA (MM 7) (MM 1 14) (eG (cut MM)) (cut MM 1 4) (cut MM 1 5) (MM 5) (cut MM 3) ∧ IM (60000 * (k : Int) + 1) M' ∧ M' 1 14 = 0 ∧ (msOK (MM 7) (MM 1 14) (eG (cut MM)) (cut MM 1 4) (cut MM 1 5) (MM 5) (cut MM 3) ∧ MM 1 14 ≠ 0 → M' 1 5 = (msT (MM 7) (MM 1 14) (eG (cut MM)) (cut MM 1 4) (cut MM 1 5) (MM 5) (cut MM 3)).2.2.1 ∧ M' 5 = (msT (MM 7) (MM 1 14) (eG (cut MM)) (cut MM 1 4) (cut MM 1 5) (MM 5) (cut MM 3)).2.2.2.1 ∧ M' 3 = (msT (MM 7) (MM 1 14) (eG (cut MM)) (cut MM 1 4) (cut MM 1 5) (MM 5) (cut MM 3)).2.2.2.2 ∧ M' 1 28 = 0 ∧ M' 1 6 = MM 1 6 + 1 ∧ FrJ (fun k j => k = 3 ∨ k = 5 ∨ k = 9 ∨ (k = 1 ∧ (j = 0 ∨ j = 5 ∨ j = 6 ∨ j = 14 ∨ j = 15 ∨ j = 16 ∨ j = 17 ∨ j = 20 ∨ j = 28))) MM M') ∧ (¬ (msOK (MM 7) (MM 1 14) (eG (cut MM)) (cut MM 1 4) (cut MM 1 5) (MM 5) (cut MM 3) ∧ MM 1 14 ≠ 0) → FrJ (fun k j => k = 9 ∨ (k = 1 ∧ (j = 0 ∨ j = 14 ∨ j = 15 ∨ j = 16 ∨ j = 17 ∨ j = 20))) MM M')) (fun M' i l y n => ⟨rfl, i, l, y, n⟩)) ?_
  intro b MM1 fM hM
  obtain ⟨eb, iM, lM, yM, nM⟩ := hM
  have hF : FOLS MM1 := by
    by_cases c : msOK (MM 7) (MM 1 14) (eG (cut MM)) (cut MM 1 4) (cut MM 1 5) (MM 5) (cut MM 3) ∧ MM 1 14 ≠ 0
    · obtain ⟨m0, m1, m1', m2, m3, m4⟩ := yM c
      refine FOLS.new S m2 m3 (fun i => m4 29 i (by omega)) (fun i => m4 30 i (by omega)) ?_
      rw [m1]
      exact fol_rdM (E := cut MM) (f := MM 7) (t := min (MM 1 14) 39) (g := eG (cut MM)) (H := cut MM 1 4) (a := 0) (n := 9) (w := cut MM 3) hR.f hR.E0 S.2.2.2.1 ⟨Int.le_refl _, by omega⟩ m0
    · exact hR.F.fr (fun k j h => nM c k j (by omega))
  refine ⟨by rw [ez, eb], hR.t iX iM (by omega) lX lM (fX 182 2 (by omega)) (fM 1 45 (by omega)) (fun j => ⟨fX 183 j (by omega), fX 184 j (by omega), fM 26 j (by omega), fM 27 j (by omega)⟩) hF ?_⟩
  by_cases c : msOK (MM 7) (MM 1 14) (eG (cut MM)) (cut MM 1 4) (cut MM 1 5) (MM 5) (cut MM 3) ∧ MM 1 14 ≠ 0
  · obtain ⟨x0, x1, x2⟩ := yX c
    obtain ⟨m0, m1, m1', m2, m3, m4⟩ := yM c
    have E0 := hR.E0
    have eb' := E0.2
    have b := rdM_b (f := MM 7) (t := min (MM 1 14) 39) (g := eG (cut MM)) (H := cut MM 1 4) 9 (cut MM 1 5) (MM 5) (cut MM 3) 0 ⟨Int.le_refl _, by omega⟩ eb'.2 (by omega)
    have b' : cut MM 1 5 < (msT (MM 7) (MM 1 14) (eG (cut MM)) (cut MM 1 4) (cut MM 1 5) (MM 5) (cut MM 3)).2.2.1 ∧ (msT (MM 7) (MM 1 14) (eG (cut MM)) (cut MM 1 4) (cut MM 1 5) (MM 5) (cut MM 3)).2.2.1 ≤ 8 := by
      rcases b.2 with q | q
      · exact absurd (c.1.1.symm.trans q) (by decide)
      · exact q.2
    have W := WR.rdm (E := cut MM) (f := MM 7) (t := min (MM 1 14) 39) eb'.1 9 (cut MM 1 5) (MM 5) (cut MM 3) 0 (by rw [eM_id]; exact S.2.2.2.1) hR.own eb'.2 ⟨Int.le_refl _, by omega⟩ c.1.1
    refine (S.mourners (m' := (msT (MM 7) (MM 1 14) (eG (cut MM)) (cut MM 1 4) (cut MM 1 5) (MM 5) (cut MM 3)).2.2.1) (r' := (msT (MM 7) (MM 1 14) (eG (cut MM)) (cut MM 1 4) (cut MM 1 5) (MM 5) (cut MM 3)).2.2.2.1) (w' := (msT (MM 7) (MM 1 14) (eG (cut MM)) (cut MM 1 4) (cut MM 1 5) (MM 5) (cut MM 3)).2.2.2.2) E0 hR.1 b' W.2 x0 x1 x2 m1 m2 m3 m4 W.1).c ?_
    funext k j
    by_cases h3 : k = 3
    · rw [h3, cut3]
      exact congrFun m1' j
    · rw [show eM (cut MM) (msT (MM 7) (MM 1 14) (eG (cut MM)) (cut MM 1 4) (cut MM 1 5) (MM 5) (cut MM 3)).2.2.2.2 (msT (MM 7) (MM 1 14) (eG (cut MM)) (cut MM 1 4) (cut MM 1 5) (MM 5) (cut MM 3)).2.2.1 k j = up2 (cut MM) 1 5 (msT (MM 7) (MM 1 14) (eG (cut MM)) (cut MM 1 4) (cut MM 1 5) (MM 5) (cut MM 3)).2.2.1 k j from by unfold eM; rw [if_neg h3]]
      by_cases h4 : k = 1 ∧ j = 5
      · rw [h4.1, h4.2, cut15, up2_s]
        exact m0
      · have hu : up2 (cut MM) 1 5 (msT (MM 7) (MM 1 14) (eG (cut MM)) (cut MM 1 4) (cut MM 1 5) (MM 5) (cut MM 3)).2.2.1 k j = cut MM k j := by
          rw [up2_a]
          by_cases c1 : k = 1
          · rw [if_pos c1, if_neg (fun q => h4 ⟨c1, q⟩)]
          · rw [if_neg c1]
        rw [hu]
        by_cases h : cE k j
        · rw [cut_p h, cut_p h]
          exact m4 k j (by omega)
        · unfold cut
          rw [if_neg h, if_neg h]
  · have x0 := nX c
    have m0 := nM c
    rw [cut_of (M0 := MM) (fun k j h => m0 k j (by omega))]
    exact S.fr hR.E0 hR.1 (fun k j q => x0 k j (by omega)) (fun k j q => m0 k j (by omega))
theorem Cl_weather (k : Nat) (MX MM : Mem)  (hk : k < 512) (hMX : MR MX) (hMM : MR MM) (hR : Rel k MX MM) : qX11_weather  MX (fun z MX1 => qX12_weather  MM (fun b MM1 => z = b ∧ Rel (k + 1) MX1 MM1)) := by
  refine fmX11_weather (gX11_weatherC hR.1 (Q := fun z M' => ∃ q, z = wvz (MX 156 1) q ∧ IX M' ∧ WV (MX 157) (MX 156 1) q ∧ M' 156 1 = 0 ∧ (q = MX 156 1 ∧ 1 ≤ q → Ks (fun k j => k = 156 ∨ k = 159 ∨ (k = 158 ∧ j = 3)) MX M' ∧ M' 158 3 = MX 156 1 ∧ ∀ i, 0 ≤ i → i < MX 156 1 → M' 159 i = MX 157 i - 48) ∧ (¬ (q = MX 156 1 ∧ 1 ≤ q) → Ks (fun k j => k = 156 ∧ j = 1) MX M')) (fun q M' i a l y n => ⟨q, rfl, i, a, l, y, n⟩)) ?_
  intro z MX1 fX hX
  obtain ⟨q, ez, iX, aX, lX, yX, nX⟩ := hX
  refine fmX12_weather (gX12_weatherC hR.2.1 (Q := fun z M' => ∃ q, z = wvz (MM 1 14) q ∧ IM (60000 * (k : Int)) M' ∧ WV (MM 7) (MM 1 14) q ∧ M' 1 14 = 0 ∧ (q = MM 1 14 ∧ 1 ≤ q → FrJ (fun k j => k = 4 ∨ k = 10 ∨ (k = 1 ∧ (j = 0 ∨ j = 7 ∨ j = 14 ∨ j = 15 ∨ j = 16 ∨ j = 17))) MM M' ∧ M' 1 7 = MM 1 14 ∧ ∀ i, 0 ≤ i → i < MM 1 14 → M' 4 i = MM 7 i - 48) ∧ (¬ (q = MM 1 14 ∧ 1 ≤ q) → FrJ (fun k j => k = 10 ∨ (k = 1 ∧ (j = 0 ∨ j = 14 ∨ j = 15 ∨ j = 16 ∨ j = 17))) MM M')) (fun q M' i a l y n => ⟨q, rfl, i, a, l, y, n⟩)) ?_
  intro b MM1 fM hM
  obtain ⟨q2, eb, iM, aM, lM, yM, nM⟩ := hM
  have e := hR.2.2.1
  rw [← e] at eb aM yM nM
  have eq := aX.uq aM hR.2.2.2.2.1
  subst eq
  have hF : FOLS MM1 := hR.F.fr (fun k j q => fM k j (by omega))
  refine ⟨by rw [ez, eb], hR.t iX iM (by omega) lX lM (fX 182 2 (by omega)) (fM 1 45 (by omega)) (fun j => ⟨fX 183 j (by omega), fX 184 j (by omega), fM 26 j (by omega), fM 27 j (by omega)⟩) hF ?_⟩
  by_cases c : q = MX 156 1 ∧ 1 ≤ q
  · obtain ⟨x0, x1, x2⟩ := yX c
    obtain ⟨m0, m1, m2⟩ := yM c
    have a20 := aX.1
    refine hR.S.weather hR.E0 hR.1 (len := MX 156 1) (f := MX 157) (by omega) (fun k j h1 h2 => ?_) (by rw [cut17]; exact m1) (fun i p q => ?_) x0 x1 x2 m0
    · by_cases h : cE k j
      · rw [cut_p h, cut_p h]
        exact m0 k j (by omega)
      · unfold cut
        rw [if_neg h, if_neg h]
    · rw [cut4, hR.2.2.2.2.1 i p q]
      exact m2 i p q
  · have x0 := nX c
    have m0 := nM c
    rw [cut_of (M0 := MM) (fun k j h => m0 k j (by omega))]
    exact hR.S.fr hR.E0 hR.1 (fun k j q => x0 k j (by omega)) (fun k j q => m0 k j (by omega))
theorem Cl_rule (k : Nat) (MX MM : Mem)  (hk : k < 512) (hMX : MR MX) (hMM : MR MM) (hR : Rel k MX MM) : qX11_rule  MX (fun z MX1 => qX12_rule  MM (fun b MM1 => z = b ∧ Rel (k + 1) MX1 MM1)) := by
  have S := hR.S
  have e := hR.2.2.1
  refine fmX11_rule (fzX11_rule (gX11_rule (f := MM 7) hR.1 hR.2.2.2.2.1 (Q := fun z M' => z = rly (MM 7) (MX 156 1) ∧ IX M' ∧ (rlz (MM 7) (MX 156 1) = -1 → ROl (M' 155 16).toNat M' (rlO (MM 7) (MX 156 1))) ∧ (rlz (MM 7) (MX 156 1) ≠ -1 → M' 155 16 = MX 155 16 ∧ ∀ (k : Nat) (j : Int), (MX 155 16).toNat ≤ k → k ≤ (MX 155 16).toNat + 2 → M' k j = MX k j)) (fun M' i y n => ⟨rfl, i, y, n⟩)) (Q' := fun z M' => M' 156 1 = 0 ∧ z = rly (MM 7) (MX 156 1) ∧ IX M' ∧ (rlz (MM 7) (MX 156 1) = -1 → ROl (M' 155 16).toNat M' (rlO (MM 7) (MX 156 1))) ∧ (rlz (MM 7) (MX 156 1) ≠ -1 → M' 155 16 = MX 155 16 ∧ ∀ (k : Nat) (j : Int), (MX 155 16).toNat ≤ k → k ≤ (MX 155 16).toNat + 2 → M' k j = MX k j)) (fun _ M' z h => ⟨z, h⟩)) ?_
  intro z MX1 fX hX
  obtain ⟨lX, ez, iX, yX, nX⟩ := hX
  refine fmX12_rule (fzX12_rule (gX12_rule (f := MM 7) hR.2.1 (fun _ _ _ => rfl) (Q := fun z M' => z = rly (MM 7) (MM 1 14) ∧ IM (60000 * (k : Int)) M' ∧ (rlz (MM 7) (MM 1 14) ≠ -1 → Ks kRu MM M') ∧ (rlz (MM 7) (MM 1 14) = -1 → Ks (fun k j => kRu k j ∨ k = 11 ∨ (k = 1 ∧ j = 24)) MM M' ∧ RUL M' (MM 7) (MM 1 14))) (fun M' i n y => ⟨rfl, i, n, y⟩)) (Q' := fun z M' => M' 1 14 = 0 ∧ z = rly (MM 7) (MM 1 14) ∧ IM (60000 * (k : Int)) M' ∧ (rlz (MM 7) (MM 1 14) ≠ -1 → Ks kRu MM M') ∧ (rlz (MM 7) (MM 1 14) = -1 → Ks (fun k j => kRu k j ∨ k = 11 ∨ (k = 1 ∧ j = 24)) MM M' ∧ RUL M' (MM 7) (MM 1 14))) (fun _ M' z h => ⟨z, h⟩)) ?_
  intro b MM1 fM hM
  obtain ⟨lM, eb, iM, nM, yM⟩ := hM
  rw [← e] at eb nM yM
  have hF : FOLS MM1 := hR.F.fr (fun k j q => fM k j (by omega))
  refine ⟨by rw [ez, eb], hR.t iX iM (by omega) lX lM (fX 182 2 (by omega)) (fM 1 45 (by omega)) (fun j => ⟨fX 183 j (by omega), fX 184 j (by omega), fM 26 j (by omega), fM 27 j (by omega)⟩) hF ?_⟩
  by_cases c : rlz (MM 7) (MX 156 1) = -1
  · have x0 := yX c
    obtain ⟨m0, m1⟩ := yM c
    refine S.rule hR.E0 hR.1 (fun k j h1 h2 => ?_) (fun k j h => fX k j (by omega)) ?_ (fun k j h => m0 k j (by omega))
    · by_cases h : cE k j
      · rw [cut_p h, cut_p h]
        exact m0 k j (by omega)
      · unfold cut
        rw [if_neg h, if_neg h]
    · exact m1.law (cut124 MM1) (cut11 MM1) x0
  · obtain ⟨x0, x1⟩ := nX c
    have m0 := nM c
    have ec : cut MM1 = cut MM := cut_of (fun k j h => m0 k j (by omega))
    rw [ec]
    refine S.rule hR.E0 hR.1 (fun _ _ _ _ => rfl) (fun k j h => fX k j (by omega)) ?_ (fun k j h => m0 k j (by omega))
    rw [x0]
    exact S.2.1.fr (x1 _ _ (by omega) (by omega)) (x1 _ _ (by omega) (by omega)) (fun j => x1 _ j (by omega) (by omega)) (fun j => x1 _ j (by omega) (by omega))
theorem Rk_hearse (k : Nat) (MX MM : Mem) (y1 y2 : Int) (hy1 : iR y1) (hy2 : iR y2) (hk : k < 512) (hMX : MR MX) (hMM : MR MM) (hR : Rel k MX MM) : qX11_hearse y1 y2 MX (fun z MX1 => qX12_hearse y1 y2 MM (fun b MM1 => Rel (k + 1) MX1 MM1)) (fun MX1 => qX12_hearse y1 y2 MM (fun b MM1 => Rel (k + 1) MX1 MM1)) := by
  refine fmX11_hearse (sX11_hearse (p1 := y1) (p2 := y2) hR.1 (Q := fun _ M' => IX M') (E := fun M' => IX M') (fun _ _ h => h) (fun _ h => h)) ?_ ?_
  · intro z MX1 fX hX
    refine fmX12_hearse (sX12_hearse (p1 := y1) (p2 := y2) hR.2.1 (Q := fun _ M' => IM (60000 * (k : Int)) M') (fun _ _ h => h)) ?_
    intro b MM1 fM hM
    exact hR.q hX hM (by omega) (fX 156 1 (by first | omega | exact fun h => h)) (fM 1 14 (by first | omega | exact fun h => h)) (fX 182 2 (by first | omega | exact fun h => h)) (fM 1 45 (by first | omega | exact fun h => h)) (fun j => fX 157 j (by first | omega | exact fun h => h)) (fun j => fM 7 j (by first | omega | exact fun h => h)) (fun j => ⟨fX 183 j (by first | omega | exact fun h => h), fX 184 j (by first | omega | exact fun h => h), fM 26 j (by first | omega | exact fun h => h), fM 27 j (by first | omega | exact fun h => h)⟩) (fun k j q => fX k j (by first | omega | exact fun h => h)) (fun k j q => fM k j (by first | omega | exact fun h => h))
  · intro MX1 fX hX
    refine fmX12_hearse (sX12_hearse (p1 := y1) (p2 := y2) hR.2.1 (Q := fun _ M' => IM (60000 * (k : Int)) M') (fun _ _ h => h)) ?_
    intro b MM1 fM hM
    exact hR.q hX hM (by omega) (fX 156 1 (by first | omega | exact fun h => h)) (fM 1 14 (by first | omega | exact fun h => h)) (fX 182 2 (by first | omega | exact fun h => h)) (fM 1 45 (by first | omega | exact fun h => h)) (fun j => fX 157 j (by first | omega | exact fun h => h)) (fun j => fM 7 j (by first | omega | exact fun h => h)) (fun j => ⟨fX 183 j (by first | omega | exact fun h => h), fX 184 j (by first | omega | exact fun h => h), fM 26 j (by first | omega | exact fun h => h), fM 27 j (by first | omega | exact fun h => h)⟩) (fun k j q => fX k j (by first | omega | exact fun h => h)) (fun k j q => fM k j (by first | omega | exact fun h => h))
theorem Rk_mourner (k : Nat) (MX MM : Mem) (y1 y2 : Int) (hy1 : iR y1) (hy2 : iR y2) (hk : k < 512) (hMX : MR MX) (hMM : MR MM) (hR : Rel k MX MM) : qX11_mourner y1 y2 MX (fun z MX1 => qX12_mourner y1 y2 MM (fun b MM1 => Rel (k + 1) MX1 MM1)) (fun MX1 => qX12_mourner y1 y2 MM (fun b MM1 => Rel (k + 1) MX1 MM1)) := by
  refine fmX11_mourner (sX11_mourner (p1 := y1) (p2 := y2) hR.1 (Q := fun _ M' => IX M') (E := fun M' => IX M') (fun _ _ h => h) (fun _ h => h)) ?_ ?_
  · intro z MX1 fX hX
    refine fmX12_mourner (sX12_mourner (p1 := y1) (p2 := y2) hR.2.1 (Q := fun _ M' => IM (60000 * (k : Int)) M') (fun _ _ h => h)) ?_
    intro b MM1 fM hM
    exact hR.q hX hM (by omega) (fX 156 1 (by first | omega | exact fun h => h)) (fM 1 14 (by first | omega | exact fun h => h)) (fX 182 2 (by first | omega | exact fun h => h)) (fM 1 45 (by first | omega | exact fun h => h)) (fun j => fX 157 j (by first | omega | exact fun h => h)) (fun j => fM 7 j (by first | omega | exact fun h => h)) (fun j => ⟨fX 183 j (by first | omega | exact fun h => h), fX 184 j (by first | omega | exact fun h => h), fM 26 j (by first | omega | exact fun h => h), fM 27 j (by first | omega | exact fun h => h)⟩) (fun k j q => fX k j (by first | omega | exact fun h => h)) (fun k j q => fM k j (by first | omega | exact fun h => h))
  · intro MX1 fX hX
    refine fmX12_mourner (sX12_mourner (p1 := y1) (p2 := y2) hR.2.1 (Q := fun _ M' => IM (60000 * (k : Int)) M') (fun _ _ h => h)) ?_
    intro b MM1 fM hM
    exact hR.q hX hM (by omega) (fX 156 1 (by first | omega | exact fun h => h)) (fM 1 14 (by first | omega | exact fun h => h)) (fX 182 2 (by first | omega | exact fun h => h)) (fM 1 45 (by first | omega | exact fun h => h)) (fun j => fX 157 j (by first | omega | exact fun h => h)) (fun j => fM 7 j (by first | omega | exact fun h => h)) (fun j => ⟨fX 183 j (by first | omega | exact fun h => h), fX 184 j (by first | omega | exact fun h => h), fM 26 j (by first | omega | exact fun h => h), fM 27 j (by first | omega | exact fun h => h)⟩) (fun k j q => fX k j (by first | omega | exact fun h => h)) (fun k j q => fM k j (by first | omega | exact fun h => h))
theorem Cl_sheet (k : Nat) (MX MM : Mem) (y1 y2 y3 y4 : Int) (hy1 : iR y1) (hy2 : iR y2) (hy3 : iR y3) (hy4 : iR y4) (hk : k < 512) (hMX : MR MX) (hMM : MR MM) (hR : Rel k MX MM) : qX11_sheet y1 y2 y3 y4 MX (fun z MX1 => qX12_sheet y1 y2 y3 y4 MM (fun b MM1 => z = b ∧ Rel (k + 1) MX1 MM1)) := by
  have S := hR.S
  refine fmX11_sheet (gX11_sheet (E := cut MM) (r := MM 5) (p1 := y1) (p2 := y2) (p3 := y3) (p4 := y4) hR.1 S.1 S.2.2.1 S.2.2.2.1 (Q := fun z M' => z = shA (cut MM) y1 y2 y3 y4 (MM 5) ∧ IX M' ∧ SC (cut MM) M' 1 (shRR (cut MM) y1 y2 y3 y4 (MM 5))) (fun M' i _ c => ⟨rfl, i, c⟩)) ?_
  intro z MX1 fX hX
  obtain ⟨ez, iX, cX⟩ := hX
  refine fmX12_sheet (gX12_sheet (E := cut MM) (p1 := y1) (p2 := y2) (p3 := y3) (p4 := y4) hR.2.1 (cut_CE MM) hR.E0 hy3 (Q := fun z M' => z = shA (cut MM) y1 y2 y3 y4 (MM 5) ∧ IM (60000 * (k : Int)) M' ∧ M' 5 = shRR (cut MM) y1 y2 y3 y4 (MM 5)) (fun M' i _ c => ⟨rfl, i, c⟩)) ?_
  intro b MM1 fM hM
  obtain ⟨eb, iM, cM⟩ := hM
  have hF : FOLS MM1 := hR.F.now (fun k j h => fM k j (by omega)) cM (fol_sh hR.f hR.E0 S.2.2.2.1)
  refine ⟨by rw [ez, eb], hR.s iX iM (by omega) (fX 156 1 (by omega)) (fM 1 14 (by omega)) (fX 182 2 (by omega)) (fM 1 45 (by omega)) (fun j => fX 157 j (by omega)) (fun j => fM 7 j (by omega)) (fun j => ⟨fX 183 j (by omega), fX 184 j (by omega), fM 26 j (by omega), fM 27 j (by omega)⟩) (fun k j q => fM k j (by omega)) hF ?_⟩
  exact S.now hR.E0 hR.1 (fun k j h => fX k j (by omega)) cX (fun k j h => fM k j (by omega)) cM (S.2.2.2.1.shAll hR.E0)
theorem Cl_steps (k : Nat) (MX MM : Mem) (y1 : Int) (hy1 : iR y1) (hk : k < 512) (hMX : MR MX) (hMM : MR MM) (hR : Rel k MX MM) : qX11_steps y1 MX (fun z MX1 => qX12_steps y1 MM (fun b MM1 => z = b ∧ Rel (k + 1) MX1 MM1)) := by
  have S := hR.S
  have r37 := hR.r37 hk
  refine fmX11_steps (gX11_steps (E := cut MM) (r := MM 5) (p1 := y1) hR.1 S.1 S.2.1 hR.W S.2.2.1 S.2.2.2.1 (by omega) (Q := fun z M' => IX M' ∧ (0 ≤ y1 ∧ y1 ≤ 60 → z = itF (cut MM) y1.toNat (MM 5) 12 ∧ WR (cut MM) (itF (cut MM) y1.toNat (MM 5)) ∧ CACT (cut MM) MX M' (MM 5) (itF (cut MM) y1.toNat (MM 5))) ∧ (¬ (0 ≤ y1 ∧ y1 ≤ 60) → z = -1 ∧ M' = MX)) (fun c M' i wr a => ⟨i, fun _ => ⟨rfl, wr, a⟩, fun n => absurd c n⟩) (fun n => ⟨hR.1, fun c => absurd c n, fun _ => ⟨rfl, rfl⟩⟩)) ?_
  intro z MX1 fX hX
  obtain ⟨iX, yX, nX⟩ := hX
  refine fmX12_steps (gX12_steps (E := cut MM) (p1 := y1) hR.2.1 (cut_CE MM) (by omega) (Q := fun z M' => IM (60000 * (k : Int) + 200) M' ∧ (0 ≤ y1 ∧ y1 ≤ 60 → z = itF (cut MM) y1.toNat (MM 5) 12 ∧ RACT MM M' (itF (cut MM) y1.toNat (MM 5))) ∧ (¬ (0 ≤ y1 ∧ y1 ≤ 60) → z = -1 ∧ RNOP MM M')) (fun c M' i a => ⟨i, fun _ => ⟨rfl, a⟩, fun n => absurd c n⟩) (fun n M' i a => ⟨i, fun c => absurd c n, fun _ => ⟨rfl, a⟩⟩)) ?_
  intro b MM1 fM hM
  obtain ⟨iM, yM, nM⟩ := hM
  by_cases c : 0 ≤ y1 ∧ y1 ≤ 60
  · obtain ⟨ez, wr, aX⟩ := yX c
    obtain ⟨eb, aM⟩ := yM c
    have hF : FOLS MM1 := hR.F.act S hR.E0 aM (fol_it hR.E0 S.2.2.2.1 hR.f _)
    refine ⟨by rw [ez, eb], hR.s iX iM (by omega) (fX 156 1 (by omega)) (fM 1 14 (by omega)) (fX 182 2 (by omega)) (fM 1 45 (by omega)) (fun j => fX 157 j (by omega)) (fun j => fM 7 j (by omega)) (fun j => ⟨fX 183 j (by omega), fX 184 j (by omega), fM 26 j (by omega), fM 27 j (by omega)⟩) (fun k j q => fM k j (by omega)) hF ?_⟩
    exact S.act hR.E0 hR.1 aX aM wr
  · obtain ⟨ez, aX⟩ := nX c
    obtain ⟨eb, aM⟩ := nM c
    have hF : FOLS MM1 := hR.F.nop S hR.E0 aM
    refine ⟨by rw [ez, eb], hR.s iX iM (by omega) (fX 156 1 (by omega)) (fM 1 14 (by omega)) (fX 182 2 (by omega)) (fM 1 45 (by omega)) (fun j => fX 157 j (by omega)) (fun j => fM 7 j (by omega)) (fun j => ⟨fX 183 j (by omega), fX 184 j (by omega), fM 26 j (by omega), fM 27 j (by omega)⟩) (fun k j q => fM k j (by omega)) hF ?_⟩
    refine S.nop hR.E0 hR.1 ?_ aM
    rw [aX]
    exact ⟨fun _ _ _ _ => rfl, S.2.2.1⟩
theorem Cl_turnsTo (k : Nat) (MX MM : Mem) (y1 : Int) (hy1 : iR y1) (hk : k < 512) (hMX : MR MX) (hMM : MR MM) (hR : Rel k MX MM) : qX11_turnsTo y1 MX (fun z MX1 => qX12_turnsTo y1 MM (fun b MM1 => z = b ∧ Rel (k + 1) MX1 MM1)) := by
  have S := hR.S
  refine fmX11_turnsTo (gX11_turnsTo (E := cut MM) (r := MM 5) (p1 := y1) hR.1 S.1 S.2.2.1 S.2.2.2.1 (Q := fun z M' => z = tnA (cut MM) (MM 5) y1 ∧ IX M' ∧ (isDn (tnA (cut MM) (MM 5) y1) → CACT (cut MM) MX M' (MM 5) (tnR (cut MM) (MM 5) y1)) ∧ (¬ isDn (tnA (cut MM) (MM 5) y1) → CNOP (cut MM) MX M' (MM 5))) (fun M' i a n => ⟨rfl, i, a, n⟩)) ?_
  intro z MX1 fX hX
  obtain ⟨ez, iX, aX, nX⟩ := hX
  refine fmX12_turnsTo (gX12_turnsTo (E := cut MM) (p1 := y1) hR.2.1 (cut_CE MM) (Q := fun z M' => z = tnA (cut MM) (MM 5) y1 ∧ IM (60000 * (k : Int)) M' ∧ (isDn (tnA (cut MM) (MM 5) y1) → RACT MM M' (tnR (cut MM) (MM 5) y1)) ∧ (¬ isDn (tnA (cut MM) (MM 5) y1) → RNOP MM M')) (fun M' i a n => ⟨rfl, i, a, n⟩)) ?_
  intro b MM1 fM hM
  obtain ⟨eb, iM, aM, nM⟩ := hM
  have hF : FOLS MM1 := by
    by_cases d : isDn (tnA (cut MM) (MM 5) y1)
    · exact hR.F.act S hR.E0 (aM d) (fol_tn hR.f hR.E0 S.2.2.2.1 hR.own)
    · exact hR.F.nop S hR.E0 (nM d)
  refine ⟨by rw [ez, eb], hR.s iX iM (by omega) (fX 156 1 (by omega)) (fM 1 14 (by omega)) (fX 182 2 (by omega)) (fM 1 45 (by omega)) (fun j => fX 157 j (by omega)) (fun j => fM 7 j (by omega)) (fun j => ⟨fX 183 j (by omega), fX 184 j (by omega), fM 26 j (by omega), fM 27 j (by omega)⟩) (fun k j q => fM k j (by omega)) hF ?_⟩
  by_cases d : isDn (tnA (cut MM) (MM 5) y1)
  · exact S.act hR.E0 hR.1 (aX d) (aM d) (S.2.2.2.1.tn hR.E0 hR.own)
  · exact S.nop hR.E0 hR.1 (nX d) (nM d)
theorem Cl_pushes (k : Nat) (MX MM : Mem) (y1 y2 : Int) (hy1 : iR y1) (hy2 : iR y2) (hk : k < 512) (hMX : MR MX) (hMM : MR MM) (hR : Rel k MX MM) : qX11_pushes y1 y2 MX (fun z MX1 => qX12_pushes y1 y2 MM (fun b MM1 => z = b ∧ Rel (k + 1) MX1 MM1)) := by
  have S := hR.S
  refine fmX11_pushes (gX11_pushes (E := cut MM) (r := MM 5) (p1 := y1) (p2 := y2) hR.1 S.1 S.2.2.1 S.2.2.2.1 (Q := fun z M' => z = psA (cut MM) (MM 5) y1 y2 ∧ IX M' ∧ (isDn (psA (cut MM) (MM 5) y1 y2) → CACT (cut MM) MX M' (MM 5) (psR (cut MM) (MM 5) y1 y2)) ∧ (¬ isDn (psA (cut MM) (MM 5) y1 y2) → CNOP (cut MM) MX M' (MM 5))) (fun M' i a n => ⟨rfl, i, a, n⟩)) ?_
  intro z MX1 fX hX
  obtain ⟨ez, iX, aX, nX⟩ := hX
  refine fmX12_pushes (gX12_pushes (E := cut MM) (p1 := y1) (p2 := y2) hR.2.1 (cut_CE MM) (Q := fun z M' => z = psA (cut MM) (MM 5) y1 y2 ∧ IM (60000 * (k : Int)) M' ∧ (isDn (psA (cut MM) (MM 5) y1 y2) → RACT MM M' (psR (cut MM) (MM 5) y1 y2)) ∧ (¬ isDn (psA (cut MM) (MM 5) y1 y2) → RNOP MM M')) (fun M' i a n => ⟨rfl, i, a, n⟩)) ?_
  intro b MM1 fM hM
  obtain ⟨eb, iM, aM, nM⟩ := hM
  have hF : FOLS MM1 := by
    by_cases d : isDn (psA (cut MM) (MM 5) y1 y2)
    · exact hR.F.act S hR.E0 (aM d) (fol_ps hR.f hR.E0 S.2.2.2.1)
    · exact hR.F.nop S hR.E0 (nM d)
  refine ⟨by rw [ez, eb], hR.s iX iM (by omega) (fX 156 1 (by omega)) (fM 1 14 (by omega)) (fX 182 2 (by omega)) (fM 1 45 (by omega)) (fun j => fX 157 j (by omega)) (fun j => fM 7 j (by omega)) (fun j => ⟨fX 183 j (by omega), fX 184 j (by omega), fM 26 j (by omega), fM 27 j (by omega)⟩) (fun k j q => fM k j (by omega)) hF ?_⟩
  by_cases d : isDn (psA (cut MM) (MM 5) y1 y2)
  · exact S.act hR.E0 hR.1 (aX d) (aM d) (S.2.2.2.1.ps hR.E0)
  · exact S.nop hR.E0 hR.1 (nX d) (nM d)
theorem Cl_swaps (k : Nat) (MX MM : Mem) (y1 y2 : Int) (hy1 : iR y1) (hy2 : iR y2) (hk : k < 512) (hMX : MR MX) (hMM : MR MM) (hR : Rel k MX MM) : qX11_swaps y1 y2 MX (fun z MX1 => qX12_swaps y1 y2 MM (fun b MM1 => z = b ∧ Rel (k + 1) MX1 MM1)) := by
  have S := hR.S
  refine fmX11_swaps (gX11_swaps (E := cut MM) (r := MM 5) (p1 := y1) (p2 := y2) hR.1 S.1 S.2.2.1 S.2.2.2.1 (Q := fun z M' => z = swA (cut MM) (MM 5) y1 y2 ∧ IX M' ∧ (isDn (swA (cut MM) (MM 5) y1 y2) → CACT (cut MM) MX M' (MM 5) (swR (cut MM) (MM 5) y1 y2)) ∧ (¬ isDn (swA (cut MM) (MM 5) y1 y2) → CNOP (cut MM) MX M' (MM 5))) (fun M' i a n => ⟨rfl, i, a, n⟩)) ?_
  intro z MX1 fX hX
  obtain ⟨ez, iX, aX, nX⟩ := hX
  refine fmX12_swaps (gX12_swaps (E := cut MM) (p1 := y1) (p2 := y2) hR.2.1 (cut_CE MM) (Q := fun z M' => z = swA (cut MM) (MM 5) y1 y2 ∧ IM (60000 * (k : Int)) M' ∧ (isDn (swA (cut MM) (MM 5) y1 y2) → RACT MM M' (swR (cut MM) (MM 5) y1 y2)) ∧ (¬ isDn (swA (cut MM) (MM 5) y1 y2) → RNOP MM M')) (fun M' i a n => ⟨rfl, i, a, n⟩)) ?_
  intro b MM1 fM hM
  obtain ⟨eb, iM, aM, nM⟩ := hM
  have hF : FOLS MM1 := by
    by_cases d : isDn (swA (cut MM) (MM 5) y1 y2)
    · exact hR.F.act S hR.E0 (aM d) (fol_sw hR.f hR.E0)
    · exact hR.F.nop S hR.E0 (nM d)
  refine ⟨by rw [ez, eb], hR.s iX iM (by omega) (fX 156 1 (by omega)) (fM 1 14 (by omega)) (fX 182 2 (by omega)) (fM 1 45 (by omega)) (fun j => fX 157 j (by omega)) (fun j => fM 7 j (by omega)) (fun j => ⟨fX 183 j (by omega), fX 184 j (by omega), fM 26 j (by omega), fM 27 j (by omega)⟩) (fun k j q => fM k j (by omega)) hF ?_⟩
  by_cases d : isDn (swA (cut MM) (MM 5) y1 y2)
  · exact S.act hR.E0 hR.1 (aX d) (aM d) (S.2.2.2.1.sw hR.E0)
  · exact S.nop hR.E0 hR.1 (nX d) (nM d)
theorem Cl_hour (k : Nat) (MX MM : Mem)  (hk : k < 512) (hMX : MR MX) (hMM : MR MM) (hR : Rel k MX MM) : qX11_hour  MX (fun z MX1 => qX12_hour  MM (fun b MM1 => z = b ∧ Rel (k + 1) MX1 MM1)) := by
  have S := hR.S
  have r37 := hR.r37 hk
  have e := hR.2.2.1
  have eZ : hfz (MX 157) (MX 156 1) = hfz (MM 7) (MM 1 14) := by
    rw [e]
    exact hfz_cg (fun j p q => hR.2.2.2.2.1 j p (by omega))
  have eG' : hGO (cut MM) (MX 157) (MX 156 1) (MM 5) = (hGO (cut MM) (MM 7) (MM 1 14) (MM 5)) := by
    rw [e]
    exact hGO_cg (fun j p q => hR.2.2.2.2.1 j p (by omega))
  refine fmX11_hour (fzX11_hour (gX11_hour (E := cut MM) (r := MM 5) hR.1 S.1 S.2.1 hR.W S.2.2.1 S.2.2.2.1 r37 (Q := fun z M' => IX M' ∧ (hfz (MM 7) (MM 1 14) = -1 → z = (hGO (cut MM) (MM 7) (MM 1 14) (MM 5)).1 ∧ WR (cut MM) (hGO (cut MM) (MM 7) (MM 1 14) (MM 5)).2.2 ∧ (0 < (hGO (cut MM) (MM 7) (MM 1 14) (MM 5)).1 → CACT (cut MM) MX M' (MM 5) (hGO (cut MM) (MM 7) (MM 1 14) (MM 5)).2.2) ∧ (¬ 0 < (hGO (cut MM) (MM 7) (MM 1 14) (MM 5)).1 → CNOP (cut MM) MX M' (MM 5))) ∧ (hfz (MM 7) (MM 1 14) ≠ -1 → z = -1 - hfz (MM 7) (MM 1 14) ∧ CNOP (cut MM) MX M' (MM 5))) (fun c M' i wr a n => by rw [eZ] at c; rw [eG'] at wr a n ⊢; exact ⟨i, fun _ => ⟨rfl, wr, a, n⟩, fun q => absurd c q⟩) (fun c M' i n => by rw [eZ] at c ⊢; exact ⟨i, fun q => absurd q c, fun _ => ⟨rfl, n⟩⟩)) (Q' := fun z M' => M' 156 1 = 0 ∧ IX M' ∧ (hfz (MM 7) (MM 1 14) = -1 → z = (hGO (cut MM) (MM 7) (MM 1 14) (MM 5)).1 ∧ WR (cut MM) (hGO (cut MM) (MM 7) (MM 1 14) (MM 5)).2.2 ∧ (0 < (hGO (cut MM) (MM 7) (MM 1 14) (MM 5)).1 → CACT (cut MM) MX M' (MM 5) (hGO (cut MM) (MM 7) (MM 1 14) (MM 5)).2.2) ∧ (¬ 0 < (hGO (cut MM) (MM 7) (MM 1 14) (MM 5)).1 → CNOP (cut MM) MX M' (MM 5))) ∧ (hfz (MM 7) (MM 1 14) ≠ -1 → z = -1 - hfz (MM 7) (MM 1 14) ∧ CNOP (cut MM) MX M' (MM 5))) (fun _ M' z h => ⟨z, h⟩)) ?_
  intro z MX1 fX hX
  obtain ⟨lX, iX, yX, nX⟩ := hX
  refine fmX12_hour (fzX12_hour (gX12_hour (E := cut MM) hR.2.1 (cut_CE MM) hR.E0 S.2.2.2.1 hR.own (by omega) (Q := fun z M' => IM (60000 * (k : Int) + 300) M' ∧ (hfz (MM 7) (MM 1 14) = -1 → z = (hGO (cut MM) (MM 7) (MM 1 14) (MM 5)).1 ∧ (0 < (hGO (cut MM) (MM 7) (MM 1 14) (MM 5)).1 → RACT MM M' (hGO (cut MM) (MM 7) (MM 1 14) (MM 5)).2.2) ∧ (¬ 0 < (hGO (cut MM) (MM 7) (MM 1 14) (MM 5)).1 → RNOP MM M')) ∧ (hfz (MM 7) (MM 1 14) ≠ -1 → z = -1 - hfz (MM 7) (MM 1 14) ∧ RNOP MM M')) (fun c M' i a n => ⟨i, fun _ => ⟨rfl, a, n⟩, fun q => absurd c q⟩) (fun c M' i n => ⟨i, fun q => absurd q c, fun _ => ⟨rfl, n⟩⟩)) (Q' := fun z M' => M' 1 14 = 0 ∧ IM (60000 * (k : Int) + 300) M' ∧ (hfz (MM 7) (MM 1 14) = -1 → z = (hGO (cut MM) (MM 7) (MM 1 14) (MM 5)).1 ∧ (0 < (hGO (cut MM) (MM 7) (MM 1 14) (MM 5)).1 → RACT MM M' (hGO (cut MM) (MM 7) (MM 1 14) (MM 5)).2.2) ∧ (¬ 0 < (hGO (cut MM) (MM 7) (MM 1 14) (MM 5)).1 → RNOP MM M')) ∧ (hfz (MM 7) (MM 1 14) ≠ -1 → z = -1 - hfz (MM 7) (MM 1 14) ∧ RNOP MM M')) (fun _ M' z h => ⟨z, h⟩)) ?_
  intro b MM1 fM hM
  obtain ⟨lM, iM, yM, nM⟩ := hM
  have ec : cut MM1 = cut MM := cut_of (fun k j h => fM k j (by omega))
  have fin : z = b → FOLS MM1 → STA (cut MM) MX1 MM1 → z = b ∧ Rel (k + 1) MX1 MM1 := fun q hF s => ⟨q, hR.t iX iM (by omega) lX lM (fX 182 2 (by omega)) (fM 1 45 (by omega)) (fun j => ⟨fX 183 j (by omega), fX 184 j (by omega), fM 26 j (by omega), fM 27 j (by omega)⟩) hF (by rw [ec]; exact s)⟩
  by_cases c : hfz (MM 7) (MM 1 14) = -1
  · obtain ⟨ez, wr, aX, oX⟩ := yX c
    obtain ⟨eb, aM, oM⟩ := yM c
    by_cases d : 0 < (hGO (cut MM) (MM 7) (MM 1 14) (MM 5)).1
    · exact fin (by rw [ez, eb]) (hR.F.act S hR.E0 (aM d) (fol_hr hR.E0 hR.own _ _ _ hR.f S.2.2.2.1)) (S.act hR.E0 hR.1 (aX d) (aM d) wr)
    · exact fin (by rw [ez, eb]) (hR.F.nop S hR.E0 (oM d)) (S.nop hR.E0 hR.1 (oX d) (oM d))
  · obtain ⟨ez, aX⟩ := nX c
    obtain ⟨eb, aM⟩ := nM c
    exact fin (by rw [ez, eb]) (hR.F.nop S hR.E0 aM) (S.nop hR.E0 hR.1 aX aM)
theorem Cl_undo (k : Nat) (MX MM : Mem)  (hk : k < 512) (hMX : MR MX) (hMM : MR MM) (hR : Rel k MX MM) : qX11_undo  MX (fun z MX1 => qX12_undo  MM (fun b MM1 => z = b ∧ Rel (k + 1) MX1 MM1)) := by
  have S := hR.S
  have eh : MX 163 2 = MM 1 28 := S.2.2.2.2.1.1
  refine fmX11_undo (gX11_undo hR.1 (Q := fun z M' => IX M' ∧ Ks (fun k j => (1 ≤ k ∧ k ≤ 7) ∨ (k = 163 ∧ j = 2)) MX M' ∧ (MX 163 2 = 0 ∧ z = -1 ∧ M' = MX ∨ 0 < MX 163 2 ∧ z = MX 163 2 - 1 ∧ M' 163 2 = MX 163 2 - 1 ∧ ∀ (E : Mem) (r : Int → Int), SC E MX (50 + 7 * ((MX 163 1 + (MX 163 2 - 1)) % 15).toNat) r → SC E M' 1 r)) (fun z M' i kx h => ⟨i, kx, h⟩)) ?_
  intro z MX1 fX hX
  obtain ⟨iX, kX, gX⟩ := hX
  refine fmX12_undo (gX12_undo hR.2.1 (Q := fun z M' => IM (60000 * (k : Int)) M' ∧ FrJ (fun k j => k = 5 ∨ (k = 1 ∧ (j = 0 ∨ j = 28))) MM M' ∧ (MM 1 28 = 0 ∧ z = -1 ∧ M' 1 28 = 0 ∧ (∀ j, M' 5 j = MM 5 j) ∨ 0 < MM 1 28 ∧ z = MM 1 28 - 1 ∧ M' 1 28 = MM 1 28 - 1 ∧ ∀ j, 0 ≤ j → j < 38 → M' 5 j = MM 15 (38 * (MM 1 28 - 1) + j))) (fun z M' i kx h => ⟨i, kx, h⟩)) ?_
  intro b MM1 fM hM
  obtain ⟨iM, kM, gM⟩ := hM
  rcases gX with ⟨x0, x1, x2⟩ | ⟨x0, x1, x2, x3⟩
  · rcases gM with ⟨m0, m1, m2, m3⟩ | ⟨m0, m1, m2, m3⟩
    · have hF : FOLS MM1 := hR.F.fr (fun k j q => by
        by_cases c5 : k = 5
        · rw [c5]; exact m3 j
        · by_cases c28 : k = 1 ∧ j = 28
          · rw [c28.1, c28.2, m2, m0]
          · exact kM k j (by omega))
      refine ⟨by rw [x1, m1], hR.s iX iM (by omega) (fX 156 1 (by omega)) (fM 1 14 (by omega)) (fX 182 2 (by omega)) (fM 1 45 (by omega)) (fun j => fX 157 j (by omega)) (fun j => fM 7 j (by omega)) (fun j => ⟨fX 183 j (by omega), fX 184 j (by omega), fM 26 j (by omega), fM 27 j (by omega)⟩) (fun k j q => fM k j (by omega)) hF ?_⟩
      refine S.fr hR.E0 hR.1 (fun k j q => by rw [x2]) (fun k j q => ?_)
      by_cases c5 : k = 5
      · rw [c5]; exact m3 j
      · by_cases c28 : k = 1 ∧ j = 28
        · rw [c28.1, c28.2, m2, m0]
        · exact kM k j (by omega)
    · omega
  · rcases gM with ⟨m0, m1, m2, m3⟩ | ⟨m0, m1, m2, m3⟩
    · omega
    · have hF : FOLS MM1 := hR.F.undo S hR.E0 m0 kM m2 m3
      refine ⟨by omega, hR.s iX iM (by omega) (fX 156 1 (by omega)) (fM 1 14 (by omega)) (fX 182 2 (by omega)) (fM 1 45 (by omega)) (fun j => fX 157 j (by omega)) (fun j => fM 7 j (by omega)) (fun j => ⟨fX 183 j (by omega), fX 184 j (by omega), fM 26 j (by omega), fM 27 j (by omega)⟩) (fun k j q => fM k j (by omega)) hF ?_⟩
      exact S.undo hR.E0 hR.1 m0 kX x2 x3 kM m2 m3
theorem Rk_line (k : Nat) (MX MM : Mem)  (hk : k < 512) (hMX : MR MX) (hMM : MR MM) (hR : Rel k MX MM) : qX11_line  MX (fun z MX1 => qX12_line  MM (fun b MM1 => Rel (k + 1) MX1 MM1)) := by
  refine fmX11_line (sX11_line  hR.1 (Q := fun _ M' => IX M') (fun _ _ h => h)) ?_
  intro z MX1 fX hX
  refine fmX12_line (sX12_line  hR.2.1 (Q := fun _ M' => IM (60000 * (k : Int)) M') (fun _ _ h => h)) ?_
  intro b MM1 fM hM
  exact hR.q hX hM (by omega) (fX 156 1 (by first | omega | exact fun h => h)) (fM 1 14 (by first | omega | exact fun h => h)) (fX 182 2 (by first | omega | exact fun h => h)) (fM 1 45 (by first | omega | exact fun h => h)) (fun j => fX 157 j (by first | omega | exact fun h => h)) (fun j => fM 7 j (by first | omega | exact fun h => h)) (fun j => ⟨fX 183 j (by first | omega | exact fun h => h), fX 184 j (by first | omega | exact fun h => h), fM 26 j (by first | omega | exact fun h => h), fM 27 j (by first | omega | exact fun h => h)⟩) (fun k j q => fX k j (by first | omega | exact fun h => h)) (fun k j q => fM k j (by first | omega | exact fun h => h))
theorem Rk_ahead (k : Nat) (MX MM : Mem) (y1 : Int) (hy1 : iR y1) (hk : k < 512) (hMX : MR MX) (hMM : MR MM) (hR : Rel k MX MM) : qX11_ahead y1 MX (fun z MX1 => qX12_ahead y1 MM (fun b MM1 => Rel (k + 1) MX1 MM1)) := by
  refine fmX11_ahead (sX11_ahead (p1 := y1) hR.1 (Q := fun _ M' => IX M') (fun _ _ h => h)) ?_
  intro z MX1 fX hX
  refine fmX12_ahead (sX12_ahead (p1 := y1) hR.2.1 (by omega) (Q := fun _ M' => IM (60000 * (k : Int) + 200) M') (fun _ _ h => h)) ?_
  intro b MM1 fM hM
  exact hR.q hX hM (by omega) (fX 156 1 (by first | omega | exact fun h => h)) (fM 1 14 (by first | omega | exact fun h => h)) (fX 182 2 (by first | omega | exact fun h => h)) (fM 1 45 (by first | omega | exact fun h => h)) (fun j => fX 157 j (by first | omega | exact fun h => h)) (fun j => fM 7 j (by first | omega | exact fun h => h)) (fun j => ⟨fX 183 j (by first | omega | exact fun h => h), fX 184 j (by first | omega | exact fun h => h), fM 26 j (by first | omega | exact fun h => h), fM 27 j (by first | omega | exact fun h => h)⟩) (fun k j q => fX k j (by first | omega | exact fun h => h)) (fun k j q => fM k j (by first | omega | exact fun h => h))
theorem Rk_arrives (k : Nat) (MX MM : Mem) (y1 : Int) (hy1 : iR y1) (hk : k < 512) (hMX : MR MX) (hMM : MR MM) (hR : Rel k MX MM) : qX11_arrives y1 MX (fun z MX1 => qX12_arrives y1 MM (fun b MM1 => Rel (k + 1) MX1 MM1)) := by
  refine fmX11_arrives (sX11_arrives (p1 := y1) hR.1 (Q := fun _ M' => IX M') (fun _ _ h => h)) ?_
  intro z MX1 fX hX
  refine fmX12_arrives (sX12_arrives (p1 := y1) hR.2.1 (by omega) (Q := fun _ M' => IM (60000 * (k : Int) + 201) M') (fun _ _ h => h)) ?_
  intro b MM1 fM hM
  exact hR.q hX hM (by omega) (fX 156 1 (by first | omega | exact fun h => h)) (fM 1 14 (by first | omega | exact fun h => h)) (fX 182 2 (by first | omega | exact fun h => h)) (fM 1 45 (by first | omega | exact fun h => h)) (fun j => fX 157 j (by first | omega | exact fun h => h)) (fun j => fM 7 j (by first | omega | exact fun h => h)) (fun j => ⟨fX 183 j (by first | omega | exact fun h => h), fX 184 j (by first | omega | exact fun h => h), fM 26 j (by first | omega | exact fun h => h), fM 27 j (by first | omega | exact fun h => h)⟩) (fun k j q => fX k j (by first | omega | exact fun h => h)) (fun k j q => fM k j (by first | omega | exact fun h => h))
theorem Rk_jam (k : Nat) (MX MM : Mem) (y1 : Int) (hy1 : iR y1) (hk : k < 512) (hMX : MR MX) (hMM : MR MM) (hR : Rel k MX MM) : qX11_jam y1 MX (fun z MX1 => qX12_jam y1 MM (fun b MM1 => Rel (k + 1) MX1 MM1)) := by
  refine fmX11_jam (sX11_jam (p1 := y1) hR.1 (Q := fun _ M' => IX M') (fun _ _ h => h)) ?_
  intro z MX1 fX hX
  refine fmX12_jam (sX12_jam (p1 := y1) hR.2.1 (by omega) (Q := fun _ M' => IM (60000 * (k : Int) + 200) M') (fun _ _ h => h)) ?_
  intro b MM1 fM hM
  exact hR.q hX hM (by omega) (fX 156 1 (by first | omega | exact fun h => h)) (fM 1 14 (by first | omega | exact fun h => h)) (fX 182 2 (by first | omega | exact fun h => h)) (fM 1 45 (by first | omega | exact fun h => h)) (fun j => fX 157 j (by first | omega | exact fun h => h)) (fun j => fM 7 j (by first | omega | exact fun h => h)) (fun j => ⟨fX 183 j (by first | omega | exact fun h => h), fX 184 j (by first | omega | exact fun h => h), fM 26 j (by first | omega | exact fun h => h), fM 27 j (by first | omega | exact fun h => h)⟩) (fun k j q => fX k j (by first | omega | exact fun h => h)) (fun k j q => fM k j (by first | omega | exact fun h => h))
theorem Rk_passes (k : Nat) (MX MM : Mem) (y1 y2 : Int) (hy1 : iR y1) (hy2 : iR y2) (hk : k < 512) (hMX : MR MX) (hMM : MR MM) (hR : Rel k MX MM) : qX11_passes y1 y2 MX (fun z MX1 => qX12_passes y1 y2 MM (fun b MM1 => Rel (k + 1) MX1 MM1)) := by
  refine fmX11_passes (sX11_passes (p1 := y1) (p2 := y2) hR.1 (Q := fun _ M' => IX M') (fun _ _ h => h)) ?_
  intro z MX1 fX hX
  refine fmX12_passes (sX12_passes (p1 := y1) (p2 := y2) hR.2.1 (by omega) (Q := fun _ M' => IM (60000 * (k : Int) + 62) M') (fun _ _ h => h)) ?_
  intro b MM1 fM hM
  exact hR.q hX hM (by omega) (fX 156 1 (by first | omega | exact fun h => h)) (fM 1 14 (by first | omega | exact fun h => h)) (fX 182 2 (by first | omega | exact fun h => h)) (fM 1 45 (by first | omega | exact fun h => h)) (fun j => fX 157 j (by first | omega | exact fun h => h)) (fun j => fM 7 j (by first | omega | exact fun h => h)) (fun j => ⟨fX 183 j (by first | omega | exact fun h => h), fX 184 j (by first | omega | exact fun h => h), fM 26 j (by first | omega | exact fun h => h), fM 27 j (by first | omega | exact fun h => h)⟩) (fun k j q => fX k j (by first | omega | exact fun h => h)) (fun k j q => fM k j (by first | omega | exact fun h => h))
theorem Rk_ends (k : Nat) (MX MM : Mem) (y1 : Int) (hy1 : iR y1) (hk : k < 512) (hMX : MR MX) (hMM : MR MM) (hR : Rel k MX MM) : qX11_ends y1 MX (fun z MX1 => qX12_ends y1 MM (fun b MM1 => Rel (k + 1) MX1 MM1)) := by
  refine fmX11_ends (sX11_ends (p1 := y1) hR.1 (Q := fun _ M' => IX M') (fun _ _ h => h)) ?_
  intro z MX1 fX hX
  refine fmX12_ends (sX12_ends (p1 := y1) hR.2.1 (by omega) (Q := fun _ M' => IM (60000 * (k : Int) + 402) M') (fun _ _ h => h)) ?_
  intro b MM1 fM hM
  exact hR.q hX hM (by omega) (fX 156 1 (by first | omega | exact fun h => h)) (fM 1 14 (by first | omega | exact fun h => h)) (fX 182 2 (by first | omega | exact fun h => h)) (fM 1 45 (by first | omega | exact fun h => h)) (fun j => fX 157 j (by first | omega | exact fun h => h)) (fun j => fM 7 j (by first | omega | exact fun h => h)) (fun j => ⟨fX 183 j (by first | omega | exact fun h => h), fX 184 j (by first | omega | exact fun h => h), fM 26 j (by first | omega | exact fun h => h), fM 27 j (by first | omega | exact fun h => h)⟩) (fun k j q => fX k j (by first | omega | exact fun h => h)) (fun k j q => fM k j (by first | omega | exact fun h => h))
theorem Rk_right (k : Nat) (MX MM : Mem)  (hk : k < 512) (hMX : MR MX) (hMM : MR MM) (hR : Rel k MX MM) : qX11_right  MX (fun z MX1 => qX12_right  MM (fun b MM1 => Rel (k + 1) MX1 MM1)) := by
  refine fmX11_right (sX11_right  hR.1 (Q := fun _ M' => IX M') (fun _ _ h => h)) ?_
  intro z MX1 fX hX
  refine fmX12_right (sX12_right  hR.2.1 (by omega) (Q := fun _ M' => IM (60000 * (k : Int) + 200) M') (fun _ _ h => h)) ?_
  intro b MM1 fM hM
  exact hR.q hX hM (by omega) (fX 156 1 (by first | omega | exact fun h => h)) (fM 1 14 (by first | omega | exact fun h => h)) (fX 182 2 (by first | omega | exact fun h => h)) (fM 1 45 (by first | omega | exact fun h => h)) (fun j => fX 157 j (by first | omega | exact fun h => h)) (fun j => fM 7 j (by first | omega | exact fun h => h)) (fun j => ⟨fX 183 j (by first | omega | exact fun h => h), fX 184 j (by first | omega | exact fun h => h), fM 26 j (by first | omega | exact fun h => h), fM 27 j (by first | omega | exact fun h => h)⟩) (fun k j q => fX k j (by first | omega | exact fun h => h)) (fun k j q => fM k j (by first | omega | exact fun h => h))
theorem Rk_order (k : Nat) (MX MM : Mem)  (hk : k < 512) (hMX : MR MX) (hMM : MR MM) (hR : Rel k MX MM) : qX11_order  MX (fun z MX1 => qX12_order  MM (fun b MM1 => Rel (k + 1) MX1 MM1)) := by
  refine fmX11_order (sX11_order  hR.1 (Q := fun _ M' => IX M') (fun _ _ h => h)) ?_
  intro z MX1 fX hX
  refine fmX12_order (sX12_order  hR.2.1 (by omega) (Q := fun _ M' => IM (60000 * (k : Int) + 200) M') (fun _ _ h => h)) ?_
  intro b MM1 fM hM
  exact hR.q hX hM (by omega) (fX 156 1 (by first | omega | exact fun h => h)) (fM 1 14 (by first | omega | exact fun h => h)) (fX 182 2 (by first | omega | exact fun h => h)) (fM 1 45 (by first | omega | exact fun h => h)) (fun j => fX 157 j (by first | omega | exact fun h => h)) (fun j => fM 7 j (by first | omega | exact fun h => h)) (fun j => ⟨fX 183 j (by first | omega | exact fun h => h), fX 184 j (by first | omega | exact fun h => h), fM 26 j (by first | omega | exact fun h => h), fM 27 j (by first | omega | exact fun h => h)⟩) (fun k j q => fX k j (by first | omega | exact fun h => h)) (fun k j q => fM k j (by first | omega | exact fun h => h))
theorem Rk_stands (k : Nat) (MX MM : Mem) (y1 : Int) (hy1 : iR y1) (hk : k < 512) (hMX : MR MX) (hMM : MR MM) (hR : Rel k MX MM) : qX11_stands y1 MX (fun z MX1 => qX12_stands y1 MM (fun b MM1 => Rel (k + 1) MX1 MM1)) := by
  refine fmX11_stands (sX11_stands (p1 := y1) hR.1 (Q := fun _ M' => IX M') (fun _ _ h => h)) ?_
  intro z MX1 fX hX
  refine fmX12_stands (sX12_stands (p1 := y1) hR.2.1 (by omega) (Q := fun _ M' => IM (60000 * (k : Int) + 6000) M') (fun _ _ h => h)) ?_
  intro b MM1 fM hM
  exact hR.q hX hM (by omega) (fX 156 1 (by first | omega | exact fun h => h)) (fM 1 14 (by first | omega | exact fun h => h)) (fX 182 2 (by first | omega | exact fun h => h)) (fM 1 45 (by first | omega | exact fun h => h)) (fun j => fX 157 j (by first | omega | exact fun h => h)) (fun j => fM 7 j (by first | omega | exact fun h => h)) (fun j => ⟨fX 183 j (by first | omega | exact fun h => h), fX 184 j (by first | omega | exact fun h => h), fM 26 j (by first | omega | exact fun h => h), fM 27 j (by first | omega | exact fun h => h)⟩) (fun k j q => fX k j (by first | omega | exact fun h => h)) (fun k j q => fM k j (by first | omega | exact fun h => h))
theorem Rk_when (k : Nat) (MX MM : Mem) (y1 : Int) (hy1 : iR y1) (hk : k < 512) (hMX : MR MX) (hMM : MR MM) (hR : Rel k MX MM) : qX11_when y1 MX (fun z MX1 => qX12_when y1 MM (fun b MM1 => Rel (k + 1) MX1 MM1)) := by
  refine fmX11_when (sX11_when (p1 := y1) hR.1 (Q := fun _ M' => IX M') (fun _ _ h => h)) ?_
  intro z MX1 fX hX
  refine fmX12_when (sX12_when (p1 := y1) hR.2.1 (by omega) (Q := fun _ M' => IM (60000 * (k : Int) + 24400) M') (fun _ _ h => h)) ?_
  intro b MM1 fM hM
  exact hR.q hX hM (by omega) (fX 156 1 (by first | omega | exact fun h => h)) (fM 1 14 (by first | omega | exact fun h => h)) (fX 182 2 (by first | omega | exact fun h => h)) (fM 1 45 (by first | omega | exact fun h => h)) (fun j => fX 157 j (by first | omega | exact fun h => h)) (fun j => fM 7 j (by first | omega | exact fun h => h)) (fun j => ⟨fX 183 j (by first | omega | exact fun h => h), fX 184 j (by first | omega | exact fun h => h), fM 26 j (by first | omega | exact fun h => h), fM 27 j (by first | omega | exact fun h => h)⟩) (fun k j q => fX k j (by first | omega | exact fun h => h)) (fun k j q => fM k j (by first | omega | exact fun h => h))
theorem Rk_mends (k : Nat) (MX MM : Mem) (y1 : Int) (hy1 : iR y1) (hk : k < 512) (hMX : MR MX) (hMM : MR MM) (hR : Rel k MX MM) : qX11_mends y1 MX (fun z MX1 => qX12_mends y1 MM (fun b MM1 => Rel (k + 1) MX1 MM1)) := by
  refine fmX11_mends (sX11_mends (p1 := y1) hR.1 (Q := fun _ M' => IX M') (fun _ _ h => h)) ?_
  intro z MX1 fX hX
  refine fmX12_mends (sX12_mends (p1 := y1) hR.2.1 (by omega) (Q := fun _ M' => IM (60000 * (k : Int) + 51200) M') (fun _ _ h => h)) ?_
  intro b MM1 fM hM
  exact hR.q hX hM (by omega) (fX 156 1 (by first | omega | exact fun h => h)) (fM 1 14 (by first | omega | exact fun h => h)) (fX 182 2 (by first | omega | exact fun h => h)) (fM 1 45 (by first | omega | exact fun h => h)) (fun j => fX 157 j (by first | omega | exact fun h => h)) (fun j => fM 7 j (by first | omega | exact fun h => h)) (fun j => ⟨fX 183 j (by first | omega | exact fun h => h), fX 184 j (by first | omega | exact fun h => h), fM 26 j (by first | omega | exact fun h => h), fM 27 j (by first | omega | exact fun h => h)⟩) (fun k j q => fX k j (by first | omega | exact fun h => h)) (fun k j q => fM k j (by first | omega | exact fun h => h))
theorem Rk_misleads (k : Nat) (MX MM : Mem)  (hk : k < 512) (hMX : MR MX) (hMM : MR MM) (hR : Rel k MX MM) : qX11_misleads  MX (fun z MX1 => qX12_misleads  MM (fun b MM1 => Rel (k + 1) MX1 MM1)) := by
  refine fmX11_misleads (sX11_misleads  hR.1 (Q := fun _ M' => IX M') (fun _ _ h => h)) ?_
  intro z MX1 fX hX
  refine fmX12_misleads (sX12_misleads  hR.2.1 (by omega) (Q := fun _ M' => IM (60000 * (k : Int) + 1600) M') (fun _ _ h => h)) ?_
  intro b MM1 fM hM
  exact hR.q hX hM (by omega) (fX 156 1 (by first | omega | exact fun h => h)) (fM 1 14 (by first | omega | exact fun h => h)) (fX 182 2 (by first | omega | exact fun h => h)) (fM 1 45 (by first | omega | exact fun h => h)) (fun j => fX 157 j (by first | omega | exact fun h => h)) (fun j => fM 7 j (by first | omega | exact fun h => h)) (fun j => ⟨fX 183 j (by first | omega | exact fun h => h), fX 184 j (by first | omega | exact fun h => h), fM 26 j (by first | omega | exact fun h => h), fM 27 j (by first | omega | exact fun h => h)⟩) (fun k j q => fX k j (by first | omega | exact fun h => h)) (fun k j q => fM k j (by first | omega | exact fun h => h))
theorem Rk_crowd (k : Nat) (MX MM : Mem)  (hk : k < 512) (hMX : MR MX) (hMM : MR MM) (hR : Rel k MX MM) : qX11_crowd  MX (fun z MX1 => qX12_crowd  MM (fun b MM1 => Rel (k + 1) MX1 MM1)) := by
  refine fmX11_crowd (sX11_crowd  hR.1 (Q := fun _ M' => IX M') (fun _ _ h => h)) ?_
  intro z MX1 fX hX
  refine fmX12_crowd (sX12_crowd  hR.2.1 (by omega) (Q := fun _ M' => IM (60000 * (k : Int) + 200) M') (fun _ _ h => h)) ?_
  intro b MM1 fM hM
  exact hR.q hX hM (by omega) (fX 156 1 (by first | omega | exact fun h => h)) (fM 1 14 (by first | omega | exact fun h => h)) (fX 182 2 (by first | omega | exact fun h => h)) (fM 1 45 (by first | omega | exact fun h => h)) (fun j => fX 157 j (by first | omega | exact fun h => h)) (fun j => fM 7 j (by first | omega | exact fun h => h)) (fun j => ⟨fX 183 j (by first | omega | exact fun h => h), fX 184 j (by first | omega | exact fun h => h), fM 26 j (by first | omega | exact fun h => h), fM 27 j (by first | omega | exact fun h => h)⟩) (fun k j q => fX k j (by first | omega | exact fun h => h)) (fun k j q => fM k j (by first | omega | exact fun h => h))
theorem Rk_shares (k : Nat) (MX MM : Mem) (y1 : Int) (hy1 : iR y1) (hk : k < 512) (hMX : MR MX) (hMM : MR MM) (hR : Rel k MX MM) : qX11_shares y1 MX (fun z MX1 => qX12_shares y1 MM (fun b MM1 => Rel (k + 1) MX1 MM1)) := by
  refine fmX11_shares (sX11_shares (p1 := y1) hR.1 (Q := fun _ M' => IX M') (fun _ _ h => h)) ?_
  intro z MX1 fX hX
  refine fmX12_shares (sX12_shares (p1 := y1) hR.2.1 (Q := fun _ M' => IM (60000 * (k : Int)) M') (fun _ _ h => h)) ?_
  intro b MM1 fM hM
  exact hR.q hX hM (by omega) (fX 156 1 (by first | omega | exact fun h => h)) (fM 1 14 (by first | omega | exact fun h => h)) (fX 182 2 (by first | omega | exact fun h => h)) (fM 1 45 (by first | omega | exact fun h => h)) (fun j => fX 157 j (by first | omega | exact fun h => h)) (fun j => fM 7 j (by first | omega | exact fun h => h)) (fun j => ⟨fX 183 j (by first | omega | exact fun h => h), fX 184 j (by first | omega | exact fun h => h), fM 26 j (by first | omega | exact fun h => h), fM 27 j (by first | omega | exact fun h => h)⟩) (fun k j q => fX k j (by first | omega | exact fun h => h)) (fun k j q => fM k j (by first | omega | exact fun h => h))
theorem Rk_strangers (k : Nat) (MX MM : Mem)  (hk : k < 512) (hMX : MR MX) (hMM : MR MM) (hR : Rel k MX MM) : qX11_strangers  MX (fun z MX1 => qX12_strangers  MM (fun b MM1 => Rel (k + 1) MX1 MM1)) := by
  refine fmX11_strangers (sX11_strangers  hR.1 (Q := fun _ M' => IX M') (fun _ _ h => h)) ?_
  intro z MX1 fX hX
  refine fmX12_strangers (sX12_strangers  hR.2.1 (Q := fun _ M' => IM (60000 * (k : Int)) M') (fun _ _ h => h)) ?_
  intro b MM1 fM hM
  exact hR.q hX hM (by omega) (fX 156 1 (by first | omega | exact fun h => h)) (fM 1 14 (by first | omega | exact fun h => h)) (fX 182 2 (by first | omega | exact fun h => h)) (fM 1 45 (by first | omega | exact fun h => h)) (fun j => fX 157 j (by first | omega | exact fun h => h)) (fun j => fM 7 j (by first | omega | exact fun h => h)) (fun j => ⟨fX 183 j (by first | omega | exact fun h => h), fX 184 j (by first | omega | exact fun h => h), fM 26 j (by first | omega | exact fun h => h), fM 27 j (by first | omega | exact fun h => h)⟩) (fun k j q => fX k j (by first | omega | exact fun h => h)) (fun k j q => fM k j (by first | omega | exact fun h => h))
theorem Rk_doubts (k : Nat) (MX MM : Mem)  (hk : k < 512) (hMX : MR MX) (hMM : MR MM) (hR : Rel k MX MM) : qX11_doubts  MX (fun z MX1 => qX12_doubts  MM (fun b MM1 => Rel (k + 1) MX1 MM1)) := by
  refine fmX11_doubts (sX11_doubts  hR.1 (Q := fun _ M' => IX M') (fun _ _ h => h)) ?_
  intro z MX1 fX hX
  refine fmX12_doubts (sX12_doubts  hR.2.1 (Q := fun _ M' => IM (60000 * (k : Int)) M') (fun _ _ h => h)) ?_
  intro b MM1 fM hM
  exact hR.q hX hM (by omega) (fX 156 1 (by first | omega | exact fun h => h)) (fM 1 14 (by first | omega | exact fun h => h)) (fX 182 2 (by first | omega | exact fun h => h)) (fM 1 45 (by first | omega | exact fun h => h)) (fun j => fX 157 j (by first | omega | exact fun h => h)) (fun j => fM 7 j (by first | omega | exact fun h => h)) (fun j => ⟨fX 183 j (by first | omega | exact fun h => h), fX 184 j (by first | omega | exact fun h => h), fM 26 j (by first | omega | exact fun h => h), fM 27 j (by first | omega | exact fun h => h)⟩) (fun k j q => fX k j (by first | omega | exact fun h => h)) (fun k j q => fM k j (by first | omega | exact fun h => h))
theorem Cl_heard (k : Nat) (MX MM : Mem) (y1 y2 : Int) (hy1 : iR y1) (hy2 : iR y2) (hk : k < 512) (hMX : MR MX) (hMM : MR MM) (hR : Rel k MX MM) : qX11_heard y1 y2 MX (fun z MX1 => qX12_heard y1 y2 MM (fun b MM1 => z = b ∧ Rel (k + 1) MX1 MM1)) := by
  refine fmX11_heard (gX11_heardC (p0 := y1) (p1 := y2) hR.1 (Q := fun z M' => IX M' ∧ ((MX 182 2 ≤ 7 ∧ ((y1 = 0 ∨ y1 = 2) ∧ 0 ≤ y2 ∧ y2 ≤ 8 ∨ y1 = 1 ∧ 1 ≤ y2 ∧ y2 ≤ 6 ∨ y1 = 3 ∧ (y2 = 0 ∨ y2 = 1))) ∧ z = MX 182 2 + 1 ∧ M' 182 2 = MX 182 2 + 1 ∧ M' 183 = up (MX 183) (MX 182 2) y1 ∧ M' 184 = up (MX 184) (MX 182 2) y2 ∨ ¬ (MX 182 2 ≤ 7 ∧ ((y1 = 0 ∨ y1 = 2) ∧ 0 ≤ y2 ∧ y2 ≤ 8 ∨ y1 = 1 ∧ 1 ≤ y2 ∧ y2 ≤ 6 ∨ y1 = 3 ∧ (y2 = 0 ∨ y2 = 1))) ∧ z = -1 ∧ M' 182 2 = MX 182 2 ∧ M' 183 = MX 183 ∧ M' 184 = MX 184)) (fun z M' h q => ⟨h, q⟩)) ?_
  intro z MX1 fX hX
  refine fmX12_heard (gX12_heardC (p0 := y1) (p1 := y2) hR.2.1 hy2 (Q := fun z M' => IM (60000 * (k : Int)) M' ∧ ((MM 1 45 ≤ 7 ∧ ((y1 = 0 ∨ y1 = 2) ∧ 0 ≤ y2 ∧ y2 ≤ 8 ∨ y1 = 1 ∧ 1 ≤ y2 ∧ y2 ≤ 6 ∨ y1 = 3 ∧ (y2 = 0 ∨ y2 = 1))) ∧ z = MM 1 45 + 1 ∧ M' 1 45 = MM 1 45 + 1 ∧ M' 26 = up (MM 26) (MM 1 45) y1 ∧ M' 27 = up (MM 27) (MM 1 45) y2 ∨ ¬ (MM 1 45 ≤ 7 ∧ ((y1 = 0 ∨ y1 = 2) ∧ 0 ≤ y2 ∧ y2 ≤ 8 ∨ y1 = 1 ∧ 1 ≤ y2 ∧ y2 ≤ 6 ∨ y1 = 3 ∧ (y2 = 0 ∨ y2 = 1))) ∧ z = -1 ∧ M' 1 45 = MM 1 45 ∧ M' 26 = MM 26 ∧ M' 27 = MM 27)) (fun z M' h q => ⟨h, q⟩)) ?_
  intro b MM1 fM hM
  have e : MX 182 2 = MM 1 45 := hR.2.2.2.1
  have e2 : MX1 156 1 = MM1 1 14 := by rw [fX 156 1 (by omega), fM 1 14 (by omega)]; exact hR.2.2.1
  have eS : STA (cut MM1) MX1 MM1 := by
    rw [cut_of (fun k j c => fM k j (by omega))]
    exact hR.S.fr hR.E0 hR.1 (fun k j q => fX k j (by omega)) (fun k j q => fM k j (by omega))
  obtain ⟨iX, gX⟩ := hX
  obtain ⟨iM, gM⟩ := hM
  have eH : HRD MX1 MM1 := by
    rcases gX with ⟨c, _, n, x3, x4⟩ | ⟨c, _, n, x3, x4⟩
    · rcases gM with ⟨d, _, _, m3, m4⟩ | ⟨d, _, _, m3, m4⟩
      · exact hR.H.add c.2 n e x3 x4 m3 m4
      · exact absurd ⟨by omega, c.2⟩ d
    · rcases gM with ⟨d, _, _, m3, m4⟩ | ⟨d, _, _, m3, m4⟩
      · exact absurd ⟨by omega, d.2⟩ c
      · exact hR.H.fr n (fun j => ⟨by rw [x3], by rw [x4], by rw [m3], by rw [m4]⟩)
  have ez : z = b ∧ MX1 182 2 = MM1 1 45 := by
    rcases gX with ⟨c, q, n, _⟩ | ⟨c, q, n, _⟩
    · rcases gM with ⟨d, q2, n2, _⟩ | ⟨d, q2, n2, _⟩
      · exact ⟨by omega, by omega⟩
      · exact absurd ⟨by omega, c.2⟩ d
    · rcases gM with ⟨d, q2, n2, _⟩ | ⟨d, q2, n2, _⟩
      · exact absurd ⟨by omega, d.2⟩ c
      · exact ⟨by omega, by omega⟩
  exact ⟨ez.1, iX, iM.mono (by omega), e2, ez.2, fun j a q => by rw [fX 157 j (by omega), fM 7 j (by omega)]; exact hR.2.2.2.2.1 j a (by rw [fX 156 1 (by omega)] at q; exact q), eS, hR.F.fr (fun k j q => fM k j (by omega)), eH⟩
theorem Cl_forget (k : Nat) (MX MM : Mem)  (hk : k < 512) (hMX : MR MX) (hMM : MR MM) (hR : Rel k MX MM) : qX11_forget  MX (fun z MX1 => qX12_forget  MM (fun b MM1 => z = b ∧ Rel (k + 1) MX1 MM1)) := by
  refine fmX11_forget (gX11_forget hR.1 (Q := fun z M' => IX M' ∧ z = MX 182 2 ∧ M' 182 2 = 0) (fun z M' h q r => ⟨h, q, r⟩)) ?_
  intro z MX1 fX hX
  refine fmX12_forget (gX12_forget hR.2.1 (Q := fun z M' => IM (60000 * (k : Int)) M' ∧ z = MM 1 45 ∧ M' 1 45 = 0) (fun z M' h q r => ⟨h, q, r⟩)) ?_
  intro b MM1 fM hM
  have e : MX 182 2 = MM 1 45 := hR.2.2.2.1
  have e2 : MX1 156 1 = MM1 1 14 := by rw [fX 156 1 (by omega), fM 1 14 (by omega)]; exact hR.2.2.1
  have eS : STA (cut MM1) MX1 MM1 := by
    rw [cut_of (fun k j c => fM k j (by omega))]
    exact hR.S.fr hR.E0 hR.1 (fun k j q => fX k j (by omega)) (fun k j q => fM k j (by omega))
  exact ⟨by rw [hX.2.1, hM.2.1]; exact e, hX.1, hM.1.mono (by omega), e2, by rw [hX.2.2, hM.2.2], fun j a q => by rw [fX 157 j (by omega), fM 7 j (by omega)]; exact hR.2.2.2.2.1 j a (by rw [fX 156 1 (by omega)] at q; exact q), eS, hR.F.fr (fun k j q => fM k j (by omega)), HRD.nil hX.2.2⟩
theorem Rk_fits (k : Nat) (MX MM : Mem)  (hk : k < 512) (hMX : MR MX) (hMM : MR MM) (hR : Rel k MX MM) : qX11_fits  MX (fun z MX1 => qX12_fits  MM (fun b MM1 => Rel (k + 1) MX1 MM1)) := by
  refine fmX11_fits (sX11_fits  hR.1 (Q := fun _ M' => IX M') (fun _ _ h => h)) ?_
  intro z MX1 fX hX
  refine fmX12_fits (sX12_fits  hR.2.1 (by omega) (Q := fun _ M' => IM (60000 * (k : Int) + 200) M') (fun _ _ h => h)) ?_
  intro b MM1 fM hM
  exact hR.q hX hM (by omega) (fX 156 1 (by first | omega | exact fun h => h)) (fM 1 14 (by first | omega | exact fun h => h)) (fX 182 2 (by first | omega | exact fun h => h)) (fM 1 45 (by first | omega | exact fun h => h)) (fun j => fX 157 j (by first | omega | exact fun h => h)) (fun j => fM 7 j (by first | omega | exact fun h => h)) (fun j => ⟨fX 183 j (by first | omega | exact fun h => h), fX 184 j (by first | omega | exact fun h => h), fM 26 j (by first | omega | exact fun h => h), fM 27 j (by first | omega | exact fun h => h)⟩) (fun k j q => fX k j (by first | omega | exact fun h => h)) (fun k j q => fM k j (by first | omega | exact fun h => h))
theorem Cl_rains (k : Nat) (MX MM : Mem) (y1 y2 y3 : Int) (hy1 : iR y1) (hy2 : iR y2) (hy3 : iR y3) (hk : k < 512) (hMX : MR MX) (hMM : MR MM) (hR : Rel k MX MM) : qX11_rains y1 y2 y3 MX (fun z MX1 => qX12_rains y1 y2 y3 MM (fun b MM1 => z = b ∧ Rel (k + 1) MX1 MM1)) := by
  refine fmX11_rains (gX11_rains (p1 := y1) (p2 := y2) (p3 := y3) hR.1 (Q := fun z M' => IX M' ∧ (z = if (1 ≤ y1 ∧ y1 ≤ 12) ∧ (0 ≤ y2 ∧ y2 ≤ 12) ∧ (0 ≤ y3 ∧ y3 ≤ 10) then 0 else -1)) (fun z M' h q => ⟨h, q⟩)) ?_
  intro z MX1 fX hX
  refine fmX12_rains (sX12_rains (p1 := y1) (p2 := y2) (p3 := y3) hR.2.1 (Q := fun z M' => IM (60000 * (k : Int)) M' ∧ (z = if (1 ≤ y1 ∧ y1 ≤ 12) ∧ (0 ≤ y2 ∧ y2 ≤ 12) ∧ (0 ≤ y3 ∧ y3 ≤ 10) then 0 else -1)) (fun z M' h q => ⟨h, q⟩)) ?_
  intro b MM1 fM hM
  exact ⟨by rw [hX.2, hM.2], hR.q hX.1 hM.1 (by omega) (fX 156 1 (by omega)) (fM 1 14 (by omega)) (fX 182 2 (by omega)) (fM 1 45 (by omega)) (fun j => fX 157 j (by omega)) (fun j => fM 7 j (by omega)) (fun j => ⟨fX 183 j (by omega), fX 184 j (by omega), fM 26 j (by omega), fM 27 j (by omega)⟩) (fun k j q => fX k j (by omega)) (fun k j q => fM k j (by omega))⟩
theorem Rk_law (k : Nat) (MX MM : Mem)  (hk : k < 512) (hMX : MR MX) (hMM : MR MM) (hR : Rel k MX MM) : qX11_law  MX (fun z MX1 => qX12_law  MM (fun b MM1 => Rel (k + 1) MX1 MM1)) := by
  have S := hR.S
  refine fmX11_law (fzX11_law (keX11_law hR.1 (Q := fun z M' => IX M' ∧ M' 155 16 = MX 155 16 ∧ ∀ (k : Nat) (j : Int), (MX 155 16).toNat ≤ k → k ≤ (MX 155 16).toNat + 2 → M' k j = MX k j) (fun z M' i a c => ⟨i, a, c⟩)) (Q' := fun z M' => M' 156 1 = 0 ∧ IX M' ∧ M' 155 16 = MX 155 16 ∧ ∀ (k : Nat) (j : Int), (MX 155 16).toNat ≤ k → k ≤ (MX 155 16).toNat + 2 → M' k j = MX k j) (fun _ M' z h => ⟨z, h⟩)) ?_
  intro z MX1 fX hX
  obtain ⟨lX, iX, x0, x1⟩ := hX
  refine fmX12_law (fzX12_law (keX12_law hR.2.1 (by omega) (Q := fun z M' => IM (60000 * (k : Int) + 400) M' ∧ M' 1 24 = MM 1 24 ∧ ∀ j, 0 ≤ j → j < MM 1 24 → M' 11 j = MM 11 j) (fun z M' i a c => ⟨i, a, c⟩)) (Q' := fun z M' => M' 1 14 = 0 ∧ IM (60000 * (k : Int) + 400) M' ∧ M' 1 24 = MM 1 24 ∧ ∀ j, 0 ≤ j → j < MM 1 24 → M' 11 j = MM 11 j) (fun _ M' z h => ⟨z, h⟩)) ?_
  intro b MM1 fM hM
  obtain ⟨lM, iM, m0, m1⟩ := hM
  refine hR.t iX iM (by omega) lX lM (fX 182 2 (by omega)) (fM 1 45 (by omega)) (fun j => ⟨fX 183 j (by omega), fX 184 j (by omega), fM 26 j (by omega), fM 27 j (by omega)⟩) (hR.F.fr (fun k j q => fM k j (by omega))) ?_
  refine S.rule hR.E0 hR.1 (fun k j h1 h2 => ?_) (fun k j h => fX k j (by omega)) ?_ (fun k j h => fM k j (by omega))
  · by_cases h : cE k j
    · rw [cut_p h, cut_p h]
      exact fM k j (by omega)
    · unfold cut
      rw [if_neg h, if_neg h]
  · rw [x0]
    refine (S.2.1.fr (x1 _ _ (by omega) (by omega)) (x1 _ _ (by omega) (by omega)) (fun j => x1 _ j (by omega) (by omega)) (fun j => x1 _ j (by omega) (by omega))).ce ?_ (fun j a q => ?_)
    · rw [cut124, cut124]
      exact m0
    · rw [cut124] at q
      rw [cut11, cut11]
      exact m1 j a q
theorem Cl_rests (k : Nat) (MX MM : Mem) (y1 : Int) (hy1 : iR y1) (hk : k < 512) (hMX : MR MX) (hMM : MR MM) (hR : Rel k MX MM) : qX11_rests y1 MX (fun z MX1 => qX12_rests y1 MM (fun b MM1 => z = b ∧ Rel (k + 1) MX1 MM1)) := by
  refine fmX11_rests (gX11_rests (p1 := y1) hR.1 (Q := fun z M' => IX M' ∧ (z = RSF y1)) (fun z M' h q => ⟨h, q⟩)) ?_
  intro z MX1 fX hX
  refine fmX12_rests (gX12_rests (p1 := y1) hR.2.1 (Q := fun z M' => IM (60000 * (k : Int)) M' ∧ (z = RSF y1)) (fun z M' h q => ⟨h, q⟩)) ?_
  intro b MM1 fM hM
  exact ⟨by rw [hX.2, hM.2], hR.q hX.1 hM.1 (by omega) (fX 156 1 (by omega)) (fM 1 14 (by omega)) (fX 182 2 (by omega)) (fM 1 45 (by omega)) (fun j => fX 157 j (by omega)) (fun j => fM 7 j (by omega)) (fun j => ⟨fX 183 j (by omega), fX 184 j (by omega), fM 26 j (by omega), fM 27 j (by omega)⟩) (fun k j q => fX k j (by omega)) (fun k j q => fM k j (by omega))⟩
theorem Rk_years (k : Nat) (MX MM : Mem) (y1 y2 : Int) (hy1 : iR y1) (hy2 : iR y2) (hk : k < 512) (hMX : MR MX) (hMM : MR MM) (hR : Rel k MX MM) : qX11_years y1 y2 MX (fun z MX1 => qX12_years y1 y2 MM (fun b MM1 => Rel (k + 1) MX1 MM1)) := by
  refine fmX11_years (sX11_years (p1 := y1) (p2 := y2) hR.1 (Q := fun _ M' => IX M') (fun _ _ h => h)) ?_
  intro z MX1 fX hX
  refine fmX12_years (sX12_years (p1 := y1) (p2 := y2) hR.2.1 (by omega) (Q := fun _ M' => IM (60000 * (k : Int) + 60) M') (fun _ _ h => h)) ?_
  intro b MM1 fM hM
  exact hR.q hX hM (by omega) (fX 156 1 (by first | omega | exact fun h => h)) (fM 1 14 (by first | omega | exact fun h => h)) (fX 182 2 (by first | omega | exact fun h => h)) (fM 1 45 (by first | omega | exact fun h => h)) (fun j => fX 157 j (by first | omega | exact fun h => h)) (fun j => fM 7 j (by first | omega | exact fun h => h)) (fun j => ⟨fX 183 j (by first | omega | exact fun h => h), fX 184 j (by first | omega | exact fun h => h), fM 26 j (by first | omega | exact fun h => h), fM 27 j (by first | omega | exact fun h => h)⟩) (fun k j q => fX k j (by first | omega | exact fun h => h)) (fun k j q => fM k j (by first | omega | exact fun h => h))
theorem Cl_keep (k : Nat) (MX MM : Mem) (y1 : Int) (hy1 : iR y1) (hk : k < 512) (hMX : MR MX) (hMM : MR MM) (hR : Rel k MX MM) : qX11_keep y1 MX (fun z MX1 => qX12_keep y1 MM (fun b MM1 => z = b ∧ Rel (k + 1) MX1 MM1)) := by
  have S := hR.S
  refine fmX11_keep (gX11_keepC (p1 := y1) hR.1 (Q := fun z M' => IX M' ∧ (0 ≤ y1 ∧ y1 ≤ 2 → z = 1 ∧ Ks (fun k j => (29 + 7 * y1.toNat ≤ k ∧ k ≤ 35 + 7 * y1.toNat) ∨ (k = 166 ∧ j = y1)) MX M' ∧ M' 166 y1 = 1 ∧ (∀ (E : Mem) (r : Int → Int), SC E MX 1 r → SC E M' (29 + 7 * y1.toNat) r) ∧ M' (29 + 7 * y1.toNat) 6 = MX 1 6 ∧ M' (29 + 7 * y1.toNat) 7 = MX 1 7) ∧ (¬ (0 ≤ y1 ∧ y1 ≤ 2) → z = 0 ∧ M' = MX)) (fun c M' i a1 a2 a3 a4 => ⟨i, fun _ => ⟨rfl, a1, a2, a3, a4⟩, fun n => absurd c n⟩) (fun n => ⟨hR.1, fun c => absurd c n, fun _ => ⟨rfl, rfl⟩⟩)) ?_
  intro z MX1 fX hX
  obtain ⟨iX, yX, nX⟩ := hX
  refine fmX12_keep (gX12_keepC (p1 := y1) hR.2.1 (Q := fun z M' => IM (60000 * (k : Int)) M' ∧ (0 ≤ y1 ∧ y1 ≤ 2 → z = 1 ∧ FrJ (fun k j => (k = 31 ∧ 38 * y1 ≤ j ∧ j < 38 * y1 + 38) ∨ (k = 29 ∧ j = y1) ∨ (k = 30 ∧ j = y1) ∨ (k = 1 ∧ j = 0)) MM M' ∧ M' 29 y1 = 1 ∧ M' 30 y1 = MM 1 6 ∧ (∀ j, 0 ≤ j → j < 38 → M' 31 (38 * y1 + j) = MM 5 j)) ∧ (¬ (0 ≤ y1 ∧ y1 ≤ 2) → z = 0 ∧ FrJ (fun k j => k = 1 ∧ j = 0) MM M')) (fun c M' i a1 a2 a3 a4 => ⟨i, fun _ => ⟨rfl, a1, a2, a3, a4⟩, fun n => absurd c n⟩) (fun n M' i a => ⟨i, fun c => absurd c n, fun _ => ⟨rfl, a⟩⟩)) ?_
  intro b MM1 fM hM
  obtain ⟨iM, yM, nM⟩ := hM
  by_cases c : 0 ≤ y1 ∧ y1 ≤ 2
  · obtain ⟨ez, x1, x2, x3, x4⟩ := yX c
    obtain ⟨eb, m1, m2, m3, m4⟩ := yM c
    have hF : FOLS MM1 := hR.F.keep S hR.E0 c m1 m4
    refine ⟨by rw [ez, eb], hR.s iX iM (by omega) (fX 156 1 (by omega)) (fM 1 14 (by omega)) (fX 182 2 (by omega)) (fM 1 45 (by omega)) (fun j => fX 157 j (by omega)) (fun j => fM 7 j (by omega)) (fun j => ⟨fX 183 j (by omega), fX 184 j (by omega), fM 26 j (by omega), fM 27 j (by omega)⟩) (fun k j q => fM k j (by omega)) hF ?_⟩
    exact S.keep (b := 0) hR.E0 hR.1 c x1 x2 x3 x4 m1 m2 m3 m4
  · obtain ⟨ez, x1⟩ := nX c
    obtain ⟨eb, m1⟩ := nM c
    have hF : FOLS MM1 := hR.F.fr (fun k j q => m1 k j (by omega))
    refine ⟨by rw [ez, eb], hR.s iX iM (by omega) (fX 156 1 (by omega)) (fM 1 14 (by omega)) (fX 182 2 (by omega)) (fM 1 45 (by omega)) (fun j => fX 157 j (by omega)) (fun j => fM 7 j (by omega)) (fun j => ⟨fX 183 j (by omega), fX 184 j (by omega), fM 26 j (by omega), fM 27 j (by omega)⟩) (fun k j q => fM k j (by omega)) hF ?_⟩
    exact S.fr hR.E0 hR.1 (fun k j q => by rw [x1]) (fun k j q => m1 k j (by omega))
theorem Cl_again (k : Nat) (MX MM : Mem) (y1 : Int) (hy1 : iR y1) (hk : k < 512) (hMX : MR MX) (hMM : MR MM) (hR : Rel k MX MM) : qX11_again y1 MX (fun z MX1 => qX12_again y1 MM (fun b MM1 => z = b ∧ Rel (k + 1) MX1 MM1)) := by
  have S := hR.S
  have c6 : MX 1 6 = cut MM 1 4 := S.2.2.1.1
  have c7 : MX 1 7 = cut MM 1 5 := S.2.2.1.2.1
  have hc : ((0 ≤ y1 ∧ y1 ≤ 2) ∧ MX 166 y1 ≠ 0 ∧ MX (29 + 7 * y1.toNat) 6 = MX 1 6 ∧ MX (29 + 7 * y1.toNat) 7 = MX 1 7) ↔ ((0 ≤ y1 ∧ y1 ≤ 2) ∧ MM 29 y1 ≠ 0 ∧ MM 30 y1 = MM 1 6) := by
    refine ⟨fun h => ?_, fun h => ?_⟩
    · obtain ⟨k1, k2⟩ := S.2.2.2.2.2 y1 h.1.1 (by have := h.1.2; omega)
      obtain ⟨a1, a2, a3, a4⟩ := k2 h.2.1
      refine ⟨h.1, fun q => h.2.1 (k1.mpr q), ?_⟩
      by_cases c : MM 30 y1 = MM 1 6
      · exact c
      · have := h.2.2
        rcases a4 (by omega) with q | q <;> omega
    · obtain ⟨k1, k2⟩ := S.2.2.2.2.2 y1 h.1.1 (by have := h.1.2; omega)
      have n0 : MX 166 y1 ≠ 0 := fun q => h.2.1 (k1.mp q)
      obtain ⟨a1, a2, a3, a4⟩ := k2 n0
      have s := (a3 h.2.2).1
      exact ⟨h.1, n0, by rw [c6]; exact s.1, by rw [c7]; exact s.2.1⟩
  refine fmX11_again (gX11_again (p1 := y1) hR.1 (Q := fun z M' => IX M' ∧ ((0 ≤ y1 ∧ y1 ≤ 2) ∧ MX 166 y1 ≠ 0 ∧ MX (29 + 7 * y1.toNat) 6 = MX 1 6 ∧ MX (29 + 7 * y1.toNat) 7 = MX 1 7 → z = 1 ∧ Ks (fun k j => (1 ≤ k ∧ k ≤ 7) ∨ (k = 163 ∧ j = 2)) MX M' ∧ M' 163 2 = 0 ∧ (∀ (E : Mem) (r : Int → Int), SC E MX (29 + 7 * y1.toNat) r → SC E M' 1 r)) ∧ (¬ ((0 ≤ y1 ∧ y1 ≤ 2) ∧ MX 166 y1 ≠ 0 ∧ MX (29 + 7 * y1.toNat) 6 = MX 1 6 ∧ MX (29 + 7 * y1.toNat) 7 = MX 1 7) → z = 0 ∧ M' = MX)) (fun c0 c1 c2 c3 M' i a1 a2 a3 => ⟨i, fun _ => ⟨rfl, a1, a2, a3⟩, fun n => absurd ⟨c0, c1, c2, c3⟩ n⟩) (fun n => ⟨hR.1, fun c => absurd c n, fun _ => ⟨rfl, rfl⟩⟩)) ?_
  intro z MX1 fX hX
  obtain ⟨iX, yX, nX⟩ := hX
  refine fmX12_again (gX12_again (p1 := y1) hR.2.1 (Q := fun z M' => IM (60000 * (k : Int)) M' ∧ ((0 ≤ y1 ∧ y1 ≤ 2) ∧ MM 29 y1 ≠ 0 ∧ MM 30 y1 = MM 1 6 → z = 1 ∧ FrJ (fun k j => k = 5 ∨ (k = 1 ∧ (j = 0 ∨ j = 28))) MM M' ∧ M' 1 28 = 0 ∧ (∀ j, 0 ≤ j → j < 38 → M' 5 j = MM 31 (38 * y1 + j))) ∧ (¬ ((0 ≤ y1 ∧ y1 ≤ 2) ∧ MM 29 y1 ≠ 0 ∧ MM 30 y1 = MM 1 6) → z = 0 ∧ FrJ (fun k j => k = 1 ∧ j = 0) MM M')) (fun c0 c1 c2 M' i a1 a2 a3 => ⟨i, fun _ => ⟨rfl, a1, a2, a3⟩, fun n => absurd ⟨c0, c1, c2⟩ n⟩) (fun n M' i a => ⟨i, fun c => absurd c n, fun _ => ⟨rfl, a⟩⟩)) ?_
  intro b MM1 fM hM
  obtain ⟨iM, yM, nM⟩ := hM
  by_cases c : (0 ≤ y1 ∧ y1 ≤ 2) ∧ MM 29 y1 ≠ 0 ∧ MM 30 y1 = MM 1 6
  · obtain ⟨ez, x1, x2, x3⟩ := yX (hc.mpr c)
    obtain ⟨eb, m1, m2, m3⟩ := yM c
    have hF : FOLS MM1 := hR.F.again S hR.E0 c.1 c.2.1 c.2.2 m1 m2 m3
    refine ⟨by rw [ez, eb], hR.s iX iM (by omega) (fX 156 1 (by omega)) (fM 1 14 (by omega)) (fX 182 2 (by omega)) (fM 1 45 (by omega)) (fun j => fX 157 j (by omega)) (fun j => fM 7 j (by omega)) (fun j => ⟨fX 183 j (by omega), fX 184 j (by omega), fM 26 j (by omega), fM 27 j (by omega)⟩) (fun k j q => fM k j (by omega)) hF ?_⟩
    exact S.again (p1 := y1) hR.E0 hR.1 c.1 (hc.mpr c).2.1 c.2.2 x1 x2 x3 m1 m2 m3
  · obtain ⟨ez, x1⟩ := nX (fun q => c (hc.mp q))
    obtain ⟨eb, m1⟩ := nM c
    have hF : FOLS MM1 := hR.F.fr (fun k j q => m1 k j (by omega))
    refine ⟨by rw [ez, eb], hR.s iX iM (by omega) (fX 156 1 (by omega)) (fM 1 14 (by omega)) (fX 182 2 (by omega)) (fM 1 45 (by omega)) (fun j => fX 157 j (by omega)) (fun j => fM 7 j (by omega)) (fun j => ⟨fX 183 j (by omega), fX 184 j (by omega), fM 26 j (by omega), fM 27 j (by omega)⟩) (fun k j q => fM k j (by omega)) hF ?_⟩
    exact S.fr hR.E0 hR.1 (fun k j q => by rw [x1]) (fun k j q => m1 k j (by omega))
theorem Rk_count (k : Nat) (MX MM : Mem) (y1 : Int) (hy1 : iR y1) (hk : k < 512) (hMX : MR MX) (hMM : MR MM) (hR : Rel k MX MM) : qX11_count y1 MX (fun z MX1 => qX12_count y1 MM (fun b MM1 => Rel (k + 1) MX1 MM1)) := by
  refine fmX11_count (sX11_count (p1 := y1) hR.1 (Q := fun _ M' => IX M') (fun _ => hR.1)) ?_
  intro z MX1 fX hX
  refine fmX12_count (sX12_count (p1 := y1) hR.2.1 (Q := fun _ M' => IM (60000 * (k : Int)) M') (fun _ _ h => h)) ?_
  intro b MM1 fM hM
  exact hR.q hX hM (by omega) (fX 156 1 (by first | omega | exact fun h => h)) (fM 1 14 (by first | omega | exact fun h => h)) (fX 182 2 (by first | omega | exact fun h => h)) (fM 1 45 (by first | omega | exact fun h => h)) (fun j => fX 157 j (by first | omega | exact fun h => h)) (fun j => fM 7 j (by first | omega | exact fun h => h)) (fun j => ⟨fX 183 j (by first | omega | exact fun h => h), fX 184 j (by first | omega | exact fun h => h), fM 26 j (by first | omega | exact fun h => h), fM 27 j (by first | omega | exact fun h => h)⟩) (fun k j q => fX k j (by first | omega | exact fun h => h)) (fun k j q => fM k j (by first | omega | exact fun h => h))
theorem Rk_row (k : Nat) (MX MM : Mem) (y1 : Int) (hy1 : iR y1) (hk : k < 512) (hMX : MR MX) (hMM : MR MM) (hR : Rel k MX MM) : qX11_row y1 MX (fun z MX1 => qX12_row y1 MM (fun b MM1 => Rel (k + 1) MX1 MM1)) (fun MX1 => qX12_row y1 MM (fun b MM1 => Rel (k + 1) MX1 MM1)) := by
  refine fmX11_row (sX11_row (p1 := y1) hR.1 (Q := fun _ M' => IX M') (E := fun M' => IX M') (fun _ _ h => h) (fun _ h => h)) ?_ ?_
  · intro z MX1 fX hX
    refine fmX12_row (sX12_row (p1 := y1) hR.2.1 (Q := fun _ M' => IM (60000 * (k : Int)) M') (fun _ _ h => h)) ?_
    intro b MM1 fM hM
    exact hR.q hX hM (by omega) (fX 156 1 (by first | omega | exact fun h => h)) (fM 1 14 (by first | omega | exact fun h => h)) (fX 182 2 (by first | omega | exact fun h => h)) (fM 1 45 (by first | omega | exact fun h => h)) (fun j => fX 157 j (by first | omega | exact fun h => h)) (fun j => fM 7 j (by first | omega | exact fun h => h)) (fun j => ⟨fX 183 j (by first | omega | exact fun h => h), fX 184 j (by first | omega | exact fun h => h), fM 26 j (by first | omega | exact fun h => h), fM 27 j (by first | omega | exact fun h => h)⟩) (fun k j q => fX k j (by first | omega | exact fun h => h)) (fun k j q => fM k j (by first | omega | exact fun h => h))
  · intro MX1 fX hX
    refine fmX12_row (sX12_row (p1 := y1) hR.2.1 (Q := fun _ M' => IM (60000 * (k : Int)) M') (fun _ _ h => h)) ?_
    intro b MM1 fM hM
    exact hR.q hX hM (by omega) (fX 156 1 (by first | omega | exact fun h => h)) (fM 1 14 (by first | omega | exact fun h => h)) (fX 182 2 (by first | omega | exact fun h => h)) (fM 1 45 (by first | omega | exact fun h => h)) (fun j => fX 157 j (by first | omega | exact fun h => h)) (fun j => fM 7 j (by first | omega | exact fun h => h)) (fun j => ⟨fX 183 j (by first | omega | exact fun h => h), fX 184 j (by first | omega | exact fun h => h), fM 26 j (by first | omega | exact fun h => h), fM 27 j (by first | omega | exact fun h => h)⟩) (fun k j q => fX k j (by first | omega | exact fun h => h)) (fun k j q => fM k j (by first | omega | exact fun h => h))
end
section
theorem Rl_sign (k : Nat) (MX MM : Mem) (y1 : Int) (hy1 : iR y1) (hk : k < 512) (hMX : MR MX) (hMM : MR MM) (hR : Rel k MX MM) : qX11_sign y1 MX (fun z MX1 => qX12_sign y1 MM (fun b MM1 => Rel (k + 1) MX1 MM1)) :=
  fmX11_sign (Cl_sign k MX MM y1 hy1 hk hMX hMM hR) (fun _ _ _ h => fmX12_sign h (fun _ _ _ h2 => h2.2))
theorem Rl_end (k : Nat) (MX MM : Mem) (y1 : Int) (hy1 : iR y1) (hk : k < 512) (hMX : MR MX) (hMM : MR MM) (hR : Rel k MX MM) : qX11_end y1 MX (fun z MX1 => qX12_end y1 MM (fun b MM1 => Rel (k + 1) MX1 MM1)) :=
  fmX11_end (Cl_end k MX MM y1 hy1 hk hMX hMM hR) (fun _ _ _ h => fmX12_end h (fun _ _ _ h2 => h2.2))
theorem Rl_avenue (k : Nat) (MX MM : Mem)  (hk : k < 512) (hMX : MR MX) (hMM : MR MM) (hR : Rel k MX MM) : qX11_avenue  MX (fun z MX1 => qX12_avenue  MM (fun b MM1 => Rel (k + 1) MX1 MM1)) :=
  fmX11_avenue (Cl_avenue k MX MM   hk hMX hMM hR) (fun _ _ _ h => fmX12_avenue h (fun _ _ _ h2 => h2.2))
theorem Rl_hearses (k : Nat) (MX MM : Mem)  (hk : k < 512) (hMX : MR MX) (hMM : MR MM) (hR : Rel k MX MM) : qX11_hearses  MX (fun z MX1 => qX12_hearses  MM (fun b MM1 => Rel (k + 1) MX1 MM1)) :=
  fmX11_hearses (Cl_hearses k MX MM   hk hMX hMM hR) (fun _ _ _ h => fmX12_hearses h (fun _ _ _ h2 => h2.2))
theorem Rl_mourners (k : Nat) (MX MM : Mem)  (hk : k < 512) (hMX : MR MX) (hMM : MR MM) (hR : Rel k MX MM) : qX11_mourners  MX (fun z MX1 => qX12_mourners  MM (fun b MM1 => Rel (k + 1) MX1 MM1)) :=
  fmX11_mourners (Cl_mourners k MX MM   hk hMX hMM hR) (fun _ _ _ h => fmX12_mourners h (fun _ _ _ h2 => h2.2))
theorem Rl_weather (k : Nat) (MX MM : Mem)  (hk : k < 512) (hMX : MR MX) (hMM : MR MM) (hR : Rel k MX MM) : qX11_weather  MX (fun z MX1 => qX12_weather  MM (fun b MM1 => Rel (k + 1) MX1 MM1)) :=
  fmX11_weather (Cl_weather k MX MM   hk hMX hMM hR) (fun _ _ _ h => fmX12_weather h (fun _ _ _ h2 => h2.2))
theorem Rl_rule (k : Nat) (MX MM : Mem)  (hk : k < 512) (hMX : MR MX) (hMM : MR MM) (hR : Rel k MX MM) : qX11_rule  MX (fun z MX1 => qX12_rule  MM (fun b MM1 => Rel (k + 1) MX1 MM1)) :=
  fmX11_rule (Cl_rule k MX MM   hk hMX hMM hR) (fun _ _ _ h => fmX12_rule h (fun _ _ _ h2 => h2.2))
theorem Rl_hearse (k : Nat) (MX MM : Mem) (y1 y2 : Int) (hy1 : iR y1) (hy2 : iR y2) (hk : k < 512) (hMX : MR MX) (hMM : MR MM) (hR : Rel k MX MM) : qX11_hearse y1 y2 MX (fun z MX1 => qX12_hearse y1 y2 MM (fun b MM1 => Rel (k + 1) MX1 MM1)) (fun MX1 => qX12_hearse y1 y2 MM (fun b MM1 => Rel (k + 1) MX1 MM1)) :=
  Rk_hearse k MX MM y1 y2 hy1 hy2 hk hMX hMM hR
theorem Rl_mourner (k : Nat) (MX MM : Mem) (y1 y2 : Int) (hy1 : iR y1) (hy2 : iR y2) (hk : k < 512) (hMX : MR MX) (hMM : MR MM) (hR : Rel k MX MM) : qX11_mourner y1 y2 MX (fun z MX1 => qX12_mourner y1 y2 MM (fun b MM1 => Rel (k + 1) MX1 MM1)) (fun MX1 => qX12_mourner y1 y2 MM (fun b MM1 => Rel (k + 1) MX1 MM1)) :=
  Rk_mourner k MX MM y1 y2 hy1 hy2 hk hMX hMM hR
theorem Rl_sheet (k : Nat) (MX MM : Mem) (y1 y2 y3 y4 : Int) (hy1 : iR y1) (hy2 : iR y2) (hy3 : iR y3) (hy4 : iR y4) (hk : k < 512) (hMX : MR MX) (hMM : MR MM) (hR : Rel k MX MM) : qX11_sheet y1 y2 y3 y4 MX (fun z MX1 => qX12_sheet y1 y2 y3 y4 MM (fun b MM1 => Rel (k + 1) MX1 MM1)) :=
  fmX11_sheet (Cl_sheet k MX MM y1 y2 y3 y4 hy1 hy2 hy3 hy4 hk hMX hMM hR) (fun _ _ _ h => fmX12_sheet h (fun _ _ _ h2 => h2.2))
theorem Rl_steps (k : Nat) (MX MM : Mem) (y1 : Int) (hy1 : iR y1) (hk : k < 512) (hMX : MR MX) (hMM : MR MM) (hR : Rel k MX MM) : qX11_steps y1 MX (fun z MX1 => qX12_steps y1 MM (fun b MM1 => Rel (k + 1) MX1 MM1)) :=
  fmX11_steps (Cl_steps k MX MM y1 hy1 hk hMX hMM hR) (fun _ _ _ h => fmX12_steps h (fun _ _ _ h2 => h2.2))
theorem Rl_turnsTo (k : Nat) (MX MM : Mem) (y1 : Int) (hy1 : iR y1) (hk : k < 512) (hMX : MR MX) (hMM : MR MM) (hR : Rel k MX MM) : qX11_turnsTo y1 MX (fun z MX1 => qX12_turnsTo y1 MM (fun b MM1 => Rel (k + 1) MX1 MM1)) :=
  fmX11_turnsTo (Cl_turnsTo k MX MM y1 hy1 hk hMX hMM hR) (fun _ _ _ h => fmX12_turnsTo h (fun _ _ _ h2 => h2.2))
theorem Rl_pushes (k : Nat) (MX MM : Mem) (y1 y2 : Int) (hy1 : iR y1) (hy2 : iR y2) (hk : k < 512) (hMX : MR MX) (hMM : MR MM) (hR : Rel k MX MM) : qX11_pushes y1 y2 MX (fun z MX1 => qX12_pushes y1 y2 MM (fun b MM1 => Rel (k + 1) MX1 MM1)) :=
  fmX11_pushes (Cl_pushes k MX MM y1 y2 hy1 hy2 hk hMX hMM hR) (fun _ _ _ h => fmX12_pushes h (fun _ _ _ h2 => h2.2))
theorem Rl_swaps (k : Nat) (MX MM : Mem) (y1 y2 : Int) (hy1 : iR y1) (hy2 : iR y2) (hk : k < 512) (hMX : MR MX) (hMM : MR MM) (hR : Rel k MX MM) : qX11_swaps y1 y2 MX (fun z MX1 => qX12_swaps y1 y2 MM (fun b MM1 => Rel (k + 1) MX1 MM1)) :=
  fmX11_swaps (Cl_swaps k MX MM y1 y2 hy1 hy2 hk hMX hMM hR) (fun _ _ _ h => fmX12_swaps h (fun _ _ _ h2 => h2.2))
theorem Rl_hour (k : Nat) (MX MM : Mem)  (hk : k < 512) (hMX : MR MX) (hMM : MR MM) (hR : Rel k MX MM) : qX11_hour  MX (fun z MX1 => qX12_hour  MM (fun b MM1 => Rel (k + 1) MX1 MM1)) :=
  fmX11_hour (Cl_hour k MX MM   hk hMX hMM hR) (fun _ _ _ h => fmX12_hour h (fun _ _ _ h2 => h2.2))
theorem Rl_undo (k : Nat) (MX MM : Mem)  (hk : k < 512) (hMX : MR MX) (hMM : MR MM) (hR : Rel k MX MM) : qX11_undo  MX (fun z MX1 => qX12_undo  MM (fun b MM1 => Rel (k + 1) MX1 MM1)) :=
  fmX11_undo (Cl_undo k MX MM   hk hMX hMM hR) (fun _ _ _ h => fmX12_undo h (fun _ _ _ h2 => h2.2))
theorem Rl_line (k : Nat) (MX MM : Mem)  (hk : k < 512) (hMX : MR MX) (hMM : MR MM) (hR : Rel k MX MM) : qX11_line  MX (fun z MX1 => qX12_line  MM (fun b MM1 => Rel (k + 1) MX1 MM1)) :=
  Rk_line k MX MM   hk hMX hMM hR
theorem Rl_ahead (k : Nat) (MX MM : Mem) (y1 : Int) (hy1 : iR y1) (hk : k < 512) (hMX : MR MX) (hMM : MR MM) (hR : Rel k MX MM) : qX11_ahead y1 MX (fun z MX1 => qX12_ahead y1 MM (fun b MM1 => Rel (k + 1) MX1 MM1)) :=
  Rk_ahead k MX MM y1 hy1 hk hMX hMM hR
theorem Rl_arrives (k : Nat) (MX MM : Mem) (y1 : Int) (hy1 : iR y1) (hk : k < 512) (hMX : MR MX) (hMM : MR MM) (hR : Rel k MX MM) : qX11_arrives y1 MX (fun z MX1 => qX12_arrives y1 MM (fun b MM1 => Rel (k + 1) MX1 MM1)) :=
  Rk_arrives k MX MM y1 hy1 hk hMX hMM hR
theorem Rl_jam (k : Nat) (MX MM : Mem) (y1 : Int) (hy1 : iR y1) (hk : k < 512) (hMX : MR MX) (hMM : MR MM) (hR : Rel k MX MM) : qX11_jam y1 MX (fun z MX1 => qX12_jam y1 MM (fun b MM1 => Rel (k + 1) MX1 MM1)) :=
  Rk_jam k MX MM y1 hy1 hk hMX hMM hR
theorem Rl_passes (k : Nat) (MX MM : Mem) (y1 y2 : Int) (hy1 : iR y1) (hy2 : iR y2) (hk : k < 512) (hMX : MR MX) (hMM : MR MM) (hR : Rel k MX MM) : qX11_passes y1 y2 MX (fun z MX1 => qX12_passes y1 y2 MM (fun b MM1 => Rel (k + 1) MX1 MM1)) :=
  Rk_passes k MX MM y1 y2 hy1 hy2 hk hMX hMM hR
theorem Rl_ends (k : Nat) (MX MM : Mem) (y1 : Int) (hy1 : iR y1) (hk : k < 512) (hMX : MR MX) (hMM : MR MM) (hR : Rel k MX MM) : qX11_ends y1 MX (fun z MX1 => qX12_ends y1 MM (fun b MM1 => Rel (k + 1) MX1 MM1)) :=
  Rk_ends k MX MM y1 hy1 hk hMX hMM hR
theorem Rl_right (k : Nat) (MX MM : Mem)  (hk : k < 512) (hMX : MR MX) (hMM : MR MM) (hR : Rel k MX MM) : qX11_right  MX (fun z MX1 => qX12_right  MM (fun b MM1 => Rel (k + 1) MX1 MM1)) :=
  Rk_right k MX MM   hk hMX hMM hR
theorem Rl_order (k : Nat) (MX MM : Mem)  (hk : k < 512) (hMX : MR MX) (hMM : MR MM) (hR : Rel k MX MM) : qX11_order  MX (fun z MX1 => qX12_order  MM (fun b MM1 => Rel (k + 1) MX1 MM1)) :=
  Rk_order k MX MM   hk hMX hMM hR
theorem Rl_stands (k : Nat) (MX MM : Mem) (y1 : Int) (hy1 : iR y1) (hk : k < 512) (hMX : MR MX) (hMM : MR MM) (hR : Rel k MX MM) : qX11_stands y1 MX (fun z MX1 => qX12_stands y1 MM (fun b MM1 => Rel (k + 1) MX1 MM1)) :=
  Rk_stands k MX MM y1 hy1 hk hMX hMM hR
theorem Rl_when (k : Nat) (MX MM : Mem) (y1 : Int) (hy1 : iR y1) (hk : k < 512) (hMX : MR MX) (hMM : MR MM) (hR : Rel k MX MM) : qX11_when y1 MX (fun z MX1 => qX12_when y1 MM (fun b MM1 => Rel (k + 1) MX1 MM1)) :=
  Rk_when k MX MM y1 hy1 hk hMX hMM hR
theorem Rl_mends (k : Nat) (MX MM : Mem) (y1 : Int) (hy1 : iR y1) (hk : k < 512) (hMX : MR MX) (hMM : MR MM) (hR : Rel k MX MM) : qX11_mends y1 MX (fun z MX1 => qX12_mends y1 MM (fun b MM1 => Rel (k + 1) MX1 MM1)) :=
  Rk_mends k MX MM y1 hy1 hk hMX hMM hR
theorem Rl_misleads (k : Nat) (MX MM : Mem)  (hk : k < 512) (hMX : MR MX) (hMM : MR MM) (hR : Rel k MX MM) : qX11_misleads  MX (fun z MX1 => qX12_misleads  MM (fun b MM1 => Rel (k + 1) MX1 MM1)) :=
  Rk_misleads k MX MM   hk hMX hMM hR
theorem Rl_crowd (k : Nat) (MX MM : Mem)  (hk : k < 512) (hMX : MR MX) (hMM : MR MM) (hR : Rel k MX MM) : qX11_crowd  MX (fun z MX1 => qX12_crowd  MM (fun b MM1 => Rel (k + 1) MX1 MM1)) :=
  Rk_crowd k MX MM   hk hMX hMM hR
theorem Rl_shares (k : Nat) (MX MM : Mem) (y1 : Int) (hy1 : iR y1) (hk : k < 512) (hMX : MR MX) (hMM : MR MM) (hR : Rel k MX MM) : qX11_shares y1 MX (fun z MX1 => qX12_shares y1 MM (fun b MM1 => Rel (k + 1) MX1 MM1)) :=
  Rk_shares k MX MM y1 hy1 hk hMX hMM hR
theorem Rl_strangers (k : Nat) (MX MM : Mem)  (hk : k < 512) (hMX : MR MX) (hMM : MR MM) (hR : Rel k MX MM) : qX11_strangers  MX (fun z MX1 => qX12_strangers  MM (fun b MM1 => Rel (k + 1) MX1 MM1)) :=
  Rk_strangers k MX MM   hk hMX hMM hR
theorem Rl_doubts (k : Nat) (MX MM : Mem)  (hk : k < 512) (hMX : MR MX) (hMM : MR MM) (hR : Rel k MX MM) : qX11_doubts  MX (fun z MX1 => qX12_doubts  MM (fun b MM1 => Rel (k + 1) MX1 MM1)) :=
  Rk_doubts k MX MM   hk hMX hMM hR
theorem Rl_heard (k : Nat) (MX MM : Mem) (y1 y2 : Int) (hy1 : iR y1) (hy2 : iR y2) (hk : k < 512) (hMX : MR MX) (hMM : MR MM) (hR : Rel k MX MM) : qX11_heard y1 y2 MX (fun z MX1 => qX12_heard y1 y2 MM (fun b MM1 => Rel (k + 1) MX1 MM1)) :=
  fmX11_heard (Cl_heard k MX MM y1 y2 hy1 hy2 hk hMX hMM hR) (fun _ _ _ h => fmX12_heard h (fun _ _ _ h2 => h2.2))
theorem Rl_forget (k : Nat) (MX MM : Mem)  (hk : k < 512) (hMX : MR MX) (hMM : MR MM) (hR : Rel k MX MM) : qX11_forget  MX (fun z MX1 => qX12_forget  MM (fun b MM1 => Rel (k + 1) MX1 MM1)) :=
  fmX11_forget (Cl_forget k MX MM   hk hMX hMM hR) (fun _ _ _ h => fmX12_forget h (fun _ _ _ h2 => h2.2))
theorem Rl_fits (k : Nat) (MX MM : Mem)  (hk : k < 512) (hMX : MR MX) (hMM : MR MM) (hR : Rel k MX MM) : qX11_fits  MX (fun z MX1 => qX12_fits  MM (fun b MM1 => Rel (k + 1) MX1 MM1)) :=
  Rk_fits k MX MM   hk hMX hMM hR
theorem Rl_rains (k : Nat) (MX MM : Mem) (y1 y2 y3 : Int) (hy1 : iR y1) (hy2 : iR y2) (hy3 : iR y3) (hk : k < 512) (hMX : MR MX) (hMM : MR MM) (hR : Rel k MX MM) : qX11_rains y1 y2 y3 MX (fun z MX1 => qX12_rains y1 y2 y3 MM (fun b MM1 => Rel (k + 1) MX1 MM1)) :=
  fmX11_rains (Cl_rains k MX MM y1 y2 y3 hy1 hy2 hy3 hk hMX hMM hR) (fun _ _ _ h => fmX12_rains h (fun _ _ _ h2 => h2.2))
theorem Rl_law (k : Nat) (MX MM : Mem)  (hk : k < 512) (hMX : MR MX) (hMM : MR MM) (hR : Rel k MX MM) : qX11_law  MX (fun z MX1 => qX12_law  MM (fun b MM1 => Rel (k + 1) MX1 MM1)) :=
  Rk_law k MX MM   hk hMX hMM hR
theorem Rl_rests (k : Nat) (MX MM : Mem) (y1 : Int) (hy1 : iR y1) (hk : k < 512) (hMX : MR MX) (hMM : MR MM) (hR : Rel k MX MM) : qX11_rests y1 MX (fun z MX1 => qX12_rests y1 MM (fun b MM1 => Rel (k + 1) MX1 MM1)) :=
  fmX11_rests (Cl_rests k MX MM y1 hy1 hk hMX hMM hR) (fun _ _ _ h => fmX12_rests h (fun _ _ _ h2 => h2.2))
theorem Rl_years (k : Nat) (MX MM : Mem) (y1 y2 : Int) (hy1 : iR y1) (hy2 : iR y2) (hk : k < 512) (hMX : MR MX) (hMM : MR MM) (hR : Rel k MX MM) : qX11_years y1 y2 MX (fun z MX1 => qX12_years y1 y2 MM (fun b MM1 => Rel (k + 1) MX1 MM1)) :=
  Rk_years k MX MM y1 y2 hy1 hy2 hk hMX hMM hR
theorem Rl_keep (k : Nat) (MX MM : Mem) (y1 : Int) (hy1 : iR y1) (hk : k < 512) (hMX : MR MX) (hMM : MR MM) (hR : Rel k MX MM) : qX11_keep y1 MX (fun z MX1 => qX12_keep y1 MM (fun b MM1 => Rel (k + 1) MX1 MM1)) :=
  fmX11_keep (Cl_keep k MX MM y1 hy1 hk hMX hMM hR) (fun _ _ _ h => fmX12_keep h (fun _ _ _ h2 => h2.2))
theorem Rl_again (k : Nat) (MX MM : Mem) (y1 : Int) (hy1 : iR y1) (hk : k < 512) (hMX : MR MX) (hMM : MR MM) (hR : Rel k MX MM) : qX11_again y1 MX (fun z MX1 => qX12_again y1 MM (fun b MM1 => z = b ∧ Rel (k + 1) MX1 MM1)) :=
  Cl_again k MX MM y1 hy1 hk hMX hMM hR
theorem Rl_count (k : Nat) (MX MM : Mem) (y1 : Int) (hy1 : iR y1) (hk : k < 512) (hMX : MR MX) (hMM : MR MM) (hR : Rel k MX MM) : qX11_count y1 MX (fun z MX1 => qX12_count y1 MM (fun b MM1 => Rel (k + 1) MX1 MM1)) :=
  Rk_count k MX MM y1 hy1 hk hMX hMM hR
theorem Rl_row (k : Nat) (MX MM : Mem) (y1 : Int) (hy1 : iR y1) (hk : k < 512) (hMX : MR MX) (hMM : MR MM) (hR : Rel k MX MM) : qX11_row y1 MX (fun z MX1 => qX12_row y1 MM (fun b MM1 => Rel (k + 1) MX1 MM1)) (fun MX1 => qX12_row y1 MM (fun b MM1 => Rel (k + 1) MX1 MM1)) :=
  Rk_row k MX MM y1 hy1 hk hMX hMM hR
theorem BM_0 {k : Nat} {j : Int} (h : ¬ (k = 1 ∧ j = 3)) (h2 : ¬ (k = 1 ∧ j = 7)) : BM 0 k j 0 := by
  by_cases c : k = 5 ∨ k = 6
  · exact (bm_n c).mpr ⟨by omega, by omega, by omega, by omega⟩
  by_cases c15 : k = 15
  · subst c15; exact bm_c15.mpr ⟨by omega, by omega, by omega, by omega⟩
  by_cases c31 : k = 31
  · subst c31; exact bm_c31.mpr ⟨by omega, by omega, by omega, by omega⟩
  by_cases c1 : k = 1
  · subst c1
    by_cases d1 : j = 1
    · subst d1; exact bm_c1_1.mpr (by decide)
    by_cases d3 : j = 3
    · exact absurd ⟨rfl, d3⟩ h
    by_cases d4 : j = 4
    · subst d4; exact bm_c1_4.mpr (by decide)
    by_cases d5 : j = 5
    · subst d5; exact bm_c1_5.mpr (by decide)
    by_cases d6 : j = 6
    · subst d6; exact bm_c1_6.mpr (by decide)
    by_cases d7 : j = 7
    · exact absurd ⟨rfl, d7⟩ h2
    by_cases d14 : j = 14
    · subst d14; exact bm_c1_14.mpr (by decide)
    by_cases d15 : j = 15
    · subst d15; exact bm_c1_15.mpr (by decide)
    by_cases d16 : j = 16
    · subst d16; exact bm_c1_16.mpr (by decide)
    by_cases d20 : j = 20
    · subst d20; exact bm_c1_20.mpr (by decide)
    by_cases d24 : j = 24
    · subst d24; exact bm_c1_24.mpr (by decide)
    by_cases d25 : j = 25
    · subst d25; exact bm_c1_25.mpr (by decide)
    by_cases d28 : j = 28
    · subst d28; exact bm_c1_28.mpr (by decide)
    by_cases d35 : j = 35
    · subst d35; exact bm_c1_35.mpr (by decide)
    by_cases d39 : j = 39
    · subst d39; exact bm_c1_39.mpr (by decide)
    by_cases d45 : j = 45
    · subst d45; exact bm_c1_45.mpr (by decide)
    simp [BM, d1, d3, d4, d5, d6, d7, d14, d15, d16, d20, d24, d25, d28, d35, d39, d45]
  by_cases c3 : k = 3
  · subst c3; exact bm_c3.mpr (by decide)
  by_cases c7 : k = 7
  · subst c7; exact bm_c7.mpr (by decide)
  by_cases c8 : k = 8
  · subst c8; exact bm_c8.mpr (by decide)
  by_cases c9 : k = 9
  · subst c9; exact bm_c9.mpr (by decide)
  by_cases c18 : k = 18
  · subst c18; exact bm_c18.mpr (by decide)
  by_cases c20 : k = 20
  · subst c20; exact bm_c20.mpr (by decide)
  by_cases c21 : k = 21
  · subst c21; exact bm_c21.mpr (by decide)
  by_cases c22 : k = 22
  · subst c22; exact bm_c22.mpr (by decide)
  unfold BM
  rw [if_neg c, if_neg (by omega)]
  simp [c1, c3, c7, c8, c9, c18, c20, c21, c22]
theorem BX_0 {k : Nat} {j : Int} (h : ¬ (k = 158 ∧ j = 1)) : BX k j 0 := by
  by_cases h0 : k = 0
  · simp [BX, h0]
  by_cases h155 : k < 155
  · unfold BX
    rw [if_neg h0, if_pos h155]
    by_cases r0 : (k - 1) % 7 = 0
    · rw [if_pos r0]
      by_cases d6 : j = 6
      · rw [if_pos d6]; decide
      · rw [if_neg d6]
        by_cases d7 : j = 7
        · rw [if_pos d7]; decide
        · rw [if_neg d7]; trivial
    · rw [if_neg r0]
      by_cases r1 : (k - 1) % 7 = 1
      · rw [if_pos r1]; decide
      · rw [if_neg r1]
        by_cases r3 : (k - 1) % 7 = 3
        · rw [if_pos r3]; decide
        · rw [if_neg r3]
          by_cases r4 : (k - 1) % 7 = 4
          · rw [if_pos r4]; decide
          · rw [if_neg r4]
            by_cases r5 : (k - 1) % 7 = 5
            · rw [if_pos r5]; decide
            · rw [if_neg r5]; trivial
  by_cases c156 : k = 156
  · subst c156
    by_cases d1 : j = 1
    · subst d1; exact bx_c156_1.mpr (by decide)
    by_cases d2 : j = 2
    · subst d2; exact bx_c156_2.mpr (by decide)
    by_cases d3 : j = 3
    · subst d3; exact bx_c156_3.mpr (by decide)
    simp [BX, d1, d2, d3]
  by_cases c157 : k = 157
  · subst c157; exact bx_c157.mpr (by decide)
  by_cases c158 : k = 158
  · subst c158
    by_cases d1 : j = 1
    · exact absurd ⟨rfl, d1⟩ h
    by_cases d3 : j = 3
    · subst d3; exact bx_c158_3.mpr (by decide)
    simp [BX, d1, d3]
  by_cases c163 : k = 163
  · subst c163
    by_cases d1 : j = 1
    · subst d1; exact bx_c163_1.mpr (by decide)
    by_cases d2 : j = 2
    · subst d2; exact bx_c163_2.mpr (by decide)
    simp [BX, d1, d2]
  by_cases c167 : k = 167
  · subst c167
    by_cases d1 : j = 1
    · subst d1; exact bx_c167_1.mpr (by decide)
    simp [BX, d1]
  by_cases c168 : k = 168
  · subst c168
    by_cases d1 : j = 1
    · subst d1; exact bx_c168_1.mpr (by decide)
    simp [BX, d1]
  by_cases c179 : k = 179
  · subst c179
    by_cases d2 : j = 2
    · subst d2; exact bx_c179_2.mpr (by decide)
    simp [BX, d2]
  by_cases c180 : k = 180
  · subst c180; exact bx_c180.mpr (by decide)
  by_cases c182 : k = 182
  · subst c182
    by_cases d2 : j = 2
    · subst d2; exact bx_c182_2.mpr (by decide)
    simp [BX, d2]
  by_cases c185 : k = 185
  · subst c185
    by_cases d1 : j = 1
    · subst d1; exact bx_c185_1.mpr (by decide)
    by_cases d2 : j = 2
    · subst d2; exact bx_c185_2.mpr (by decide)
    simp [BX, d1, d2]
  by_cases cl : k = 187 ∨ k = 192
  · by_cases d4 : j = 4
    · subst d4; exact (bx_l4 cl).mpr (by decide)
    · exact bx_lf0 cl d4
  by_cases cr : 170 ≤ k ∧ k ≤ 178
  · have e : k = 170 + ((k : Int) - 170).toNat := by omega
    rw [e]
    exact (bx_sh (e := (k : Int) - 170) (by omega) (by omega)).mpr ⟨by omega, by omega⟩
  unfold BX
  rw [if_neg h0, if_neg h155]
  simp only [if_neg cl, if_neg cr, if_neg c156, if_neg c157, if_neg c158, if_neg c163, if_neg c167, if_neg c168, if_neg c179, if_neg c180, if_neg c182, if_neg c185]
theorem IX_MX0 : IX MX0 := by
  refine ⟨fun k j => ?_, Or.inl ⟨by simp [MX0], by simp [MX0]⟩, fun k j hk he => ?_⟩
  · unfold MX0
    split
    · rename_i c; rw [c.1, c.2]; exact bx_c158_1.mpr (by decide)
    · rename_i c1
      split
      · rename_i c; rw [c.1, c.2]; exact bx_c158_3.mpr (by decide)
      · split
        · rename_i c; rw [c.1, c.2]; simp [BX]
        · split
          · rename_i c; rw [c.1, c.2]; simp [BX]
          · split
            · rename_i c; rw [c.1, c.2]; simp [BX]
            · exact BX_0 c1
  · exfalso
    have : MX0 (k + 1) j = 0 := by
      unfold MX0
      rcases hk with rfl | rfl <;> simp
    omega
theorem IM_MM0 : IM 0 MM0 := by
  refine ⟨fun k j => ?_, ?_⟩
  · unfold MM0
    split
    · rename_i c; rw [c.1, c.2]; exact bm_c1_3.mpr (by decide)
    · rename_i c1
      split
      · rename_i c; rw [c.1, c.2]; exact bm_c1_7.mpr (by decide)
      · rename_i c2
        exact BM_0 c1 c2
  · intro j hj
    exfalso
    have : MM0 1 24 = 0 := by simp [MM0]
    omega
theorem Rel_init : qInit (fun MX => Rel 0 MX MM0) := by
  unfold qInit
  refine gX2_plain (k0 := 187) IX_MX0 (Or.inl rfl) ?_
  intro M1 h1 f1 o1
  refine ⟨h1.l17, ?_⟩
  have e17 : (M1 155 17).toNat = 192 := by rw [f1 155 17 (by omega)]; simp [MX0]
  rw [e17]
  refine gX2_plain (k0 := 192) h1 (Or.inr rfl) ?_
  intro M2 h2 f2 _
  have K : ∀ (k : Nat) (j : Int), k < 187 → M2 k j = MX0 k j := fun k j h => by rw [f2 k j (by omega), f1 k j (by omega)]
  have Z : ∀ (k : Nat) (j : Int), k < 155 → M2 k j = 0 := fun k j h => by
    rw [K k j (by omega)]
    unfold MX0
    rw [if_neg (by omega), if_neg (by omega), if_neg (by omega), if_neg (by omega), if_neg (by omega)]
  have Y : ∀ (k : Nat) (j : Int), ¬ (k = 1 ∧ j = 3) → ¬ (k = 1 ∧ j = 7) → MM0 k j = 0 := fun k j h h' => by
    unfold MM0
    rw [if_neg h, if_neg h']
  have C : ∀ (k : Nat) (j : Int), ¬ (k = 1 ∧ j = 3) → ¬ (k = 1 ∧ j = 7) → cut MM0 k j = 0 := fun k j h h' => by
    unfold cut
    split
    · exact Y k j h h'
    · rfl
  have c3 : cut MM0 1 3 = 4 := by rw [cut13]; simp [MM0]
  have c4 : cut MM0 1 4 = 0 := C 1 4 (by omega) (by omega)
  have c5 : cut MM0 1 5 = 0 := C 1 5 (by omega) (by omega)
  have c7 : cut MM0 1 7 = 1 := by rw [cut17]; simp [MM0]
  have e0 : eO (cut MM0) = 0 := by show (cut MM0 1 5).toNat = 0; rw [c5]; rfl
  have eh : eH (cut MM0) = 0 := by show (cut MM0 1 4).toNat = 0; rw [c4]; rfl
  refine ⟨h2, IM_MM0.mono (by omega), ?_, ?_, fun j a q => ?_, ⟨?_, ?_, ?_, ?_, ?_, ?_⟩, FOLS.z (Y 1 5 (by omega) (by omega)), HRD.nil (by rw [K 182 2 (by omega)]; simp [MX0])⟩
  · rw [K 156 1 (by omega)]; simp [MX0, MM0]
  · rw [K 182 2 (by omega)]; simp [MX0, MM0]
  · rw [K 156 1 (by omega)] at q
    simp [MX0] at q
    omega
  · unfold STR
    rw [c3, c4, c5, c7]
    refine ⟨by rw [K 158 1 (by omega)]; simp [MX0], by decide, fun c hc => ?_, by rw [K 158 3 (by omega)]; simp [MX0], by decide, fun j p q => ?_, by decide, by decide, fun m p q => by omega⟩
    · have e2 : M2 158 2 = 0 := by rw [K 158 2 (by omega)]; simp [MX0]
      rw [e2, show iI 0 = (0 : Int32) from rfl, b_0, C 2 c (by omega) (by omega)]
      exact ⟨fun q => absurd q (by decide), fun q => absurd rfl q⟩
    · rw [K 159 j (by omega), C 4 j (by omega) (by omega)]
      unfold MX0
      rw [if_neg (by omega), if_neg (by omega), if_neg (by omega), if_neg (by omega), if_neg (by omega)]
  · have e16 : (M2 155 16).toNat = 187 := by rw [K 155 16 (by omega)]; simp [MX0]
    rw [e16]
    refine Or.inr ⟨C 1 24 (by omega) (by omega), ?_⟩
    have o2 : ROl 187 M2 plO := o1.fr (f2 _ _ (by omega)) (f2 _ _ (by omega)) (funext fun j => f2 _ j (by omega)) (funext fun j => f2 _ j (by omega))
    exact ⟨o2.1, SO_SCd o2.2 SCd_pl⟩
  · unfold SC
    rw [c4, c5, e0]
    refine ⟨Z 1 6 (by omega), Z 1 7 (by omega), fun j p q => ?_, fun j p q => ?_, ?_, fun m p q => ?_, fun m p q => ?_, fun m p q => ?_, fun m p q => ?_, ?_, ?_⟩
    · rw [Z _ _ (by omega), Y 5 _ (by omega) (by omega)]
    · rw [Z _ _ (by omega), Y 5 _ (by omega) (by omega)]
    · rw [Z 1 8 (by omega), Y 5 _ (by omega) (by omega)]
    · rw [Z _ _ (by omega), Y 5 _ (by omega) (by omega)]
    · rw [Z _ _ (by omega), C 3 _ (by omega) (by omega)]
    · rw [Z _ _ (by omega), Y 5 _ (by omega) (by omega)]
    · rw [Z _ _ (by omega), Y 5 _ (by omega) (by omega)]
    · rw [Z 1 10 (by omega), Y 5 _ (by omega) (by omega)]
    · rw [Z 1 9 (by omega)]
      rfl
  · unfold WR
    rw [c4, c5, eh]
    refine ⟨fun i j p q => by omega, fun i p q => by omega, fun i p q => by omega, ?_, ?_⟩
    · rw [Y 5 12 (by omega) (by omega)]
      rfl
    · rw [Y 5 37 (by omega) (by omega)]
      decide
  · exact HIS.nil (by rw [K 163 2 (by omega)]; simp [MX0]) (Y 1 28 (by omega) (by omega))
  · intro i p q
    have x0 : M2 166 i = 0 := by
      rw [K 166 i (by omega)]
      unfold MX0
      rw [if_neg (by omega), if_neg (by omega), if_neg (by omega), if_neg (by omega), if_neg (by omega)]
    exact ⟨⟨fun _ => Y 29 i (by omega) (by omega), fun _ => x0⟩, fun h => absurd x0 h⟩
end
