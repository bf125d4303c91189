/-! QUESTIONS, alike on both sides -/
theorem Cl_line (k : Nat) (MX MM : Mem)  (hk : k < 512) (hMX : MR MX) (hMM : MR MM) (hR : Rel k MX MM) : qX11_line  MX (fun z MX1 => qX12_line  MM (fun b MM1 => z = b ∧ Rel (k + 1) MX1 MM1)) := by
  have S := hR.S
  have r37 := hR.r37 hk
  have h37 : (cr (MM 5) (MM 6)) 37 ≤ 1999999000 := by rw [cr_i (by decide) (by decide)]; omega
  have C := S.2.2.1.cr hR.E0 (g := MM 6)
  have W := S.2.2.2.1.cr hR.E0 (g := MM 6)
  refine fmX11_line (gX11_line (E := cut MM) (r := (MM 5))  hR.1 S.1 S.2.2.1 S.2.2.2.1 (Q := fun z M' => z = liA (cut MM) (MM 5) ∧ IX M') (fun M' i => ⟨rfl, i⟩)) ?_
  intro z MX1 fX hX
  refine fmX12_line (gX12_line (E := cut MM)  hR.2.1 (cut_CE MM) hR.E0 (Q := fun z M' => z = liA (cut MM) (MM 5) ∧ IM (60000 * (k : Int) + 0) M') (fun M' i => ⟨rfl, i.mono (by omega)⟩)) ?_
  intro b MM1 fM hM
  exact ⟨by rw [hX.1, hM.1], hR.q hX.2 hM.2 (by omega) (fX 156 1 (by first | omega | exact fun h => h)) (fM 1 14 (by first | omega | exact fun h => h)) (fX 182 2 (by first | omega | exact fun h => h)) (fM 1 45 (by first | omega | exact fun h => h)) (fun j => fX 157 j (by first | omega | exact fun h => h)) (fun j => fM 7 j (by first | omega | exact fun h => h)) (fun j => ⟨fX 183 j (by first | omega | exact fun h => h), fX 184 j (by first | omega | exact fun h => h), fM 26 j (by first | omega | exact fun h => h), fM 27 j (by first | omega | exact fun h => h)⟩) (fun k j q => fX k j (by first | omega | exact fun h => h)) (fun k j q => fM k j (by first | omega | exact fun h => h))⟩
theorem Cl_ahead (k : Nat) (MX MM : Mem) (y1 : Int) (hy1 : iR y1) (hk : k < 512) (hMX : MR MX) (hMM : MR MM) (hR : Rel k MX MM) : qX11_ahead y1 MX (fun z MX1 => qX12_ahead y1 MM (fun b MM1 => z = b ∧ Rel (k + 1) MX1 MM1)) := by
  have S := hR.S
  have r37 := hR.r37 hk
  have h37 : (cr (MM 5) (MM 6)) 37 ≤ 1999999000 := by rw [cr_i (by decide) (by decide)]; omega
  have C := S.2.2.1.cr hR.E0 (g := MM 6)
  have W := S.2.2.2.1.cr hR.E0 (g := MM 6)
  refine fmX11_ahead (gX11_ahead (E := cut MM) (r := (cr (MM 5) (MM 6))) (p1 := y1) hR.1 S.1 S.2.1 hR.W C W h37 (Q := fun z M' => z = ahA (cut MM) (cr (MM 5) (MM 6)) y1 ∧ IX M') (fun M' i => ⟨rfl, i⟩)) ?_
  intro z MX1 fX hX
  refine fmX12_ahead (gX12_ahead (E := cut MM) (p1 := y1) hR.2.1 (cut_CE MM) hR.E0 (by omega) (Q := fun z M' => z = ahA (cut MM) (cr (MM 5) (MM 6)) y1 ∧ IM (60000 * (k : Int) + 200) M') (fun M' i => ⟨rfl, i.mono (by omega)⟩)) ?_
  intro b MM1 fM hM
  exact ⟨by rw [hX.1, hM.1], hR.q hX.2 hM.2 (by omega) (fX 156 1 (by first | omega | exact fun h => h)) (fM 1 14 (by first | omega | exact fun h => h)) (fX 182 2 (by first | omega | exact fun h => h)) (fM 1 45 (by first | omega | exact fun h => h)) (fun j => fX 157 j (by first | omega | exact fun h => h)) (fun j => fM 7 j (by first | omega | exact fun h => h)) (fun j => ⟨fX 183 j (by first | omega | exact fun h => h), fX 184 j (by first | omega | exact fun h => h), fM 26 j (by first | omega | exact fun h => h), fM 27 j (by first | omega | exact fun h => h)⟩) (fun k j q => fX k j (by first | omega | exact fun h => h)) (fun k j q => fM k j (by first | omega | exact fun h => h))⟩
theorem Cl_arrives (k : Nat) (MX MM : Mem) (y1 : Int) (hy1 : iR y1) (hk : k < 512) (hMX : MR MX) (hMM : MR MM) (hR : Rel k MX MM) : qX11_arrives y1 MX (fun z MX1 => qX12_arrives y1 MM (fun b MM1 => z = b ∧ Rel (k + 1) MX1 MM1)) := by
  have S := hR.S
  have r37 := hR.r37 hk
  have h37 : (cr (MM 5) (MM 6)) 37 ≤ 1999999000 := by rw [cr_i (by decide) (by decide)]; omega
  have C := S.2.2.1.cr hR.E0 (g := MM 6)
  have W := S.2.2.2.1.cr hR.E0 (g := MM 6)
  refine fmX11_arrives (gX11_arrives (E := cut MM) (r := (cr (MM 5) (MM 6))) (p1 := y1) hR.1 S.1 S.2.1 hR.W C W h37 (Q := fun z M' => z = avA (cut MM) (cr (MM 5) (MM 6)) y1 ∧ IX M') (fun M' i => ⟨rfl, i⟩)) ?_
  intro z MX1 fX hX
  refine fmX12_arrives (gX12_arrives (E := cut MM) (p1 := y1) hR.2.1 (cut_CE MM) hR.E0 (by omega) (Q := fun z M' => z = avA (cut MM) (cr (MM 5) (MM 6)) y1 ∧ IM (60000 * (k : Int) + 201) M') (fun M' i => ⟨rfl, i.mono (by omega)⟩)) ?_
  intro b MM1 fM hM
  exact ⟨by rw [hX.1, hM.1], hR.q hX.2 hM.2 (by omega) (fX 156 1 (by first | omega | exact fun h => h)) (fM 1 14 (by first | omega | exact fun h => h)) (fX 182 2 (by first | omega | exact fun h => h)) (fM 1 45 (by first | omega | exact fun h => h)) (fun j => fX 157 j (by first | omega | exact fun h => h)) (fun j => fM 7 j (by first | omega | exact fun h => h)) (fun j => ⟨fX 183 j (by first | omega | exact fun h => h), fX 184 j (by first | omega | exact fun h => h), fM 26 j (by first | omega | exact fun h => h), fM 27 j (by first | omega | exact fun h => h)⟩) (fun k j q => fX k j (by first | omega | exact fun h => h)) (fun k j q => fM k j (by first | omega | exact fun h => h))⟩
theorem Cl_passes (k : Nat) (MX MM : Mem) (y1 y2 : Int) (hy1 : iR y1) (hy2 : iR y2) (hk : k < 512) (hMX : MR MX) (hMM : MR MM) (hR : Rel k MX MM) : qX11_passes y1 y2 MX (fun z MX1 => qX12_passes y1 y2 MM (fun b MM1 => z = b ∧ Rel (k + 1) MX1 MM1)) := by
  have S := hR.S
  have r37 := hR.r37 hk
  have h37 : (cr (MM 5) (MM 6)) 37 ≤ 1999999000 := by rw [cr_i (by decide) (by decide)]; omega
  have C := S.2.2.1.cr hR.E0 (g := MM 6)
  have W := S.2.2.2.1.cr hR.E0 (g := MM 6)
  refine fmX11_passes (gX11_passes (E := cut MM) (r := (cr (MM 5) (MM 6))) (p1 := y1) (p2 := y2) hR.1 S.1 S.2.1 hR.W C W h37 (Q := fun z M' => z = pvA (cut MM) (cr (MM 5) (MM 6)) y1 y2 ∧ IX M') (fun M' i => ⟨rfl, i⟩)) ?_
  intro z MX1 fX hX
  refine fmX12_passes (gX12_passes (E := cut MM) (p1 := y1) (p2 := y2) hR.2.1 (cut_CE MM) hR.E0 (by omega) (Q := fun z M' => z = pvA (cut MM) (cr (MM 5) (MM 6)) y1 y2 ∧ IM (60000 * (k : Int) + 100) M') (fun M' i => ⟨rfl, i.mono (by omega)⟩)) ?_
  intro b MM1 fM hM
  exact ⟨by rw [hX.1, hM.1], hR.q hX.2 hM.2 (by omega) (fX 156 1 (by first | omega | exact fun h => h)) (fM 1 14 (by first | omega | exact fun h => h)) (fX 182 2 (by first | omega | exact fun h => h)) (fM 1 45 (by first | omega | exact fun h => h)) (fun j => fX 157 j (by first | omega | exact fun h => h)) (fun j => fM 7 j (by first | omega | exact fun h => h)) (fun j => ⟨fX 183 j (by first | omega | exact fun h => h), fX 184 j (by first | omega | exact fun h => h), fM 26 j (by first | omega | exact fun h => h), fM 27 j (by first | omega | exact fun h => h)⟩) (fun k j q => fX k j (by first | omega | exact fun h => h)) (fun k j q => fM k j (by first | omega | exact fun h => h))⟩
theorem Cl_ends (k : Nat) (MX MM : Mem) (y1 : Int) (hy1 : iR y1) (hk : k < 512) (hMX : MR MX) (hMM : MR MM) (hR : Rel k MX MM) : qX11_ends y1 MX (fun z MX1 => qX12_ends y1 MM (fun b MM1 => z = b ∧ Rel (k + 1) MX1 MM1)) := by
  have S := hR.S
  have r37 := hR.r37 hk
  have h37 : (cr (MM 5) (MM 6)) 37 ≤ 1999999000 := by rw [cr_i (by decide) (by decide)]; omega
  have C := S.2.2.1.cr hR.E0 (g := MM 6)
  have W := S.2.2.2.1.cr hR.E0 (g := MM 6)
  refine fmX11_ends (gX11_ends (E := cut MM) (r := (cr (MM 5) (MM 6))) (p1 := y1) hR.1 S.1 S.2.1 hR.W C W h37 (Q := fun z M' => z = edA (cut MM) (cr (MM 5) (MM 6)) y1 ∧ IX M') (fun M' i => ⟨rfl, i⟩)) ?_
  intro z MX1 fX hX
  refine fmX12_ends (gX12_ends (E := cut MM) (p1 := y1) hR.2.1 (cut_CE MM) hR.E0 (by omega) (Q := fun z M' => z = edA (cut MM) (cr (MM 5) (MM 6)) y1 ∧ IM (60000 * (k : Int) + 401) M') (fun M' i => ⟨rfl, i.mono (by omega)⟩)) ?_
  intro b MM1 fM hM
  exact ⟨by rw [hX.1, hM.1], hR.q hX.2 hM.2 (by omega) (fX 156 1 (by first | omega | exact fun h => h)) (fM 1 14 (by first | omega | exact fun h => h)) (fX 182 2 (by first | omega | exact fun h => h)) (fM 1 45 (by first | omega | exact fun h => h)) (fun j => fX 157 j (by first | omega | exact fun h => h)) (fun j => fM 7 j (by first | omega | exact fun h => h)) (fun j => ⟨fX 183 j (by first | omega | exact fun h => h), fX 184 j (by first | omega | exact fun h => h), fM 26 j (by first | omega | exact fun h => h), fM 27 j (by first | omega | exact fun h => h)⟩) (fun k j q => fX k j (by first | omega | exact fun h => h)) (fun k j q => fM k j (by first | omega | exact fun h => h))⟩
theorem Cl_years (k : Nat) (MX MM : Mem) (y1 y2 : Int) (hy1 : iR y1) (hy2 : iR y2) (hk : k < 512) (hMX : MR MX) (hMM : MR MM) (hR : Rel k MX MM) : qX11_years y1 y2 MX (fun z MX1 => qX12_years y1 y2 MM (fun b MM1 => z = b ∧ Rel (k + 1) MX1 MM1)) := by
  have S := hR.S
  have r37 := hR.r37 hk
  have h37 : (cr (MM 5) (MM 6)) 37 ≤ 1999999000 := by rw [cr_i (by decide) (by decide)]; omega
  have C := S.2.2.1.cr hR.E0 (g := MM 6)
  have W := S.2.2.2.1.cr hR.E0 (g := MM 6)
  refine fmX11_years (gX11_years (E := cut MM) (r := (cr (MM 5) (MM 6))) (p1 := y1) (p2 := y2) hR.1 S.1 S.2.1 hR.W C W h37 (Q := fun z M' => z = yrA (cut MM) (cr (MM 5) (MM 6)) y1 y2 ∧ IX M') (fun M' i => ⟨rfl, i⟩)) ?_
  intro z MX1 fX hX
  refine fmX12_years (gX12_years (E := cut MM) (p1 := y1) (p2 := y2) hR.2.1 (cut_CE MM) hR.E0 (by omega) (Q := fun z M' => z = yrA (cut MM) (cr (MM 5) (MM 6)) y1 y2 ∧ IM (60000 * (k : Int) + 100) M') (fun M' i => ⟨rfl, i.mono (by omega)⟩)) ?_
  intro b MM1 fM hM
  exact ⟨by rw [hX.1, hM.1], hR.q hX.2 hM.2 (by omega) (fX 156 1 (by first | omega | exact fun h => h)) (fM 1 14 (by first | omega | exact fun h => h)) (fX 182 2 (by first | omega | exact fun h => h)) (fM 1 45 (by first | omega | exact fun h => h)) (fun j => fX 157 j (by first | omega | exact fun h => h)) (fun j => fM 7 j (by first | omega | exact fun h => h)) (fun j => ⟨fX 183 j (by first | omega | exact fun h => h), fX 184 j (by first | omega | exact fun h => h), fM 26 j (by first | omega | exact fun h => h), fM 27 j (by first | omega | exact fun h => h)⟩) (fun k j q => fX k j (by first | omega | exact fun h => h)) (fun k j q => fM k j (by first | omega | exact fun h => h))⟩
theorem Cl_hearse (k : Nat) (MX MM : Mem) (y1 y2 : Int) (hy1 : iR y1) (hy2 : iR y2) (hk : k < 512) (hMX : MR MX) (hMM : MR MM) (hR : Rel k MX MM) : qX11_hearse y1 y2 MX (fun z MX1 => qX12_hearse y1 y2 MM (fun b MM1 => z = b ∧ MM1 1 0 = 0 ∧ Rel (k + 1) MX1 MM1)) (fun MX1 => qX12_hearse y1 y2 MM (fun b MM1 => MM1 1 0 = 1 ∧ Rel (k + 1) MX1 MM1)) := by
  have S := hR.S
  have r37 := hR.r37 hk
  refine fmX11_hearse (gX11_hearse (E := cut MM) (r := MM 5) (p1 := y1) (p2 := y2) hR.1 S.1 S.2.1 hR.W S.2.2.1 S.2.2.2.1 (by omega) (Q := fun z M' => (heOK (cut MM) y1 y2) ∧ z = heF (cut MM) (MM 5) y1 y2 ∧ IX M') (X := fun M' => ¬ (heOK (cut MM) y1 y2) ∧ IX M') (fun c M' i => ⟨c, rfl, i⟩) (fun n => ⟨n, hR.1⟩)) ?_ ?_
  · intro z MX1 fX hX
    have iX := hX.2.2
    refine fmX12_hearse (gX12_hearse (E := cut MM) (p1 := y1) (p2 := y2) hR.2.1 (cut_CE MM) hR.E0 S.2.2.2.1 (Q := fun z M' => IM (60000 * (k : Int)) M' ∧ ((heOK (cut MM) y1 y2) ∧ z = heF (cut MM) (MM 5) y1 y2 ∧ M' 1 0 = 0 ∨ ¬ (heOK (cut MM) y1 y2) ∧ M' 1 0 = 1)) (fun c M' i t => ⟨i, Or.inl ⟨c, rfl, t⟩⟩) (fun n M' i t => ⟨i, Or.inr ⟨n, t⟩⟩)) ?_
    intro b MM1 fM hM
    obtain ⟨iM, gM⟩ := hM
    have q := hR.q iX iM (by omega) (fX 156 1 (by first | omega | exact fun h => h)) (fM 1 14 (by first | omega | exact fun h => h)) (fX 182 2 (by first | omega | exact fun h => h)) (fM 1 45 (by first | omega | exact fun h => h)) (fun j => fX 157 j (by first | omega | exact fun h => h)) (fun j => fM 7 j (by first | omega | exact fun h => h)) (fun j => ⟨fX 183 j (by first | omega | exact fun h => h), fX 184 j (by first | omega | exact fun h => h), fM 26 j (by first | omega | exact fun h => h), fM 27 j (by first | omega | exact fun h => h)⟩) (fun k j q => fX k j (by first | omega | exact fun h => h)) (fun k j q => fM k j (by first | omega | exact fun h => h))
    rcases gM with g | g
    · exact ⟨by rw [hX.2.1, g.2.1], g.2.2, q⟩
    · exact absurd hX.1 g.1
  · intro MX1 fX hX
    have iX := hX.2
    refine fmX12_hearse (gX12_hearse (E := cut MM) (p1 := y1) (p2 := y2) hR.2.1 (cut_CE MM) hR.E0 S.2.2.2.1 (Q := fun z M' => IM (60000 * (k : Int)) M' ∧ ((heOK (cut MM) y1 y2) ∧ z = heF (cut MM) (MM 5) y1 y2 ∧ M' 1 0 = 0 ∨ ¬ (heOK (cut MM) y1 y2) ∧ M' 1 0 = 1)) (fun c M' i t => ⟨i, Or.inl ⟨c, rfl, t⟩⟩) (fun n M' i t => ⟨i, Or.inr ⟨n, t⟩⟩)) ?_
    intro b MM1 fM hM
    obtain ⟨iM, gM⟩ := hM
    have q := hR.q iX iM (by omega) (fX 156 1 (by first | omega | exact fun h => h)) (fM 1 14 (by first | omega | exact fun h => h)) (fX 182 2 (by first | omega | exact fun h => h)) (fM 1 45 (by first | omega | exact fun h => h)) (fun j => fX 157 j (by first | omega | exact fun h => h)) (fun j => fM 7 j (by first | omega | exact fun h => h)) (fun j => ⟨fX 183 j (by first | omega | exact fun h => h), fX 184 j (by first | omega | exact fun h => h), fM 26 j (by first | omega | exact fun h => h), fM 27 j (by first | omega | exact fun h => h)⟩) (fun k j q => fX k j (by first | omega | exact fun h => h)) (fun k j q => fM k j (by first | omega | exact fun h => h))
    rcases gM with g | g
    · exact absurd g.1 hX.1
    · exact ⟨g.2, q⟩
theorem Cl_mourner (k : Nat) (MX MM : Mem) (y1 y2 : Int) (hy1 : iR y1) (hy2 : iR y2) (hk : k < 512) (hMX : MR MX) (hMM : MR MM) (hR : Rel k MX MM) : qX11_mourner y1 y2 MX (fun z MX1 => qX12_mourner y1 y2 MM (fun b MM1 => z = b ∧ MM1 1 0 = 0 ∧ Rel (k + 1) MX1 MM1)) (fun MX1 => qX12_mourner y1 y2 MM (fun b MM1 => MM1 1 0 = 1 ∧ Rel (k + 1) MX1 MM1)) := by
  have S := hR.S
  have r37 := hR.r37 hk
  refine fmX11_mourner (gX11_mourner (E := cut MM) (r := MM 5) (p1 := y1) (p2 := y2) hR.1 S.1 S.2.2.1 S.2.2.2.1 (Q := fun z M' => (moOK (cut MM) y1 y2) ∧ z = moF (cut MM) (MM 5) y1 y2 ∧ IX M') (X := fun M' => ¬ (moOK (cut MM) y1 y2) ∧ IX M') (fun c => ⟨c, rfl, hR.1⟩) (fun n => ⟨n, hR.1⟩)) ?_ ?_
  · intro z MX1 fX hX
    have iX := hX.2.2
    refine fmX12_mourner (gX12_mourner (E := cut MM) (p1 := y1) (p2 := y2) hR.2.1 (cut_CE MM) hR.E0 S.2.2.2.1 (Q := fun z M' => IM (60000 * (k : Int)) M' ∧ ((moOK (cut MM) y1 y2) ∧ z = moF (cut MM) (MM 5) y1 y2 ∧ M' 1 0 = 0 ∨ ¬ (moOK (cut MM) y1 y2) ∧ M' 1 0 = 1)) (fun c M' i t => ⟨i, Or.inl ⟨c, rfl, t⟩⟩) (fun n M' i t => ⟨i, Or.inr ⟨n, t⟩⟩)) ?_
    intro b MM1 fM hM
    obtain ⟨iM, gM⟩ := hM
    have q := hR.q iX iM (by omega) (fX 156 1 (by first | omega | exact fun h => h)) (fM 1 14 (by first | omega | exact fun h => h)) (fX 182 2 (by first | omega | exact fun h => h)) (fM 1 45 (by first | omega | exact fun h => h)) (fun j => fX 157 j (by first | omega | exact fun h => h)) (fun j => fM 7 j (by first | omega | exact fun h => h)) (fun j => ⟨fX 183 j (by first | omega | exact fun h => h), fX 184 j (by first | omega | exact fun h => h), fM 26 j (by first | omega | exact fun h => h), fM 27 j (by first | omega | exact fun h => h)⟩) (fun k j q => fX k j (by first | omega | exact fun h => h)) (fun k j q => fM k j (by first | omega | exact fun h => h))
    rcases gM with g | g
    · exact ⟨by rw [hX.2.1, g.2.1], g.2.2, q⟩
    · exact absurd hX.1 g.1
  · intro MX1 fX hX
    have iX := hX.2
    refine fmX12_mourner (gX12_mourner (E := cut MM) (p1 := y1) (p2 := y2) hR.2.1 (cut_CE MM) hR.E0 S.2.2.2.1 (Q := fun z M' => IM (60000 * (k : Int)) M' ∧ ((moOK (cut MM) y1 y2) ∧ z = moF (cut MM) (MM 5) y1 y2 ∧ M' 1 0 = 0 ∨ ¬ (moOK (cut MM) y1 y2) ∧ M' 1 0 = 1)) (fun c M' i t => ⟨i, Or.inl ⟨c, rfl, t⟩⟩) (fun n M' i t => ⟨i, Or.inr ⟨n, t⟩⟩)) ?_
    intro b MM1 fM hM
    obtain ⟨iM, gM⟩ := hM
    have q := hR.q iX iM (by omega) (fX 156 1 (by first | omega | exact fun h => h)) (fM 1 14 (by first | omega | exact fun h => h)) (fX 182 2 (by first | omega | exact fun h => h)) (fM 1 45 (by first | omega | exact fun h => h)) (fun j => fX 157 j (by first | omega | exact fun h => h)) (fun j => fM 7 j (by first | omega | exact fun h => h)) (fun j => ⟨fX 183 j (by first | omega | exact fun h => h), fX 184 j (by first | omega | exact fun h => h), fM 26 j (by first | omega | exact fun h => h), fM 27 j (by first | omega | exact fun h => h)⟩) (fun k j q => fX k j (by first | omega | exact fun h => h)) (fun k j q => fM k j (by first | omega | exact fun h => h))
    rcases gM with g | g
    · exact absurd g.1 hX.1
    · exact ⟨g.2, q⟩
