/-! right, alike on both sides -/
theorem Cl_right (k : Nat) (MX MM : Mem)  (hk : k < 512) (hMX : MR MX) (hMM : MR MM) (hR : Rel k MX MM) : qX11_right  MX (fun z MX1 => qX12_right  MM (fun b MM1 => z = b ∧ Rel (k + 1) MX1 MM1)) := by
  have S := hR.S
  have r37 := hR.r37 hk
  have h37 : (cr (MM 5) (MM 6)) 37 ≤ 1999990000 := by rw [cr_i (by decide) (by decide)]; omega
  have C := S.2.2.1.cr hR.E0 (g := MM 6)
  have W := S.2.2.2.1.cr hR.E0 (g := MM 6)
  have Fo : fol (cut MM) (cr (MM 5) (MM 6)) := hR.f.cg hR.E0 S.2.2.2.1 (fun j p q => cr_i p q)
  refine fmX11_right (gX11_right (E := cut MM) (r := (cr (MM 5) (MM 6)))  hR.tb C W Fo (by omega) (Q := fun z M' => z = bcF (rgE (cut MM) (cr (MM 5) (MM 6))) ∧ IX M') (fun M' i => ⟨rfl, i⟩)) ?_
  intro z MX1 fX hX
  refine fmX12_right (gX12_right (E := cut MM)  hR.2.1 (cut_CE MM) hR.own W (by omega) (Q := fun z M' => z = bcF (rgE (cut MM) (cr (MM 5) (MM 6))) ∧ IM (60000 * (k : Int) + 200) M') (fun M' i => ⟨rfl, i.mono (by omega)⟩)) ?_
  intro b MM1 fM hM
  exact ⟨by rw [hX.1, hM.1], hR.q hX.2 hM.2 (by omega) (fX 156 1 (by first | omega | exact fun h => h)) (fM 1 14 (by first | omega | exact fun h => h)) (fX 182 2 (by first | omega | exact fun h => h)) (fM 1 45 (by first | omega | exact fun h => h)) (fun j => fX 157 j (by first | omega | exact fun h => h)) (fun j => fM 7 j (by first | omega | exact fun h => h)) (fun j => ⟨fX 183 j (by first | omega | exact fun h => h), fX 184 j (by first | omega | exact fun h => h), fM 26 j (by first | omega | exact fun h => h), fM 27 j (by first | omega | exact fun h => h)⟩) (fun k j q => fX k j (by first | omega | exact fun h => h)) (fun k j q => fM k j (by first | omega | exact fun h => h))⟩
