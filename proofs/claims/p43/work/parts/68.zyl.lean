/-! fits, alike on both sides -/
theorem Cl_fits (k : Nat) (MX MM : Mem)  (hk : k < 512) (hMX : MR MX) (hMM : MR MM) (hR : Rel k MX MM) : qX11_fits  MX (fun z MX1 => qX12_fits  MM (fun b MM1 => z = b ∧ Rel (k + 1) MX1 MM1)) := by
  have S := hR.S
  have r37 := hR.r37 hk
  have h37 : (cr (MM 5) (MM 6)) 37 ≤ 1999990000 := by rw [cr_i (by decide) (by decide)]; omega
  have C := S.2.2.1.cr hR.E0 (g := MM 6)
  have W := S.2.2.2.1.cr hR.E0 (g := MM 6)
  have ec : MX 182 2 = MM 1 45 := hR.2.2.2.1
  refine fmX11_fits (gX11_fits (E := cut MM) (r := (cr (MM 5) (MM 6))) hR.tb C W (by omega) (bx_c182_2.mp (hR.1.bx _ _)) (fun i p q => (hR.H i p q).2.2) (Q := fun z M' => z = ftB (cut MM) (itF (cut MM) 200 (cr (MM 5) (MM 6))) (MX 183) (MX 184) (MX 182 2) ∧ IX M') (fun M' i => ⟨rfl, i⟩)) ?_
  intro z MX1 fX hX
  refine fmX12_fits (gX12_fits (E := cut MM) (kk := MX 183) (vv := MX 184) hR.2.1 (cut_CE MM) W (by omega) (fun i p q => hR.H i p (by omega)) (Q := fun z M' => z = ftB (cut MM) (itF (cut MM) 200 (cr (MM 5) (MM 6))) (MX 183) (MX 184) (MM 1 45) ∧ IM (60000 * (k : Int) + 200) M') (fun M' i => ⟨rfl, i⟩)) ?_
  intro b MM1 fM hM
  exact ⟨by rw [hX.1, hM.1, ec], hR.q hX.2 hM.2 (by omega) (fX 156 1 (by first | omega | exact fun h => h)) (fM 1 14 (by first | omega | exact fun h => h)) (fX 182 2 (by first | omega | exact fun h => h)) (fM 1 45 (by first | omega | exact fun h => h)) (fun j => fX 157 j (by first | omega | exact fun h => h)) (fun j => fM 7 j (by first | omega | exact fun h => h)) (fun j => ⟨fX 183 j (by first | omega | exact fun h => h), fX 184 j (by first | omega | exact fun h => h), fM 26 j (by first | omega | exact fun h => h), fM 27 j (by first | omega | exact fun h => h)⟩) (fun k j q => fX k j (by first | omega | exact fun h => h)) (fun k j q => fM k j (by first | omega | exact fun h => h))⟩
