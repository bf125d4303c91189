/-! strangers, alike on both sides -/
theorem Cl_strangers (k : Nat) (MX MM : Mem)  (hk : k < 512) (hMX : MR MX) (hMM : MR MM) (hR : Rel k MX MM) : qX11_strangers  MX (fun z MX1 => qX12_strangers  MM (fun b MM1 => z = b ∧ Rel (k + 1) MX1 MM1)) := by
  have S := hR.S
  have r37 := hR.r37 hk
  refine fmX11_strangers (gX11_strangers hR.1 hR.E0 S.2.2.1 S.2.2.2.1 (Q := fun z M' => SGA (cut MM) (MM 5) z ∧ IX M') (fun z M' i h => ⟨h, i⟩)) ?_
  intro z MX1 fX hX
  refine fmX12_strangers (gX12_strangers hR.2.1 (cut_CE MM) S.2.2.2.1 (Q := fun z M' => SGA (cut MM) (MM 5) z ∧ IM (60000 * (k : Int) + 0) M') (fun z M' i h => ⟨h, i.mono (by omega)⟩)) ?_
  intro b MM1 fM hM
  exact ⟨hX.1.uq hM.1, hR.q hX.2 hM.2 (by omega) (fX 156 1 (by first | omega | exact fun h => h)) (fM 1 14 (by first | omega | exact fun h => h)) (fX 182 2 (by first | omega | exact fun h => h)) (fM 1 45 (by first | omega | exact fun h => h)) (fun j => fX 157 j (by first | omega | exact fun h => h)) (fun j => fM 7 j (by first | omega | exact fun h => h)) (fun j => ⟨fX 183 j (by first | omega | exact fun h => h), fX 184 j (by first | omega | exact fun h => h), fM 26 j (by first | omega | exact fun h => h), fM 27 j (by first | omega | exact fun h => h)⟩) (fun k j q => fX k j (by first | omega | exact fun h => h)) (fun k j q => fM k j (by first | omega | exact fun h => h))⟩
