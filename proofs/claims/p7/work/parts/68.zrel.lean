/-! THE RELATION: both safe, the texts as long, as much heard -/
def Rel (k : Nat) (MX MM : Mem) : Prop := IX MX ∧ IM (60000 * (k : Int)) MM ∧ MX 156 1 = MM 1 14 ∧ MX 182 2 = MM 1 45 ∧ ∀ j, 0 ≤ j → j < MX 156 1 → MX 157 j = MM 7 j
theorem Rel_skip {k : Nat} {MX MM : Mem} (h : Rel k MX MM) : Rel (k + 1) MX MM := ⟨h.1, h.2.1.mono (by omega), h.2.2⟩
theorem Rl_sign (k : Nat) (MX MM : Mem) (y1 : Int) (hy1 : iR y1) (hk : k < 512) (hMX : MR MX) (hMM : MR MM) (hR : Rel k MX MM) : qX11_sign y1 MX (fun z MX1 => qX12_sign y1 MM (fun b MM1 => Rel (k + 1) MX1 MM1)) := by
  refine fmX11_sign (gX11_signC (p1 := y1) hR.1 (Q := fun z M' => IX M' ∧ (77 ≤ MX 156 1 ∧ z = -1 ∧ M' 156 1 = MX 156 1 ∧ (∀ j, M' 157 j = MX 157 j) ∨ MX 156 1 ≤ 76 ∧ z = MX 156 1 + 4 ∧ M' 156 1 = MX 156 1 + 4 ∧ (∀ j, 0 ≤ j → j < MX 156 1 → M' 157 j = MX 157 j) ∧ (∀ i, 0 ≤ i → i < 4 → M' 157 (MX 156 1 + i) = byt y1 i))) (fun z M' h q => ⟨h, q⟩)) ?_
  intro z MX1 fX hX
  refine fmX12_sign (gX12_signC (p1 := y1) hR.2.1 (Q := fun z M' => IM (60000 * (k : Int)) M' ∧ (77 ≤ MM 1 14 ∧ z = -1 ∧ M' 1 14 = MM 1 14 ∧ (∀ j, M' 7 j = MM 7 j) ∨ MM 1 14 ≤ 76 ∧ z = MM 1 14 + 4 ∧ M' 1 14 = MM 1 14 + 4 ∧ (∀ j, 0 ≤ j → j < MM 1 14 → M' 7 j = MM 7 j) ∧ (∀ i, 0 ≤ i → i < 4 → M' 7 (MM 1 14 + i) = byt y1 i))) (fun z M' h q => ⟨h, q⟩)) ?_
  intro b MM1 fM hM
  have e := hR.2.2.1
  have e2 : MX1 182 2 = MM1 1 45 := by rw [fX 182 2 (by omega), fM 1 45 (by omega)]; exact hR.2.2.2.1
  obtain ⟨iX, gX⟩ := hX
  obtain ⟨iM, gM⟩ := hM
  have T := hR.2.2.2.2
  rcases gX with g | g
  · rcases gM with h | h
    · exact ⟨iX, iM.mono (by omega), by omega, e2, fun j a q => by rw [g.2.2.2, h.2.2.2]; exact T j a (by omega)⟩
    · exact absurd g.1 (by omega)
  · rcases gM with h | h
    · exact absurd g.1 (by omega)
    · refine ⟨iX, iM.mono (by omega), by omega, e2, fun j a q => ?_⟩
      by_cases cj : j < MX 156 1
      · rw [g.2.2.2.1 j a cj, h.2.2.2.1 j a (by omega)]
        exact T j a cj
      · have u := g.2.2.2.2 (j - MX 156 1) (by omega) (by omega)
        have v := h.2.2.2.2 (j - MX 156 1) (by omega) (by omega)
        rw [show MX 156 1 + (j - MX 156 1) = j from by omega] at u
        rw [show MM 1 14 + (j - MX 156 1) = j from by omega] at v
        rw [u, v]
theorem Rl_end (k : Nat) (MX MM : Mem) (y1 : Int) (hy1 : iR y1) (hk : k < 512) (hMX : MR MX) (hMM : MR MM) (hR : Rel k MX MM) : qX11_end y1 MX (fun z MX1 => qX12_end y1 MM (fun b MM1 => Rel (k + 1) MX1 MM1)) := by
  refine fmX11_end (gX11_end (p1 := y1) hR.1 (Q := fun z M' => IX M' ∧ ((0 ≤ y1 ∧ y1 ≤ MX 156 1) ∧ z = 1 ∧ M' 156 1 = y1 ∨ (y1 < 0 ∨ MX 156 1 < y1) ∧ z = 0 ∧ M' 156 1 = MX 156 1)) (fun z M' h q => ⟨h, q⟩)) ?_
  intro z MX1 fX hX
  refine fmX12_end (gX12_end (p1 := y1) hR.2.1 (Q := fun z M' => IM (60000 * (k : Int)) M' ∧ ((0 ≤ y1 ∧ y1 ≤ MM 1 14) ∧ z = 1 ∧ M' 1 14 = y1 ∨ (y1 < 0 ∨ MM 1 14 < y1) ∧ z = 0 ∧ M' 1 14 = MM 1 14)) (fun z M' h q => ⟨h, q⟩)) ?_
  intro b MM1 fM hM
  have e := hR.2.2.1
  have e2 : MX1 182 2 = MM1 1 45 := by rw [fX 182 2 (by omega), fM 1 45 (by omega)]; exact hR.2.2.2.1
  obtain ⟨iX, gX⟩ := hX
  obtain ⟨iM, gM⟩ := hM
  exact ⟨iX, iM.mono (by omega), by omega, e2, fun j a q => by rw [fX 157 j (by omega), fM 7 j (by omega)]; exact hR.2.2.2.2 j a (by omega)⟩
theorem Rl_avenue (k : Nat) (MX MM : Mem)  (hk : k < 512) (hMX : MR MX) (hMM : MR MM) (hR : Rel k MX MM) : qX11_avenue  MX (fun z MX1 => qX12_avenue  MM (fun b MM1 => Rel (k + 1) MX1 MM1)) := by
  refine fzX11_avenue (fmX11_avenue (sX11_avenue  hR.1 (Q := fun _ M' => IX M') (fun _ _ h => h)) (Q' := fun _ M' => IX M' ∧ M' 182 2 = MX 182 2) (fun _ M' f h => ⟨h, f 182 2 (by omega)⟩)) ?_
  intro z MX1 zX hX
  refine fzX12_avenue (fmX12_avenue (sX12_avenue  hR.2.1 (by omega) (Q := fun _ M' => IM (60000 * (k : Int) + 1) M') (fun _ _ h => h)) (Q' := fun _ M' => IM (60000 * (k : Int) + 1) M' ∧ M' 1 45 = MM 1 45) (fun _ M' f h => ⟨h, f 1 45 (by omega)⟩)) ?_
  intro b MM1 zM hM
  exact ⟨hX.1, hM.1.mono (by omega), by rw [zX, zM], by rw [hX.2, hM.2]; exact hR.2.2.2.1, fun j a q => by rw [zX] at q; omega⟩
theorem Rl_hearses (k : Nat) (MX MM : Mem)  (hk : k < 512) (hMX : MR MX) (hMM : MR MM) (hR : Rel k MX MM) : qX11_hearses  MX (fun z MX1 => qX12_hearses  MM (fun b MM1 => Rel (k + 1) MX1 MM1)) := by
  refine fzX11_hearses (fmX11_hearses (sX11_hearses  hR.1 (Q := fun _ M' => IX M') (fun _ _ h => h)) (Q' := fun _ M' => IX M' ∧ M' 182 2 = MX 182 2) (fun _ M' f h => ⟨h, f 182 2 (by omega)⟩)) ?_
  intro z MX1 zX hX
  refine fzX12_hearses (fmX12_hearses (sX12_hearses  hR.2.1 (by omega) (Q := fun _ M' => IM (60000 * (k : Int) + 1) M') (fun _ _ h => h)) (Q' := fun _ M' => IM (60000 * (k : Int) + 1) M' ∧ M' 1 45 = MM 1 45) (fun _ M' f h => ⟨h, f 1 45 (by omega)⟩)) ?_
  intro b MM1 zM hM
  exact ⟨hX.1, hM.1.mono (by omega), by rw [zX, zM], by rw [hX.2, hM.2]; exact hR.2.2.2.1, fun j a q => by rw [zX] at q; omega⟩
theorem Rl_mourners (k : Nat) (MX MM : Mem)  (hk : k < 512) (hMX : MR MX) (hMM : MR MM) (hR : Rel k MX MM) : qX11_mourners  MX (fun z MX1 => qX12_mourners  MM (fun b MM1 => Rel (k + 1) MX1 MM1)) := by
  refine fzX11_mourners (fmX11_mourners (sX11_mourners  hR.1 (Q := fun _ M' => IX M') (fun _ _ h => h)) (Q' := fun _ M' => IX M' ∧ M' 182 2 = MX 182 2) (fun _ M' f h => ⟨h, f 182 2 (by omega)⟩)) ?_
  intro z MX1 zX hX
  refine fzX12_mourners (fmX12_mourners (sX12_mourners  hR.2.1 (by omega) (Q := fun _ M' => IM (60000 * (k : Int) + 1) M') (fun _ _ h => h)) (Q' := fun _ M' => IM (60000 * (k : Int) + 1) M' ∧ M' 1 45 = MM 1 45) (fun _ M' f h => ⟨h, f 1 45 (by omega)⟩)) ?_
  intro b MM1 zM hM
  exact ⟨hX.1, hM.1.mono (by omega), by rw [zX, zM], by rw [hX.2, hM.2]; exact hR.2.2.2.1, fun j a q => by rw [zX] at q; omega⟩
theorem Rl_weather (k : Nat) (MX MM : Mem)  (hk : k < 512) (hMX : MR MX) (hMM : MR MM) (hR : Rel k MX MM) : qX11_weather  MX (fun z MX1 => qX12_weather  MM (fun b MM1 => z = b ∧ Rel (k + 1) MX1 MM1)) := by
  refine fzX11_weather (fmX11_weather (gX11_weather hR.1 (Q := fun z M' => IX M' ∧ ∃ q, WV (MX 157) (MX 156 1) q ∧ z = wvz (MX 156 1) q) (fun q M' h a => ⟨h, q, a, rfl⟩)) (Q' := fun z M' => (IX M' ∧ ∃ q, WV (MX 157) (MX 156 1) q ∧ z = wvz (MX 156 1) q) ∧ M' 182 2 = MX 182 2) (fun _ M' f h => ⟨h, f 182 2 (by omega)⟩)) ?_
  intro z MX1 zX hX
  refine fzX12_weather (fmX12_weather (gX12_weather hR.2.1 (Q := fun z M' => IM (60000 * (k : Int)) M' ∧ ∃ q, WV (MM 7) (MM 1 14) q ∧ z = wvz (MM 1 14) q) (fun q M' h a => ⟨h, q, a, rfl⟩)) (Q' := fun z M' => (IM (60000 * (k : Int)) M' ∧ ∃ q, WV (MM 7) (MM 1 14) q ∧ z = wvz (MM 1 14) q) ∧ M' 1 45 = MM 1 45) (fun _ M' f h => ⟨h, f 1 45 (by omega)⟩)) ?_
  intro b MM1 zM hM
  obtain ⟨⟨iX, q, aq, ez⟩, eX⟩ := hX
  obtain ⟨⟨iM, q2, aq2, eb⟩, eM⟩ := hM
  have e := hR.2.2.1
  rw [← e] at aq2 eb
  have eq := aq.uq aq2 hR.2.2.2.2
  exact ⟨by rw [ez, eb, eq], iX, iM.mono (by omega), by rw [zX, zM], by rw [eX, eM]; exact hR.2.2.2.1, fun j a q => by rw [zX] at q; omega⟩
theorem Rl_rule (k : Nat) (MX MM : Mem)  (hk : k < 512) (hMX : MR MX) (hMM : MR MM) (hR : Rel k MX MM) : qX11_rule  MX (fun z MX1 => qX12_rule  MM (fun b MM1 => Rel (k + 1) MX1 MM1)) := by
  refine fzX11_rule (fmX11_rule (sX11_rule  hR.1 (Q := fun _ M' => IX M') (fun _ _ h => h)) (Q' := fun _ M' => IX M' ∧ M' 182 2 = MX 182 2) (fun _ M' f h => ⟨h, f 182 2 (by omega)⟩)) ?_
  intro z MX1 zX hX
  refine fzX12_rule (fmX12_rule (sX12_rule  hR.2.1 (Q := fun _ M' => IM (60000 * (k : Int)) M') (fun _ _ h => h)) (Q' := fun _ M' => IM (60000 * (k : Int)) M' ∧ M' 1 45 = MM 1 45) (fun _ M' f h => ⟨h, f 1 45 (by omega)⟩)) ?_
  intro b MM1 zM hM
  exact ⟨hX.1, hM.1.mono (by omega), by rw [zX, zM], by rw [hX.2, hM.2]; exact hR.2.2.2.1, fun j a q => by rw [zX] at q; omega⟩
theorem Rl_hearse (k : Nat) (MX MM : Mem) (y1 y2 : Int) (hy1 : iR y1) (hy2 : iR y2) (hk : k < 512) (hMX : MR MX) (hMM : MR MM) (hR : Rel k MX MM) : qX11_hearse y1 y2 MX (fun z MX1 => qX12_hearse y1 y2 MM (fun b MM1 => Rel (k + 1) MX1 MM1)) (fun MX1 => qX12_hearse y1 y2 MM (fun b MM1 => Rel (k + 1) MX1 MM1)) := by
  refine fmX11_hearse (sX11_hearse (p1 := y1) (p2 := y2) hR.1 (Q := fun _ M' => IX M') (E := fun M' => IX M') (fun _ _ h => h) (fun _ h => h)) ?_ ?_
  · intro z MX1 fX hX
    refine fmX12_hearse (sX12_hearse (p1 := y1) (p2 := y2) hR.2.1 (Q := fun _ M' => IM (60000 * (k : Int)) M') (fun _ _ h => h)) ?_
    intro b MM1 fM hM
    exact ⟨hX, hM.mono (by omega), by rw [fX 156 1 (by first | omega | exact fun h => h), fM 1 14 (by first | omega | exact fun h => h)]; exact hR.2.2.1, by rw [fX 182 2 (by first | omega | exact fun h => h), fM 1 45 (by first | omega | exact fun h => h)]; exact hR.2.2.2.1, fun j a q => by rw [fX 157 j (by first | omega | exact fun h => h), fM 7 j (by first | omega | exact fun h => h)]; exact hR.2.2.2.2 j a (by rw [fX 156 1 (by first | omega | exact fun h => h)] at q; exact q)⟩
  · intro MX1 fX hX
    refine fmX12_hearse (sX12_hearse (p1 := y1) (p2 := y2) hR.2.1 (Q := fun _ M' => IM (60000 * (k : Int)) M') (fun _ _ h => h)) ?_
    intro b MM1 fM hM
    exact ⟨hX, hM.mono (by omega), by rw [fX 156 1 (by first | omega | exact fun h => h), fM 1 14 (by first | omega | exact fun h => h)]; exact hR.2.2.1, by rw [fX 182 2 (by first | omega | exact fun h => h), fM 1 45 (by first | omega | exact fun h => h)]; exact hR.2.2.2.1, fun j a q => by rw [fX 157 j (by first | omega | exact fun h => h), fM 7 j (by first | omega | exact fun h => h)]; exact hR.2.2.2.2 j a (by rw [fX 156 1 (by first | omega | exact fun h => h)] at q; exact q)⟩
theorem Rl_mourner (k : Nat) (MX MM : Mem) (y1 y2 : Int) (hy1 : iR y1) (hy2 : iR y2) (hk : k < 512) (hMX : MR MX) (hMM : MR MM) (hR : Rel k MX MM) : qX11_mourner y1 y2 MX (fun z MX1 => qX12_mourner y1 y2 MM (fun b MM1 => Rel (k + 1) MX1 MM1)) (fun MX1 => qX12_mourner y1 y2 MM (fun b MM1 => Rel (k + 1) MX1 MM1)) := by
  refine fmX11_mourner (sX11_mourner (p1 := y1) (p2 := y2) hR.1 (Q := fun _ M' => IX M') (E := fun M' => IX M') (fun _ _ h => h) (fun _ h => h)) ?_ ?_
  · intro z MX1 fX hX
    refine fmX12_mourner (sX12_mourner (p1 := y1) (p2 := y2) hR.2.1 (Q := fun _ M' => IM (60000 * (k : Int)) M') (fun _ _ h => h)) ?_
    intro b MM1 fM hM
    exact ⟨hX, hM.mono (by omega), by rw [fX 156 1 (by first | omega | exact fun h => h), fM 1 14 (by first | omega | exact fun h => h)]; exact hR.2.2.1, by rw [fX 182 2 (by first | omega | exact fun h => h), fM 1 45 (by first | omega | exact fun h => h)]; exact hR.2.2.2.1, fun j a q => by rw [fX 157 j (by first | omega | exact fun h => h), fM 7 j (by first | omega | exact fun h => h)]; exact hR.2.2.2.2 j a (by rw [fX 156 1 (by first | omega | exact fun h => h)] at q; exact q)⟩
  · intro MX1 fX hX
    refine fmX12_mourner (sX12_mourner (p1 := y1) (p2 := y2) hR.2.1 (Q := fun _ M' => IM (60000 * (k : Int)) M') (fun _ _ h => h)) ?_
    intro b MM1 fM hM
    exact ⟨hX, hM.mono (by omega), by rw [fX 156 1 (by first | omega | exact fun h => h), fM 1 14 (by first | omega | exact fun h => h)]; exact hR.2.2.1, by rw [fX 182 2 (by first | omega | exact fun h => h), fM 1 45 (by first | omega | exact fun h => h)]; exact hR.2.2.2.1, fun j a q => by rw [fX 157 j (by first | omega | exact fun h => h), fM 7 j (by first | omega | exact fun h => h)]; exact hR.2.2.2.2 j a (by rw [fX 156 1 (by first | omega | exact fun h => h)] at q; exact q)⟩
theorem Rl_sheet (k : Nat) (MX MM : Mem) (y1 y2 y3 y4 : Int) (hy1 : iR y1) (hy2 : iR y2) (hy3 : iR y3) (hy4 : iR y4) (hk : k < 512) (hMX : MR MX) (hMM : MR MM) (hR : Rel k MX MM) : qX11_sheet y1 y2 y3 y4 MX (fun z MX1 => qX12_sheet y1 y2 y3 y4 MM (fun b MM1 => Rel (k + 1) MX1 MM1)) := by
  refine fmX11_sheet (sX11_sheet (p1 := y1) (p2 := y2) (p3 := y3) (p4 := y4) hR.1 (Q := fun _ M' => IX M') (fun _ _ h => h)) ?_
  intro z MX1 fX hX
  refine fmX12_sheet (sX12_sheet (p1 := y1) (p2 := y2) (p3 := y3) (p4 := y4) hR.2.1 hy3 (Q := fun _ M' => IM (60000 * (k : Int)) M') (fun _ _ h => h)) ?_
  intro b MM1 fM hM
  exact ⟨hX, hM.mono (by omega), by rw [fX 156 1 (by first | omega | exact fun h => h), fM 1 14 (by first | omega | exact fun h => h)]; exact hR.2.2.1, by rw [fX 182 2 (by first | omega | exact fun h => h), fM 1 45 (by first | omega | exact fun h => h)]; exact hR.2.2.2.1, fun j a q => by rw [fX 157 j (by first | omega | exact fun h => h), fM 7 j (by first | omega | exact fun h => h)]; exact hR.2.2.2.2 j a (by rw [fX 156 1 (by first | omega | exact fun h => h)] at q; exact q)⟩
theorem Rl_steps (k : Nat) (MX MM : Mem) (y1 : Int) (hy1 : iR y1) (hk : k < 512) (hMX : MR MX) (hMM : MR MM) (hR : Rel k MX MM) : qX11_steps y1 MX (fun z MX1 => qX12_steps y1 MM (fun b MM1 => Rel (k + 1) MX1 MM1)) := by
  refine fmX11_steps (sX11_steps (p1 := y1) hR.1 (Q := fun _ M' => IX M') (fun _ _ h => h)) ?_
  intro z MX1 fX hX
  refine fmX12_steps (sX12_steps (p1 := y1) hR.2.1 (by omega) (Q := fun _ M' => IM (60000 * (k : Int) + 200) M') (fun _ _ h => h)) ?_
  intro b MM1 fM hM
  exact ⟨hX, hM.mono (by omega), by rw [fX 156 1 (by first | omega | exact fun h => h), fM 1 14 (by first | omega | exact fun h => h)]; exact hR.2.2.1, by rw [fX 182 2 (by first | omega | exact fun h => h), fM 1 45 (by first | omega | exact fun h => h)]; exact hR.2.2.2.1, fun j a q => by rw [fX 157 j (by first | omega | exact fun h => h), fM 7 j (by first | omega | exact fun h => h)]; exact hR.2.2.2.2 j a (by rw [fX 156 1 (by first | omega | exact fun h => h)] at q; exact q)⟩
theorem Rl_turnsTo (k : Nat) (MX MM : Mem) (y1 : Int) (hy1 : iR y1) (hk : k < 512) (hMX : MR MX) (hMM : MR MM) (hR : Rel k MX MM) : qX11_turnsTo y1 MX (fun z MX1 => qX12_turnsTo y1 MM (fun b MM1 => Rel (k + 1) MX1 MM1)) := by
  refine fmX11_turnsTo (sX11_turnsTo (p1 := y1) hR.1 (Q := fun _ M' => IX M') (fun _ _ h => h)) ?_
  intro z MX1 fX hX
  refine fmX12_turnsTo (sX12_turnsTo (p1 := y1) hR.2.1 (Q := fun _ M' => IM (60000 * (k : Int)) M') (fun _ _ h => h)) ?_
  intro b MM1 fM hM
  exact ⟨hX, hM.mono (by omega), by rw [fX 156 1 (by first | omega | exact fun h => h), fM 1 14 (by first | omega | exact fun h => h)]; exact hR.2.2.1, by rw [fX 182 2 (by first | omega | exact fun h => h), fM 1 45 (by first | omega | exact fun h => h)]; exact hR.2.2.2.1, fun j a q => by rw [fX 157 j (by first | omega | exact fun h => h), fM 7 j (by first | omega | exact fun h => h)]; exact hR.2.2.2.2 j a (by rw [fX 156 1 (by first | omega | exact fun h => h)] at q; exact q)⟩
theorem Rl_pushes (k : Nat) (MX MM : Mem) (y1 y2 : Int) (hy1 : iR y1) (hy2 : iR y2) (hk : k < 512) (hMX : MR MX) (hMM : MR MM) (hR : Rel k MX MM) : qX11_pushes y1 y2 MX (fun z MX1 => qX12_pushes y1 y2 MM (fun b MM1 => Rel (k + 1) MX1 MM1)) := by
  refine fmX11_pushes (sX11_pushes (p1 := y1) (p2 := y2) hR.1 (Q := fun _ M' => IX M') (fun _ _ h => h)) ?_
  intro z MX1 fX hX
  refine fmX12_pushes (sX12_pushes (p1 := y1) (p2 := y2) hR.2.1 (Q := fun _ M' => IM (60000 * (k : Int)) M') (fun _ _ h => h)) ?_
  intro b MM1 fM hM
  exact ⟨hX, hM.mono (by omega), by rw [fX 156 1 (by first | omega | exact fun h => h), fM 1 14 (by first | omega | exact fun h => h)]; exact hR.2.2.1, by rw [fX 182 2 (by first | omega | exact fun h => h), fM 1 45 (by first | omega | exact fun h => h)]; exact hR.2.2.2.1, fun j a q => by rw [fX 157 j (by first | omega | exact fun h => h), fM 7 j (by first | omega | exact fun h => h)]; exact hR.2.2.2.2 j a (by rw [fX 156 1 (by first | omega | exact fun h => h)] at q; exact q)⟩
theorem Rl_swaps (k : Nat) (MX MM : Mem) (y1 y2 : Int) (hy1 : iR y1) (hy2 : iR y2) (hk : k < 512) (hMX : MR MX) (hMM : MR MM) (hR : Rel k MX MM) : qX11_swaps y1 y2 MX (fun z MX1 => qX12_swaps y1 y2 MM (fun b MM1 => Rel (k + 1) MX1 MM1)) := by
  refine fmX11_swaps (sX11_swaps (p1 := y1) (p2 := y2) hR.1 (Q := fun _ M' => IX M') (fun _ _ h => h)) ?_
  intro z MX1 fX hX
  refine fmX12_swaps (sX12_swaps (p1 := y1) (p2 := y2) hR.2.1 (Q := fun _ M' => IM (60000 * (k : Int)) M') (fun _ _ h => h)) ?_
  intro b MM1 fM hM
  exact ⟨hX, hM.mono (by omega), by rw [fX 156 1 (by first | omega | exact fun h => h), fM 1 14 (by first | omega | exact fun h => h)]; exact hR.2.2.1, by rw [fX 182 2 (by first | omega | exact fun h => h), fM 1 45 (by first | omega | exact fun h => h)]; exact hR.2.2.2.1, fun j a q => by rw [fX 157 j (by first | omega | exact fun h => h), fM 7 j (by first | omega | exact fun h => h)]; exact hR.2.2.2.2 j a (by rw [fX 156 1 (by first | omega | exact fun h => h)] at q; exact q)⟩
theorem Rl_hour (k : Nat) (MX MM : Mem)  (hk : k < 512) (hMX : MR MX) (hMM : MR MM) (hR : Rel k MX MM) : qX11_hour  MX (fun z MX1 => qX12_hour  MM (fun b MM1 => Rel (k + 1) MX1 MM1)) := by
  refine fzX11_hour (fmX11_hour (sX11_hour  hR.1 (Q := fun _ M' => IX M') (fun _ _ h => h)) (Q' := fun _ M' => IX M' ∧ M' 182 2 = MX 182 2) (fun _ M' f h => ⟨h, f 182 2 (by omega)⟩)) ?_
  intro z MX1 zX hX
  refine fzX12_hour (fmX12_hour (sX12_hour  hR.2.1 (by omega) (Q := fun _ M' => IM (60000 * (k : Int) + 1000) M') (fun _ _ h => h)) (Q' := fun _ M' => IM (60000 * (k : Int) + 1000) M' ∧ M' 1 45 = MM 1 45) (fun _ M' f h => ⟨h, f 1 45 (by omega)⟩)) ?_
  intro b MM1 zM hM
  exact ⟨hX.1, hM.1.mono (by omega), by rw [zX, zM], by rw [hX.2, hM.2]; exact hR.2.2.2.1, fun j a q => by rw [zX] at q; omega⟩
theorem Rl_undo (k : Nat) (MX MM : Mem)  (hk : k < 512) (hMX : MR MX) (hMM : MR MM) (hR : Rel k MX MM) : qX11_undo  MX (fun z MX1 => qX12_undo  MM (fun b MM1 => Rel (k + 1) MX1 MM1)) := by
  refine fmX11_undo (sX11_undo  hR.1 (Q := fun _ M' => IX M') (fun _ _ h => h)) ?_
  intro z MX1 fX hX
  refine fmX12_undo (sX12_undo  hR.2.1 (Q := fun _ M' => IM (60000 * (k : Int)) M') (fun _ _ h => h)) ?_
  intro b MM1 fM hM
  exact ⟨hX, hM.mono (by omega), by rw [fX 156 1 (by first | omega | exact fun h => h), fM 1 14 (by first | omega | exact fun h => h)]; exact hR.2.2.1, by rw [fX 182 2 (by first | omega | exact fun h => h), fM 1 45 (by first | omega | exact fun h => h)]; exact hR.2.2.2.1, fun j a q => by rw [fX 157 j (by first | omega | exact fun h => h), fM 7 j (by first | omega | exact fun h => h)]; exact hR.2.2.2.2 j a (by rw [fX 156 1 (by first | omega | exact fun h => h)] at q; exact q)⟩
theorem Rl_line (k : Nat) (MX MM : Mem)  (hk : k < 512) (hMX : MR MX) (hMM : MR MM) (hR : Rel k MX MM) : qX11_line  MX (fun z MX1 => qX12_line  MM (fun b MM1 => Rel (k + 1) MX1 MM1)) := by
  refine fmX11_line (sX11_line  hR.1 (Q := fun _ M' => IX M') (fun _ _ h => h)) ?_
  intro z MX1 fX hX
  refine fmX12_line (sX12_line  hR.2.1 (Q := fun _ M' => IM (60000 * (k : Int)) M') (fun _ _ h => h)) ?_
  intro b MM1 fM hM
  exact ⟨hX, hM.mono (by omega), by rw [fX 156 1 (by first | omega | exact fun h => h), fM 1 14 (by first | omega | exact fun h => h)]; exact hR.2.2.1, by rw [fX 182 2 (by first | omega | exact fun h => h), fM 1 45 (by first | omega | exact fun h => h)]; exact hR.2.2.2.1, fun j a q => by rw [fX 157 j (by first | omega | exact fun h => h), fM 7 j (by first | omega | exact fun h => h)]; exact hR.2.2.2.2 j a (by rw [fX 156 1 (by first | omega | exact fun h => h)] at q; exact q)⟩
theorem Rl_ahead (k : Nat) (MX MM : Mem) (y1 : Int) (hy1 : iR y1) (hk : k < 512) (hMX : MR MX) (hMM : MR MM) (hR : Rel k MX MM) : qX11_ahead y1 MX (fun z MX1 => qX12_ahead y1 MM (fun b MM1 => Rel (k + 1) MX1 MM1)) := by
  refine fmX11_ahead (sX11_ahead (p1 := y1) hR.1 (Q := fun _ M' => IX M') (fun _ _ h => h)) ?_
  intro z MX1 fX hX
  refine fmX12_ahead (sX12_ahead (p1 := y1) hR.2.1 (by omega) (Q := fun _ M' => IM (60000 * (k : Int) + 200) M') (fun _ _ h => h)) ?_
  intro b MM1 fM hM
  exact ⟨hX, hM.mono (by omega), by rw [fX 156 1 (by first | omega | exact fun h => h), fM 1 14 (by first | omega | exact fun h => h)]; exact hR.2.2.1, by rw [fX 182 2 (by first | omega | exact fun h => h), fM 1 45 (by first | omega | exact fun h => h)]; exact hR.2.2.2.1, fun j a q => by rw [fX 157 j (by first | omega | exact fun h => h), fM 7 j (by first | omega | exact fun h => h)]; exact hR.2.2.2.2 j a (by rw [fX 156 1 (by first | omega | exact fun h => h)] at q; exact q)⟩
theorem Rl_arrives (k : Nat) (MX MM : Mem) (y1 : Int) (hy1 : iR y1) (hk : k < 512) (hMX : MR MX) (hMM : MR MM) (hR : Rel k MX MM) : qX11_arrives y1 MX (fun z MX1 => qX12_arrives y1 MM (fun b MM1 => Rel (k + 1) MX1 MM1)) := by
  refine fmX11_arrives (sX11_arrives (p1 := y1) hR.1 (Q := fun _ M' => IX M') (fun _ _ h => h)) ?_
  intro z MX1 fX hX
  refine fmX12_arrives (sX12_arrives (p1 := y1) hR.2.1 (by omega) (Q := fun _ M' => IM (60000 * (k : Int) + 201) M') (fun _ _ h => h)) ?_
  intro b MM1 fM hM
  exact ⟨hX, hM.mono (by omega), by rw [fX 156 1 (by first | omega | exact fun h => h), fM 1 14 (by first | omega | exact fun h => h)]; exact hR.2.2.1, by rw [fX 182 2 (by first | omega | exact fun h => h), fM 1 45 (by first | omega | exact fun h => h)]; exact hR.2.2.2.1, fun j a q => by rw [fX 157 j (by first | omega | exact fun h => h), fM 7 j (by first | omega | exact fun h => h)]; exact hR.2.2.2.2 j a (by rw [fX 156 1 (by first | omega | exact fun h => h)] at q; exact q)⟩
theorem Rl_jam (k : Nat) (MX MM : Mem) (y1 : Int) (hy1 : iR y1) (hk : k < 512) (hMX : MR MX) (hMM : MR MM) (hR : Rel k MX MM) : qX11_jam y1 MX (fun z MX1 => qX12_jam y1 MM (fun b MM1 => Rel (k + 1) MX1 MM1)) := by
  refine fmX11_jam (sX11_jam (p1 := y1) hR.1 (Q := fun _ M' => IX M') (fun _ _ h => h)) ?_
  intro z MX1 fX hX
  refine fmX12_jam (sX12_jam (p1 := y1) hR.2.1 (by omega) (Q := fun _ M' => IM (60000 * (k : Int) + 200) M') (fun _ _ h => h)) ?_
  intro b MM1 fM hM
  exact ⟨hX, hM.mono (by omega), by rw [fX 156 1 (by first | omega | exact fun h => h), fM 1 14 (by first | omega | exact fun h => h)]; exact hR.2.2.1, by rw [fX 182 2 (by first | omega | exact fun h => h), fM 1 45 (by first | omega | exact fun h => h)]; exact hR.2.2.2.1, fun j a q => by rw [fX 157 j (by first | omega | exact fun h => h), fM 7 j (by first | omega | exact fun h => h)]; exact hR.2.2.2.2 j a (by rw [fX 156 1 (by first | omega | exact fun h => h)] at q; exact q)⟩
theorem Rl_passes (k : Nat) (MX MM : Mem) (y1 y2 : Int) (hy1 : iR y1) (hy2 : iR y2) (hk : k < 512) (hMX : MR MX) (hMM : MR MM) (hR : Rel k MX MM) : qX11_passes y1 y2 MX (fun z MX1 => qX12_passes y1 y2 MM (fun b MM1 => Rel (k + 1) MX1 MM1)) := by
  refine fmX11_passes (sX11_passes (p1 := y1) (p2 := y2) hR.1 (Q := fun _ M' => IX M') (fun _ _ h => h)) ?_
  intro z MX1 fX hX
  refine fmX12_passes (sX12_passes (p1 := y1) (p2 := y2) hR.2.1 (by omega) (Q := fun _ M' => IM (60000 * (k : Int) + 62) M') (fun _ _ h => h)) ?_
  intro b MM1 fM hM
  exact ⟨hX, hM.mono (by omega), by rw [fX 156 1 (by first | omega | exact fun h => h), fM 1 14 (by first | omega | exact fun h => h)]; exact hR.2.2.1, by rw [fX 182 2 (by first | omega | exact fun h => h), fM 1 45 (by first | omega | exact fun h => h)]; exact hR.2.2.2.1, fun j a q => by rw [fX 157 j (by first | omega | exact fun h => h), fM 7 j (by first | omega | exact fun h => h)]; exact hR.2.2.2.2 j a (by rw [fX 156 1 (by first | omega | exact fun h => h)] at q; exact q)⟩
theorem Rl_ends (k : Nat) (MX MM : Mem) (y1 : Int) (hy1 : iR y1) (hk : k < 512) (hMX : MR MX) (hMM : MR MM) (hR : Rel k MX MM) : qX11_ends y1 MX (fun z MX1 => qX12_ends y1 MM (fun b MM1 => Rel (k + 1) MX1 MM1)) := by
  refine fmX11_ends (sX11_ends (p1 := y1) hR.1 (Q := fun _ M' => IX M') (fun _ _ h => h)) ?_
  intro z MX1 fX hX
  refine fmX12_ends (sX12_ends (p1 := y1) hR.2.1 (by omega) (Q := fun _ M' => IM (60000 * (k : Int) + 402) M') (fun _ _ h => h)) ?_
  intro b MM1 fM hM
  exact ⟨hX, hM.mono (by omega), by rw [fX 156 1 (by first | omega | exact fun h => h), fM 1 14 (by first | omega | exact fun h => h)]; exact hR.2.2.1, by rw [fX 182 2 (by first | omega | exact fun h => h), fM 1 45 (by first | omega | exact fun h => h)]; exact hR.2.2.2.1, fun j a q => by rw [fX 157 j (by first | omega | exact fun h => h), fM 7 j (by first | omega | exact fun h => h)]; exact hR.2.2.2.2 j a (by rw [fX 156 1 (by first | omega | exact fun h => h)] at q; exact q)⟩
theorem Rl_right (k : Nat) (MX MM : Mem)  (hk : k < 512) (hMX : MR MX) (hMM : MR MM) (hR : Rel k MX MM) : qX11_right  MX (fun z MX1 => qX12_right  MM (fun b MM1 => Rel (k + 1) MX1 MM1)) := by
  refine fmX11_right (sX11_right  hR.1 (Q := fun _ M' => IX M') (fun _ _ h => h)) ?_
  intro z MX1 fX hX
  refine fmX12_right (sX12_right  hR.2.1 (by omega) (Q := fun _ M' => IM (60000 * (k : Int) + 200) M') (fun _ _ h => h)) ?_
  intro b MM1 fM hM
  exact ⟨hX, hM.mono (by omega), by rw [fX 156 1 (by first | omega | exact fun h => h), fM 1 14 (by first | omega | exact fun h => h)]; exact hR.2.2.1, by rw [fX 182 2 (by first | omega | exact fun h => h), fM 1 45 (by first | omega | exact fun h => h)]; exact hR.2.2.2.1, fun j a q => by rw [fX 157 j (by first | omega | exact fun h => h), fM 7 j (by first | omega | exact fun h => h)]; exact hR.2.2.2.2 j a (by rw [fX 156 1 (by first | omega | exact fun h => h)] at q; exact q)⟩
theorem Rl_order (k : Nat) (MX MM : Mem)  (hk : k < 512) (hMX : MR MX) (hMM : MR MM) (hR : Rel k MX MM) : qX11_order  MX (fun z MX1 => qX12_order  MM (fun b MM1 => Rel (k + 1) MX1 MM1)) := by
  refine fmX11_order (sX11_order  hR.1 (Q := fun _ M' => IX M') (fun _ _ h => h)) ?_
  intro z MX1 fX hX
  refine fmX12_order (sX12_order  hR.2.1 (by omega) (Q := fun _ M' => IM (60000 * (k : Int) + 200) M') (fun _ _ h => h)) ?_
  intro b MM1 fM hM
  exact ⟨hX, hM.mono (by omega), by rw [fX 156 1 (by first | omega | exact fun h => h), fM 1 14 (by first | omega | exact fun h => h)]; exact hR.2.2.1, by rw [fX 182 2 (by first | omega | exact fun h => h), fM 1 45 (by first | omega | exact fun h => h)]; exact hR.2.2.2.1, fun j a q => by rw [fX 157 j (by first | omega | exact fun h => h), fM 7 j (by first | omega | exact fun h => h)]; exact hR.2.2.2.2 j a (by rw [fX 156 1 (by first | omega | exact fun h => h)] at q; exact q)⟩
theorem Rl_stands (k : Nat) (MX MM : Mem) (y1 : Int) (hy1 : iR y1) (hk : k < 512) (hMX : MR MX) (hMM : MR MM) (hR : Rel k MX MM) : qX11_stands y1 MX (fun z MX1 => qX12_stands y1 MM (fun b MM1 => Rel (k + 1) MX1 MM1)) := by
  refine fmX11_stands (sX11_stands (p1 := y1) hR.1 (Q := fun _ M' => IX M') (fun _ _ h => h)) ?_
  intro z MX1 fX hX
  refine fmX12_stands (sX12_stands (p1 := y1) hR.2.1 (by omega) (Q := fun _ M' => IM (60000 * (k : Int) + 6000) M') (fun _ _ h => h)) ?_
  intro b MM1 fM hM
  exact ⟨hX, hM.mono (by omega), by rw [fX 156 1 (by first | omega | exact fun h => h), fM 1 14 (by first | omega | exact fun h => h)]; exact hR.2.2.1, by rw [fX 182 2 (by first | omega | exact fun h => h), fM 1 45 (by first | omega | exact fun h => h)]; exact hR.2.2.2.1, fun j a q => by rw [fX 157 j (by first | omega | exact fun h => h), fM 7 j (by first | omega | exact fun h => h)]; exact hR.2.2.2.2 j a (by rw [fX 156 1 (by first | omega | exact fun h => h)] at q; exact q)⟩
theorem Rl_when (k : Nat) (MX MM : Mem) (y1 : Int) (hy1 : iR y1) (hk : k < 512) (hMX : MR MX) (hMM : MR MM) (hR : Rel k MX MM) : qX11_when y1 MX (fun z MX1 => qX12_when y1 MM (fun b MM1 => Rel (k + 1) MX1 MM1)) := by
  refine fmX11_when (sX11_when (p1 := y1) hR.1 (Q := fun _ M' => IX M') (fun _ _ h => h)) ?_
  intro z MX1 fX hX
  refine fmX12_when (sX12_when (p1 := y1) hR.2.1 (by omega) (Q := fun _ M' => IM (60000 * (k : Int) + 24400) M') (fun _ _ h => h)) ?_
  intro b MM1 fM hM
  exact ⟨hX, hM.mono (by omega), by rw [fX 156 1 (by first | omega | exact fun h => h), fM 1 14 (by first | omega | exact fun h => h)]; exact hR.2.2.1, by rw [fX 182 2 (by first | omega | exact fun h => h), fM 1 45 (by first | omega | exact fun h => h)]; exact hR.2.2.2.1, fun j a q => by rw [fX 157 j (by first | omega | exact fun h => h), fM 7 j (by first | omega | exact fun h => h)]; exact hR.2.2.2.2 j a (by rw [fX 156 1 (by first | omega | exact fun h => h)] at q; exact q)⟩
theorem Rl_mends (k : Nat) (MX MM : Mem) (y1 : Int) (hy1 : iR y1) (hk : k < 512) (hMX : MR MX) (hMM : MR MM) (hR : Rel k MX MM) : qX11_mends y1 MX (fun z MX1 => qX12_mends y1 MM (fun b MM1 => Rel (k + 1) MX1 MM1)) := by
  refine fmX11_mends (sX11_mends (p1 := y1) hR.1 (Q := fun _ M' => IX M') (fun _ _ h => h)) ?_
  intro z MX1 fX hX
  refine fmX12_mends (sX12_mends (p1 := y1) hR.2.1 (by omega) (Q := fun _ M' => IM (60000 * (k : Int) + 51200) M') (fun _ _ h => h)) ?_
  intro b MM1 fM hM
  exact ⟨hX, hM.mono (by omega), by rw [fX 156 1 (by first | omega | exact fun h => h), fM 1 14 (by first | omega | exact fun h => h)]; exact hR.2.2.1, by rw [fX 182 2 (by first | omega | exact fun h => h), fM 1 45 (by first | omega | exact fun h => h)]; exact hR.2.2.2.1, fun j a q => by rw [fX 157 j (by first | omega | exact fun h => h), fM 7 j (by first | omega | exact fun h => h)]; exact hR.2.2.2.2 j a (by rw [fX 156 1 (by first | omega | exact fun h => h)] at q; exact q)⟩
theorem Rl_misleads (k : Nat) (MX MM : Mem)  (hk : k < 512) (hMX : MR MX) (hMM : MR MM) (hR : Rel k MX MM) : qX11_misleads  MX (fun z MX1 => qX12_misleads  MM (fun b MM1 => Rel (k + 1) MX1 MM1)) := by
  refine fmX11_misleads (sX11_misleads  hR.1 (Q := fun _ M' => IX M') (fun _ _ h => h)) ?_
  intro z MX1 fX hX
  refine fmX12_misleads (sX12_misleads  hR.2.1 (by omega) (Q := fun _ M' => IM (60000 * (k : Int) + 1600) M') (fun _ _ h => h)) ?_
  intro b MM1 fM hM
  exact ⟨hX, hM.mono (by omega), by rw [fX 156 1 (by first | omega | exact fun h => h), fM 1 14 (by first | omega | exact fun h => h)]; exact hR.2.2.1, by rw [fX 182 2 (by first | omega | exact fun h => h), fM 1 45 (by first | omega | exact fun h => h)]; exact hR.2.2.2.1, fun j a q => by rw [fX 157 j (by first | omega | exact fun h => h), fM 7 j (by first | omega | exact fun h => h)]; exact hR.2.2.2.2 j a (by rw [fX 156 1 (by first | omega | exact fun h => h)] at q; exact q)⟩
theorem Rl_crowd (k : Nat) (MX MM : Mem)  (hk : k < 512) (hMX : MR MX) (hMM : MR MM) (hR : Rel k MX MM) : qX11_crowd  MX (fun z MX1 => qX12_crowd  MM (fun b MM1 => Rel (k + 1) MX1 MM1)) := by
  refine fmX11_crowd (sX11_crowd  hR.1 (Q := fun _ M' => IX M') (fun _ _ h => h)) ?_
  intro z MX1 fX hX
  refine fmX12_crowd (sX12_crowd  hR.2.1 (by omega) (Q := fun _ M' => IM (60000 * (k : Int) + 200) M') (fun _ _ h => h)) ?_
  intro b MM1 fM hM
  exact ⟨hX, hM.mono (by omega), by rw [fX 156 1 (by first | omega | exact fun h => h), fM 1 14 (by first | omega | exact fun h => h)]; exact hR.2.2.1, by rw [fX 182 2 (by first | omega | exact fun h => h), fM 1 45 (by first | omega | exact fun h => h)]; exact hR.2.2.2.1, fun j a q => by rw [fX 157 j (by first | omega | exact fun h => h), fM 7 j (by first | omega | exact fun h => h)]; exact hR.2.2.2.2 j a (by rw [fX 156 1 (by first | omega | exact fun h => h)] at q; exact q)⟩
theorem Rl_shares (k : Nat) (MX MM : Mem) (y1 : Int) (hy1 : iR y1) (hk : k < 512) (hMX : MR MX) (hMM : MR MM) (hR : Rel k MX MM) : qX11_shares y1 MX (fun z MX1 => qX12_shares y1 MM (fun b MM1 => Rel (k + 1) MX1 MM1)) := by
  refine fmX11_shares (sX11_shares (p1 := y1) hR.1 (Q := fun _ M' => IX M') (fun _ _ h => h)) ?_
  intro z MX1 fX hX
  refine fmX12_shares (sX12_shares (p1 := y1) hR.2.1 (Q := fun _ M' => IM (60000 * (k : Int)) M') (fun _ _ h => h)) ?_
  intro b MM1 fM hM
  exact ⟨hX, hM.mono (by omega), by rw [fX 156 1 (by first | omega | exact fun h => h), fM 1 14 (by first | omega | exact fun h => h)]; exact hR.2.2.1, by rw [fX 182 2 (by first | omega | exact fun h => h), fM 1 45 (by first | omega | exact fun h => h)]; exact hR.2.2.2.1, fun j a q => by rw [fX 157 j (by first | omega | exact fun h => h), fM 7 j (by first | omega | exact fun h => h)]; exact hR.2.2.2.2 j a (by rw [fX 156 1 (by first | omega | exact fun h => h)] at q; exact q)⟩
theorem Rl_strangers (k : Nat) (MX MM : Mem)  (hk : k < 512) (hMX : MR MX) (hMM : MR MM) (hR : Rel k MX MM) : qX11_strangers  MX (fun z MX1 => qX12_strangers  MM (fun b MM1 => Rel (k + 1) MX1 MM1)) := by
  refine fmX11_strangers (sX11_strangers  hR.1 (Q := fun _ M' => IX M') (fun _ _ h => h)) ?_
  intro z MX1 fX hX
  refine fmX12_strangers (sX12_strangers  hR.2.1 (Q := fun _ M' => IM (60000 * (k : Int)) M') (fun _ _ h => h)) ?_
  intro b MM1 fM hM
  exact ⟨hX, hM.mono (by omega), by rw [fX 156 1 (by first | omega | exact fun h => h), fM 1 14 (by first | omega | exact fun h => h)]; exact hR.2.2.1, by rw [fX 182 2 (by first | omega | exact fun h => h), fM 1 45 (by first | omega | exact fun h => h)]; exact hR.2.2.2.1, fun j a q => by rw [fX 157 j (by first | omega | exact fun h => h), fM 7 j (by first | omega | exact fun h => h)]; exact hR.2.2.2.2 j a (by rw [fX 156 1 (by first | omega | exact fun h => h)] at q; exact q)⟩
theorem Rl_doubts (k : Nat) (MX MM : Mem)  (hk : k < 512) (hMX : MR MX) (hMM : MR MM) (hR : Rel k MX MM) : qX11_doubts  MX (fun z MX1 => qX12_doubts  MM (fun b MM1 => Rel (k + 1) MX1 MM1)) := by
  refine fmX11_doubts (sX11_doubts  hR.1 (Q := fun _ M' => IX M') (fun _ _ h => h)) ?_
  intro z MX1 fX hX
  refine fmX12_doubts (sX12_doubts  hR.2.1 (Q := fun _ M' => IM (60000 * (k : Int)) M') (fun _ _ h => h)) ?_
  intro b MM1 fM hM
  exact ⟨hX, hM.mono (by omega), by rw [fX 156 1 (by first | omega | exact fun h => h), fM 1 14 (by first | omega | exact fun h => h)]; exact hR.2.2.1, by rw [fX 182 2 (by first | omega | exact fun h => h), fM 1 45 (by first | omega | exact fun h => h)]; exact hR.2.2.2.1, fun j a q => by rw [fX 157 j (by first | omega | exact fun h => h), fM 7 j (by first | omega | exact fun h => h)]; exact hR.2.2.2.2 j a (by rw [fX 156 1 (by first | omega | exact fun h => h)] at q; exact q)⟩
theorem Rl_heard (k : Nat) (MX MM : Mem) (y1 y2 : Int) (hy1 : iR y1) (hy2 : iR y2) (hk : k < 512) (hMX : MR MX) (hMM : MR MM) (hR : Rel k MX MM) : qX11_heard y1 y2 MX (fun z MX1 => qX12_heard y1 y2 MM (fun b MM1 => Rel (k + 1) MX1 MM1)) := by
  refine fmX11_heard (gX11_heard (p0 := y1) (p1 := y2) hR.1 (Q := fun z M' => IX M' ∧ ((MX 182 2 ≤ 7 ∧ ((y1 = 0 ∨ y1 = 2) ∧ 0 ≤ y2 ∧ y2 ≤ 8 ∨ y1 = 1 ∧ 1 ≤ y2 ∧ y2 ≤ 6 ∨ y1 = 3 ∧ (y2 = 0 ∨ y2 = 1))) ∧ z = MX 182 2 + 1 ∧ M' 182 2 = MX 182 2 + 1 ∨ ¬ (MX 182 2 ≤ 7 ∧ ((y1 = 0 ∨ y1 = 2) ∧ 0 ≤ y2 ∧ y2 ≤ 8 ∨ y1 = 1 ∧ 1 ≤ y2 ∧ y2 ≤ 6 ∨ y1 = 3 ∧ (y2 = 0 ∨ y2 = 1))) ∧ z = -1 ∧ M' 182 2 = MX 182 2)) (fun z M' h q => ⟨h, q⟩)) ?_
  intro z MX1 fX hX
  refine fmX12_heard (gX12_heard (p0 := y1) (p1 := y2) hR.2.1 hy2 (Q := fun z M' => IM (60000 * (k : Int)) M' ∧ ((MM 1 45 ≤ 7 ∧ ((y1 = 0 ∨ y1 = 2) ∧ 0 ≤ y2 ∧ y2 ≤ 8 ∨ y1 = 1 ∧ 1 ≤ y2 ∧ y2 ≤ 6 ∨ y1 = 3 ∧ (y2 = 0 ∨ y2 = 1))) ∧ z = MM 1 45 + 1 ∧ M' 1 45 = MM 1 45 + 1 ∨ ¬ (MM 1 45 ≤ 7 ∧ ((y1 = 0 ∨ y1 = 2) ∧ 0 ≤ y2 ∧ y2 ≤ 8 ∨ y1 = 1 ∧ 1 ≤ y2 ∧ y2 ≤ 6 ∨ y1 = 3 ∧ (y2 = 0 ∨ y2 = 1))) ∧ z = -1 ∧ M' 1 45 = MM 1 45)) (fun z M' h q => ⟨h, q⟩)) ?_
  intro b MM1 fM hM
  have e : MX 182 2 = MM 1 45 := hR.2.2.2.1
  have e2 : MX1 156 1 = MM1 1 14 := by rw [fX 156 1 (by first | omega | exact fun h => h), fM 1 14 (by first | omega | exact fun h => h)]; exact hR.2.2.1
  obtain ⟨iX, gX⟩ := hX
  obtain ⟨iM, gM⟩ := hM
  exact ⟨iX, iM.mono (by omega), e2, by omega, fun j a q => by rw [fX 157 j (by omega), fM 7 j (by omega)]; exact hR.2.2.2.2 j a (by rw [fX 156 1 (by omega)] at q; exact q)⟩
theorem Rl_forget (k : Nat) (MX MM : Mem)  (hk : k < 512) (hMX : MR MX) (hMM : MR MM) (hR : Rel k MX MM) : qX11_forget  MX (fun z MX1 => qX12_forget  MM (fun b MM1 => Rel (k + 1) MX1 MM1)) := by
  refine fmX11_forget (gX11_forget hR.1 (Q := fun z M' => IX M' ∧ z = MX 182 2 ∧ M' 182 2 = 0) (fun z M' h q r => ⟨h, q, r⟩)) ?_
  intro z MX1 fX hX
  refine fmX12_forget (gX12_forget hR.2.1 (Q := fun z M' => IM (60000 * (k : Int)) M' ∧ z = MM 1 45 ∧ M' 1 45 = 0) (fun z M' h q r => ⟨h, q, r⟩)) ?_
  intro b MM1 fM hM
  have e : MX 182 2 = MM 1 45 := hR.2.2.2.1
  have e2 : MX1 156 1 = MM1 1 14 := by rw [fX 156 1 (by first | omega | exact fun h => h), fM 1 14 (by first | omega | exact fun h => h)]; exact hR.2.2.1
  exact ⟨hX.1, hM.1.mono (by omega), e2, by rw [hX.2.2, hM.2.2], fun j a q => by rw [fX 157 j (by omega), fM 7 j (by omega)]; exact hR.2.2.2.2 j a (by rw [fX 156 1 (by omega)] at q; exact q)⟩
theorem Rl_fits (k : Nat) (MX MM : Mem)  (hk : k < 512) (hMX : MR MX) (hMM : MR MM) (hR : Rel k MX MM) : qX11_fits  MX (fun z MX1 => qX12_fits  MM (fun b MM1 => Rel (k + 1) MX1 MM1)) := by
  refine fmX11_fits (sX11_fits  hR.1 (Q := fun _ M' => IX M') (fun _ _ h => h)) ?_
  intro z MX1 fX hX
  refine fmX12_fits (sX12_fits  hR.2.1 (by omega) (Q := fun _ M' => IM (60000 * (k : Int) + 200) M') (fun _ _ h => h)) ?_
  intro b MM1 fM hM
  exact ⟨hX, hM.mono (by omega), by rw [fX 156 1 (by first | omega | exact fun h => h), fM 1 14 (by first | omega | exact fun h => h)]; exact hR.2.2.1, by rw [fX 182 2 (by first | omega | exact fun h => h), fM 1 45 (by first | omega | exact fun h => h)]; exact hR.2.2.2.1, fun j a q => by rw [fX 157 j (by first | omega | exact fun h => h), fM 7 j (by first | omega | exact fun h => h)]; exact hR.2.2.2.2 j a (by rw [fX 156 1 (by first | omega | exact fun h => h)] at q; exact q)⟩
theorem Rl_rains (k : Nat) (MX MM : Mem) (y1 y2 y3 : Int) (hy1 : iR y1) (hy2 : iR y2) (hy3 : iR y3) (hk : k < 512) (hMX : MR MX) (hMM : MR MM) (hR : Rel k MX MM) : qX11_rains y1 y2 y3 MX (fun z MX1 => qX12_rains y1 y2 y3 MM (fun b MM1 => Rel (k + 1) MX1 MM1)) := by
  refine fmX11_rains (sX11_rains (p1 := y1) (p2 := y2) (p3 := y3) hR.1 (Q := fun _ M' => IX M') (fun _ _ h => h)) ?_
  intro z MX1 fX hX
  refine fmX12_rains (sX12_rains (p1 := y1) (p2 := y2) (p3 := y3) hR.2.1 (Q := fun _ M' => IM (60000 * (k : Int)) M') (fun _ _ h _ => h)) ?_
  intro b MM1 fM hM
  exact ⟨hX, hM.mono (by omega), by rw [fX 156 1 (by first | omega | exact fun h => h), fM 1 14 (by first | omega | exact fun h => h)]; exact hR.2.2.1, by rw [fX 182 2 (by first | omega | exact fun h => h), fM 1 45 (by first | omega | exact fun h => h)]; exact hR.2.2.2.1, fun j a q => by rw [fX 157 j (by first | omega | exact fun h => h), fM 7 j (by first | omega | exact fun h => h)]; exact hR.2.2.2.2 j a (by rw [fX 156 1 (by first | omega | exact fun h => h)] at q; exact q)⟩
theorem Rl_law (k : Nat) (MX MM : Mem)  (hk : k < 512) (hMX : MR MX) (hMM : MR MM) (hR : Rel k MX MM) : qX11_law  MX (fun z MX1 => qX12_law  MM (fun b MM1 => Rel (k + 1) MX1 MM1)) := by
  refine fzX11_law (fmX11_law (sX11_law  hR.1 (Q := fun _ M' => IX M') (fun _ _ h => h)) (Q' := fun _ M' => IX M' ∧ M' 182 2 = MX 182 2) (fun _ M' f h => ⟨h, f 182 2 (by omega)⟩)) ?_
  intro z MX1 zX hX
  refine fzX12_law (fmX12_law (sX12_law  hR.2.1 (by omega) (Q := fun _ M' => IM (60000 * (k : Int) + 400) M') (fun _ _ h => h)) (Q' := fun _ M' => IM (60000 * (k : Int) + 400) M' ∧ M' 1 45 = MM 1 45) (fun _ M' f h => ⟨h, f 1 45 (by omega)⟩)) ?_
  intro b MM1 zM hM
  exact ⟨hX.1, hM.1.mono (by omega), by rw [zX, zM], by rw [hX.2, hM.2]; exact hR.2.2.2.1, fun j a q => by rw [zX] at q; omega⟩
theorem Rl_rests (k : Nat) (MX MM : Mem) (y1 : Int) (hy1 : iR y1) (hk : k < 512) (hMX : MR MX) (hMM : MR MM) (hR : Rel k MX MM) : qX11_rests y1 MX (fun z MX1 => qX12_rests y1 MM (fun b MM1 => Rel (k + 1) MX1 MM1)) := by
  refine fmX11_rests (sX11_rests (p1 := y1) hR.1 (Q := fun _ M' => IX M') (fun _ _ h => h)) ?_
  intro z MX1 fX hX
  refine fmX12_rests (sX12_rests (p1 := y1) hR.2.1 (Q := fun _ M' => IM (60000 * (k : Int)) M') (fun _ _ h => h)) ?_
  intro b MM1 fM hM
  exact ⟨hX, hM.mono (by omega), by rw [fX 156 1 (by first | omega | exact fun h => h), fM 1 14 (by first | omega | exact fun h => h)]; exact hR.2.2.1, by rw [fX 182 2 (by first | omega | exact fun h => h), fM 1 45 (by first | omega | exact fun h => h)]; exact hR.2.2.2.1, fun j a q => by rw [fX 157 j (by first | omega | exact fun h => h), fM 7 j (by first | omega | exact fun h => h)]; exact hR.2.2.2.2 j a (by rw [fX 156 1 (by first | omega | exact fun h => h)] at q; exact q)⟩
theorem Rl_years (k : Nat) (MX MM : Mem) (y1 y2 : Int) (hy1 : iR y1) (hy2 : iR y2) (hk : k < 512) (hMX : MR MX) (hMM : MR MM) (hR : Rel k MX MM) : qX11_years y1 y2 MX (fun z MX1 => qX12_years y1 y2 MM (fun b MM1 => Rel (k + 1) MX1 MM1)) := by
  refine fmX11_years (sX11_years (p1 := y1) (p2 := y2) hR.1 (Q := fun _ M' => IX M') (fun _ _ h => h)) ?_
  intro z MX1 fX hX
  refine fmX12_years (sX12_years (p1 := y1) (p2 := y2) hR.2.1 (by omega) (Q := fun _ M' => IM (60000 * (k : Int) + 60) M') (fun _ _ h => h)) ?_
  intro b MM1 fM hM
  exact ⟨hX, hM.mono (by omega), by rw [fX 156 1 (by first | omega | exact fun h => h), fM 1 14 (by first | omega | exact fun h => h)]; exact hR.2.2.1, by rw [fX 182 2 (by first | omega | exact fun h => h), fM 1 45 (by first | omega | exact fun h => h)]; exact hR.2.2.2.1, fun j a q => by rw [fX 157 j (by first | omega | exact fun h => h), fM 7 j (by first | omega | exact fun h => h)]; exact hR.2.2.2.2 j a (by rw [fX 156 1 (by first | omega | exact fun h => h)] at q; exact q)⟩
theorem Rl_keep (k : Nat) (MX MM : Mem) (y1 : Int) (hy1 : iR y1) (hk : k < 512) (hMX : MR MX) (hMM : MR MM) (hR : Rel k MX MM) : qX11_keep y1 MX (fun z MX1 => qX12_keep y1 MM (fun b MM1 => Rel (k + 1) MX1 MM1)) := by
  refine fmX11_keep (sX11_keep (p1 := y1) hR.1 (Q := fun _ M' => IX M') (fun _ _ h => h)) ?_
  intro z MX1 fX hX
  refine fmX12_keep (sX12_keep (p1 := y1) hR.2.1 (Q := fun _ M' => IM (60000 * (k : Int)) M') (fun _ _ h _ => h)) ?_
  intro b MM1 fM hM
  exact ⟨hX, hM.mono (by omega), by rw [fX 156 1 (by first | omega | exact fun h => h), fM 1 14 (by first | omega | exact fun h => h)]; exact hR.2.2.1, by rw [fX 182 2 (by first | omega | exact fun h => h), fM 1 45 (by first | omega | exact fun h => h)]; exact hR.2.2.2.1, fun j a q => by rw [fX 157 j (by first | omega | exact fun h => h), fM 7 j (by first | omega | exact fun h => h)]; exact hR.2.2.2.2 j a (by rw [fX 156 1 (by first | omega | exact fun h => h)] at q; exact q)⟩
theorem Rl_again (k : Nat) (MX MM : Mem) (y1 : Int) (hy1 : iR y1) (hk : k < 512) (hMX : MR MX) (hMM : MR MM) (hR : Rel k MX MM) : qX11_again y1 MX (fun z MX1 => qX12_again y1 MM (fun b MM1 => Rel (k + 1) MX1 MM1)) := by
  refine fmX11_again (sX11_again (p1 := y1) hR.1 (Q := fun _ M' => IX M') (fun _ _ h => h)) ?_
  intro z MX1 fX hX
  refine fmX12_again (sX12_again (p1 := y1) hR.2.1 (Q := fun _ M' => IM (60000 * (k : Int)) M') (fun _ _ h => h)) ?_
  intro b MM1 fM hM
  exact ⟨hX, hM.mono (by omega), by rw [fX 156 1 (by first | omega | exact fun h => h), fM 1 14 (by first | omega | exact fun h => h)]; exact hR.2.2.1, by rw [fX 182 2 (by first | omega | exact fun h => h), fM 1 45 (by first | omega | exact fun h => h)]; exact hR.2.2.2.1, fun j a q => by rw [fX 157 j (by first | omega | exact fun h => h), fM 7 j (by first | omega | exact fun h => h)]; exact hR.2.2.2.2 j a (by rw [fX 156 1 (by first | omega | exact fun h => h)] at q; exact q)⟩
theorem Rl_count (k : Nat) (MX MM : Mem) (y1 : Int) (hy1 : iR y1) (hk : k < 512) (hMX : MR MX) (hMM : MR MM) (hR : Rel k MX MM) : qX11_count y1 MX (fun z MX1 => qX12_count y1 MM (fun b MM1 => Rel (k + 1) MX1 MM1)) := by
  refine fmX11_count (sX11_count (p1 := y1) hR.1 (Q := fun _ M' => IX M') (fun _ => hR.1)) ?_
  intro z MX1 fX hX
  refine fmX12_count (sX12_count (p1 := y1) hR.2.1 (Q := fun _ M' => IM (60000 * (k : Int)) M') (fun _ _ h => h)) ?_
  intro b MM1 fM hM
  exact ⟨hX, hM.mono (by omega), by rw [fX 156 1 (by first | omega | exact fun h => h), fM 1 14 (by first | omega | exact fun h => h)]; exact hR.2.2.1, by rw [fX 182 2 (by first | omega | exact fun h => h), fM 1 45 (by first | omega | exact fun h => h)]; exact hR.2.2.2.1, fun j a q => by rw [fX 157 j (by first | omega | exact fun h => h), fM 7 j (by first | omega | exact fun h => h)]; exact hR.2.2.2.2 j a (by rw [fX 156 1 (by first | omega | exact fun h => h)] at q; exact q)⟩
theorem Rl_row (k : Nat) (MX MM : Mem) (y1 : Int) (hy1 : iR y1) (hk : k < 512) (hMX : MR MX) (hMM : MR MM) (hR : Rel k MX MM) : qX11_row y1 MX (fun z MX1 => qX12_row y1 MM (fun b MM1 => Rel (k + 1) MX1 MM1)) (fun MX1 => qX12_row y1 MM (fun b MM1 => Rel (k + 1) MX1 MM1)) := by
  refine fmX11_row (sX11_row (p1 := y1) hR.1 (Q := fun _ M' => IX M') (E := fun M' => IX M') (fun _ _ h => h) (fun _ h => h)) ?_ ?_
  · intro z MX1 fX hX
    refine fmX12_row (sX12_row (p1 := y1) hR.2.1 (Q := fun _ M' => IM (60000 * (k : Int)) M') (fun _ _ h => h)) ?_
    intro b MM1 fM hM
    exact ⟨hX, hM.mono (by omega), by rw [fX 156 1 (by first | omega | exact fun h => h), fM 1 14 (by first | omega | exact fun h => h)]; exact hR.2.2.1, by rw [fX 182 2 (by first | omega | exact fun h => h), fM 1 45 (by first | omega | exact fun h => h)]; exact hR.2.2.2.1, fun j a q => by rw [fX 157 j (by first | omega | exact fun h => h), fM 7 j (by first | omega | exact fun h => h)]; exact hR.2.2.2.2 j a (by rw [fX 156 1 (by first | omega | exact fun h => h)] at q; exact q)⟩
  · intro MX1 fX hX
    refine fmX12_row (sX12_row (p1 := y1) hR.2.1 (Q := fun _ M' => IM (60000 * (k : Int)) M') (fun _ _ h => h)) ?_
    intro b MM1 fM hM
    exact ⟨hX, hM.mono (by omega), by rw [fX 156 1 (by first | omega | exact fun h => h), fM 1 14 (by first | omega | exact fun h => h)]; exact hR.2.2.1, by rw [fX 182 2 (by first | omega | exact fun h => h), fM 1 45 (by first | omega | exact fun h => h)]; exact hR.2.2.2.1, fun j a q => by rw [fX 157 j (by first | omega | exact fun h => h), fM 7 j (by first | omega | exact fun h => h)]; exact hR.2.2.2.2 j a (by rw [fX 156 1 (by first | omega | exact fun h => h)] at q; exact q)⟩
theorem BM_0 {k : Nat} {j : Int} (h : ¬ (k = 1 ∧ j = 3)) (h2 : ¬ (k = 1 ∧ j = 7)) : BM 0 k j 0 := by
  by_cases c : k = 5 ∨ k = 6
  · exact (bm_n c).mpr ⟨by omega, by omega, by omega, by omega⟩
  by_cases c15 : k = 15
  · subst c15; exact bm_c15.mpr ⟨by omega, by omega, by omega, by omega⟩
  by_cases c31 : k = 31
  · subst c31; exact bm_c31.mpr ⟨by omega, by omega, by omega, by omega⟩
  by_cases c1 : k = 1
  · subst c1
    by_cases d1 : j = 1
    · subst d1; exact bm_c1_1.mpr (by decide)
    by_cases d3 : j = 3
    · exact absurd ⟨rfl, d3⟩ h
    by_cases d4 : j = 4
    · subst d4; exact bm_c1_4.mpr (by decide)
    by_cases d5 : j = 5
    · subst d5; exact bm_c1_5.mpr (by decide)
    by_cases d6 : j = 6
    · subst d6; exact bm_c1_6.mpr (by decide)
    by_cases d7 : j = 7
    · exact absurd ⟨rfl, d7⟩ h2
    by_cases d14 : j = 14
    · subst d14; exact bm_c1_14.mpr (by decide)
    by_cases d15 : j = 15
    · subst d15; exact bm_c1_15.mpr (by decide)
    by_cases d16 : j = 16
    · subst d16; exact bm_c1_16.mpr (by decide)
    by_cases d20 : j = 20
    · subst d20; exact bm_c1_20.mpr (by decide)
    by_cases d24 : j = 24
    · subst d24; exact bm_c1_24.mpr (by decide)
    by_cases d25 : j = 25
    · subst d25; exact bm_c1_25.mpr (by decide)
    by_cases d28 : j = 28
    · subst d28; exact bm_c1_28.mpr (by decide)
    by_cases d35 : j = 35
    · subst d35; exact bm_c1_35.mpr (by decide)
    by_cases d39 : j = 39
    · subst d39; exact bm_c1_39.mpr (by decide)
    by_cases d45 : j = 45
    · subst d45; exact bm_c1_45.mpr (by decide)
    simp [BM, d1, d3, d4, d5, d6, d7, d14, d15, d16, d20, d24, d25, d28, d35, d39, d45]
  by_cases c3 : k = 3
  · subst c3; exact bm_c3.mpr (by decide)
  by_cases c7 : k = 7
  · subst c7; exact bm_c7.mpr (by decide)
  by_cases c8 : k = 8
  · subst c8; exact bm_c8.mpr (by decide)
  by_cases c9 : k = 9
  · subst c9; exact bm_c9.mpr (by decide)
  by_cases c18 : k = 18
  · subst c18; exact bm_c18.mpr (by decide)
  by_cases c20 : k = 20
  · subst c20; exact bm_c20.mpr (by decide)
  by_cases c21 : k = 21
  · subst c21; exact bm_c21.mpr (by decide)
  by_cases c22 : k = 22
  · subst c22; exact bm_c22.mpr (by decide)
  unfold BM
  rw [if_neg c, if_neg (by omega)]
  simp [c1, c3, c7, c8, c9, c18, c20, c21, c22]
theorem BX_0 {k : Nat} {j : Int} (h : ¬ (k = 158 ∧ j = 1)) : BX k j 0 := by
  by_cases h0 : k = 0
  · simp [BX, h0]
  by_cases h155 : k < 155
  · unfold BX
    rw [if_neg h0, if_pos h155]
    by_cases r0 : (k - 1) % 7 = 0
    · rw [if_pos r0]
      by_cases d6 : j = 6
      · rw [if_pos d6]; decide
      · rw [if_neg d6]
        by_cases d7 : j = 7
        · rw [if_pos d7]; decide
        · rw [if_neg d7]; trivial
    · rw [if_neg r0]
      by_cases r1 : (k - 1) % 7 = 1
      · rw [if_pos r1]; decide
      · rw [if_neg r1]
        by_cases r3 : (k - 1) % 7 = 3
        · rw [if_pos r3]; decide
        · rw [if_neg r3]
          by_cases r4 : (k - 1) % 7 = 4
          · rw [if_pos r4]; decide
          · rw [if_neg r4]
            by_cases r5 : (k - 1) % 7 = 5
            · rw [if_pos r5]; decide
            · rw [if_neg r5]; trivial
  by_cases c156 : k = 156
  · subst c156
    by_cases d1 : j = 1
    · subst d1; exact bx_c156_1.mpr (by decide)
    by_cases d2 : j = 2
    · subst d2; exact bx_c156_2.mpr (by decide)
    by_cases d3 : j = 3
    · subst d3; exact bx_c156_3.mpr (by decide)
    simp [BX, d1, d2, d3]
  by_cases c157 : k = 157
  · subst c157; exact bx_c157.mpr (by decide)
  by_cases c158 : k = 158
  · subst c158
    by_cases d1 : j = 1
    · exact absurd ⟨rfl, d1⟩ h
    by_cases d3 : j = 3
    · subst d3; exact bx_c158_3.mpr (by decide)
    simp [BX, d1, d3]
  by_cases c163 : k = 163
  · subst c163
    by_cases d1 : j = 1
    · subst d1; exact bx_c163_1.mpr (by decide)
    by_cases d2 : j = 2
    · subst d2; exact bx_c163_2.mpr (by decide)
    simp [BX, d1, d2]
  by_cases c167 : k = 167
  · subst c167
    by_cases d1 : j = 1
    · subst d1; exact bx_c167_1.mpr (by decide)
    simp [BX, d1]
  by_cases c168 : k = 168
  · subst c168
    by_cases d1 : j = 1
    · subst d1; exact bx_c168_1.mpr (by decide)
    simp [BX, d1]
  by_cases c179 : k = 179
  · subst c179
    by_cases d2 : j = 2
    · subst d2; exact bx_c179_2.mpr (by decide)
    simp [BX, d2]
  by_cases c180 : k = 180
  · subst c180; exact bx_c180.mpr (by decide)
  by_cases c182 : k = 182
  · subst c182
    by_cases d2 : j = 2
    · subst d2; exact bx_c182_2.mpr (by decide)
    simp [BX, d2]
  by_cases c185 : k = 185
  · subst c185
    by_cases d1 : j = 1
    · subst d1; exact bx_c185_1.mpr (by decide)
    by_cases d2 : j = 2
    · subst d2; exact bx_c185_2.mpr (by decide)
    simp [BX, d1, d2]
  by_cases cl : k = 187 ∨ k = 192
  · by_cases d4 : j = 4
    · subst d4; exact (bx_l4 cl).mpr (by decide)
    · exact bx_lf0 cl d4
  by_cases cr : 170 ≤ k ∧ k ≤ 178
  · have e : k = 170 + ((k : Int) - 170).toNat := by omega
    rw [e]
    exact (bx_sh (e := (k : Int) - 170) (by omega) (by omega)).mpr ⟨by omega, by omega⟩
  unfold BX
  rw [if_neg h0, if_neg h155]
  simp only [if_neg cl, if_neg cr, if_neg c156, if_neg c157, if_neg c158, if_neg c163, if_neg c167, if_neg c168, if_neg c179, if_neg c180, if_neg c182, if_neg c185]
theorem IX_MX0 : IX MX0 := by
  refine ⟨fun k j => ?_, Or.inl ⟨by simp [MX0], by simp [MX0]⟩, fun k j hk he => ?_⟩
  · unfold MX0
    split
    · rename_i c; rw [c.1, c.2]; exact bx_c158_1.mpr (by decide)
    · rename_i c1
      split
      · rename_i c; rw [c.1, c.2]; exact bx_c158_3.mpr (by decide)
      · split
        · rename_i c; rw [c.1, c.2]; simp [BX]
        · split
          · rename_i c; rw [c.1, c.2]; simp [BX]
          · split
            · rename_i c; rw [c.1, c.2]; simp [BX]
            · exact BX_0 c1
  · exfalso
    have : MX0 (k + 1) j = 0 := by
      unfold MX0
      rcases hk with rfl | rfl <;> simp
    omega
theorem IM_MM0 : IM 0 MM0 := by
  refine ⟨fun k j => ?_, ?_⟩
  · unfold MM0
    split
    · rename_i c; rw [c.1, c.2]; exact bm_c1_3.mpr (by decide)
    · rename_i c1
      split
      · rename_i c; rw [c.1, c.2]; exact bm_c1_7.mpr (by decide)
      · rename_i c2
        exact BM_0 c1 c2
  · intro j hj
    exfalso
    have : MM0 1 24 = 0 := by simp [MM0]
    omega
theorem Rel_init : qInit (fun MX => Rel 0 MX MM0) := by
  unfold qInit
  refine fmX2_becomePlain (sX2_becomePlain (k0 := 187) IX_MX0 (Or.inl rfl) (Q := fun M' => IX M') (fun _ h => h)) ?_
  intro M1 f1 h1
  refine ⟨h1.l17, ?_⟩
  have w := h1.l17
  have w2 : (M1 155 17).toNat = 187 ∨ (M1 155 17).toNat = 192 := w
  refine fmX2_becomePlain (sX2_becomePlain h1 h1.l17 (Q := fun M' => IX M') (fun _ h => h)) ?_
  intro M2 f2 h2
  refine ⟨h2, IM_MM0.mono (by omega), ?_, ?_, fun j a q => ?_⟩
  · rw [f2 156 1 (by omega), f1 156 1 (by omega)]; simp [MX0, MM0]
  · rw [f2 182 2 (by omega), f1 182 2 (by omega)]; simp [MX0, MM0]
  · rw [f2 156 1 (by omega), f1 156 1 (by omega)] at q
    simp [MX0] at q
    omega
