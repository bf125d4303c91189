/-! law, alike on both sides -/
theorem Cl_law (k : Nat) (MX MM : Mem)  (hk : k < 512) (hMX : MR MX) (hMM : MR MM) (hR : Rel k MX MM) : qX11_law  MX (fun z MX1 => qX12_law  MM (fun b MM1 => z = b ∧ Rel (k + 1) MX1 MM1)) := by
  have S := hR.S
  have r37 := hR.r37 hk
  have e := hR.2.2.1
  have h37 : (cr (MM 5) (MM 6)) 37 ≤ 1999990000 := by rw [cr_i (by decide) (by decide)]; omega
  have C := S.2.2.1.cr hR.E0 (g := MM 6)
  have W := S.2.2.2.1.cr hR.E0 (g := MM 6)
  have Fo : fol (cut MM) (cr (MM 5) (MM 6)) := hR.f.cg hR.E0 S.2.2.2.1 (fun j p q => cr_i p q)
  -- both behind the call
  have fin : ∀ (z b : Int) (MX1 MM1 : Mem), z = b → IX MX1 → IM (60000 * (k : Int) + 400) MM1 → MX1 156 1 = 0 → MM1 1 14 = 0 → MX1 182 2 = MX 182 2 → MM1 1 45 = MM 1 45 → (∀ j, MX1 183 j = MX 183 j ∧ MX1 184 j = MX 184 j ∧ MM1 26 j = MM 26 j ∧ MM1 27 j = MM 27 j) → MX1 155 16 = MX 155 16 → (∀ (k : Nat) (j : Int), (MX 155 16).toNat ≤ k → k ≤ (MX 155 16).toNat + 2 → MX1 k j = MX k j) → MM1 1 24 = MM 1 24 → (∀ j, 0 ≤ j → j < MM 1 24 → MM1 11 j = MM 11 j) → (∀ (k : Nat) (j : Int), cE k j → k ≠ 11 → ¬ (k = 1 ∧ j = 24) → MM1 k j = MM k j) → Ks (fun k _ => k = 0 ∨ (8 ≤ k ∧ k ≤ 28) ∨ (155 ≤ k ∧ k ≤ 157) ∨ (160 ≤ k ∧ k ≤ 162) ∨ (164 ≤ k ∧ k ≤ 165) ∨ 167 ≤ k) MX MX1 → (∀ (k : Nat) (j : Int), k = 5 ∨ k = 15 ∨ k = 29 ∨ k = 30 ∨ k = 31 ∨ (k = 1 ∧ (j = 5 ∨ j = 6 ∨ j = 28)) → MM1 k j = MM k j) → z = b ∧ Rel (k + 1) MX1 MM1 := by
    intro z b MX1 MM1 ez iX iM lX lM x182 m45 hh x0 x1 m0 m1 mc kx km
    refine ⟨ez, hR.t iX iM (by omega) lX lM x182 m45 hh (hR.F.fr km) ?_⟩
    refine S.rule hR.E0 hR.1 (fun k j h1 h2 => ?_) kx ?_ (fun k j h => km k j (by omega))
    · by_cases h : cE k j
      · rw [cut_p h, cut_p h]
        exact mc k j h h1 h2
      · unfold cut
        rw [if_neg h, if_neg h]
    · rw [x0]
      refine (S.2.1.fr (x1 _ _ (by omega) (by omega)) (x1 _ _ (by omega) (by omega)) (fun j => x1 _ j (by omega) (by omega)) (fun j => x1 _ j (by omega) (by omega))).ce ?_ (fun j a q => ?_)
      · rw [cut124, cut124]
        exact m0
      · rw [cut124] at q
        rw [cut11, cut11]
        exact m1 j a q
  have REF : ∀ (z : Int) (MX1 : Mem), IX MX1 → MX1 156 1 = 0 → MX1 182 2 = MX 182 2 → (∀ j, MX1 183 j = MX 183 j ∧ MX1 184 j = MX 184 j) → MX1 155 16 = MX 155 16 → (∀ (k : Nat) (j : Int), (MX 155 16).toNat ≤ k → k ≤ (MX 155 16).toNat + 2 → MX1 k j = MX k j) → Ks (fun k _ => k = 0 ∨ (8 ≤ k ∧ k ≤ 28) ∨ (155 ≤ k ∧ k ≤ 157) ∨ (160 ≤ k ∧ k ≤ 162) ∨ (164 ≤ k ∧ k ≤ 165) ∨ 167 ≤ k) MX MX1 → (∀ E2, LAQ (cut MM) (MM 7) (MM 1 14) E2 → z = lwA (cut MM) E2 (MM 7) (MM 1 14) (cr (MM 5) (MM 6))) → (rlz (MM 7) (MM 1 14) ≠ -1 → z = -10000 - rlz (MM 7) (MM 1 14)) → qX12_law  MM (fun b MM1 => z = b ∧ Rel (k + 1) MX1 MM1) := by
    intro z MX1 iX lX x182 h183 x0 x1 kx hy hn
    refine fmX12_law (fzX12_law (gX12_lawV (f := MM 7) hR.2.1 hR.own W (by omega) (fun _ _ _ => rfl) (Q := fun b M' => IM (60000 * (k : Int) + 400) M' ∧ M' 1 24 = MM 1 24 ∧ (∀ j, 0 ≤ j → j < MM 1 24 → M' 11 j = MM 11 j) ∧ z = b) (fun b M' i a c y n => ⟨i, a, c, ?_⟩)) (Q' := fun b M' => M' 1 14 = 0 ∧ IM (60000 * (k : Int) + 400) M' ∧ M' 1 24 = MM 1 24 ∧ (∀ j, 0 ≤ j → j < MM 1 24 → M' 11 j = MM 11 j) ∧ z = b) (fun _ M' z h => ⟨z, h⟩)) ?_
    · by_cases c : rlz (MM 7) (MM 1 14) = -1
      · obtain ⟨E2, A, eb⟩ := y c
        rw [eb]
        exact hy E2 A
      · rw [n c]
        exact hn c
    · intro b MM1 fM hM
      obtain ⟨lM, iM, m0, m1, ez⟩ := hM
      exact fin z b MX1 MM1 ez iX iM lX lM x182 (fM 1 45 (by omega)) (fun j => ⟨(h183 j).1, (h183 j).2, fM 26 j (by omega), fM 27 j (by omega)⟩) x0 x1 m0 m1 (fun k j h h1 h2 => fM k j (by omega)) kx (fun k j h => fM k j (by omega))
  by_cases ex : ∃ E2, LAQ (cut MM) (MM 7) (MM 1 14) E2
  · obtain ⟨E2, A⟩ := ex
    refine fmX11_law (fzX11_law (gX11_lawV (E2 := E2) (f := MM 7) hR.tb (fun j p q => hR.2.2.2.2.1 j p q) (by rw [e]; exact A) C W Fo (by omega) (Q := fun z M' => z = lwA (cut MM) E2 (MM 7) (MM 1 14) (cr (MM 5) (MM 6)) ∧ IX M' ∧ M' 155 16 = MX 155 16 ∧ ∀ (k : Nat) (j : Int), (MX 155 16).toNat ≤ k → k ≤ (MX 155 16).toNat + 2 → M' k j = MX k j) (fun M' i a c => ⟨by rw [e], i, a, c⟩)) (Q' := fun z M' => M' 156 1 = 0 ∧ z = lwA (cut MM) E2 (MM 7) (MM 1 14) (cr (MM 5) (MM 6)) ∧ IX M' ∧ M' 155 16 = MX 155 16 ∧ ∀ (k : Nat) (j : Int), (MX 155 16).toNat ≤ k → k ≤ (MX 155 16).toNat + 2 → M' k j = MX k j) (fun _ M' z h => ⟨z, h⟩)) ?_
    intro z MX1 fX hX
    obtain ⟨lX, ez, iX, x0, x1⟩ := hX
    refine REF z MX1 iX lX (fX 182 2 (by omega)) (fun j => ⟨fX 183 j (by omega), fX 184 j (by omega)⟩) x0 x1 (fun k j h => fX k j (by omega)) (fun E3 A3 => ?_) (fun q => ?_)
    · rw [ez]
      unfold lwA
      rw [(A.eq A3).rg]
    · rw [ez]
      unfold lwA
      rw [if_neg q]
  · by_cases hz : rlz (MM 7) (MM 1 14) = -1
    · refine fmX11_law (fzX11_law (keX11_law hR.1 (Q := fun z M' => IX M' ∧ M' 155 16 = MX 155 16 ∧ ∀ (k : Nat) (j : Int), (MX 155 16).toNat ≤ k → k ≤ (MX 155 16).toNat + 2 → M' k j = MX k j) (fun z M' i a c => ⟨i, a, c⟩)) (Q' := fun z M' => M' 156 1 = 0 ∧ IX M' ∧ M' 155 16 = MX 155 16 ∧ ∀ (k : Nat) (j : Int), (MX 155 16).toNat ≤ k → k ≤ (MX 155 16).toNat + 2 → M' k j = MX k j) (fun _ M' z h => ⟨z, h⟩)) ?_
      intro z MX1 fX hX
      obtain ⟨lX, iX, x0, x1⟩ := hX
      exact REF z MX1 iX lX (fX 182 2 (by omega)) (fun j => ⟨fX 183 j (by omega), fX 184 j (by omega)⟩) x0 x1 (fun k j h => fX k j (by omega)) (fun E3 A3 => absurd ⟨E3, A3⟩ ex) (fun q => absurd hz q)
    · refine fmX11_law (fzX11_law (kzX11_law (f := MM 7) hR.1 (fun j p q => hR.2.2.2.2.1 j p q) (by rw [e]; exact hz) (Q := fun z M' => z = -10000 - rlz (MM 7) (MM 1 14) ∧ IX M' ∧ M' 155 16 = MX 155 16 ∧ ∀ (k : Nat) (j : Int), (MX 155 16).toNat ≤ k → k ≤ (MX 155 16).toNat + 2 → M' k j = MX k j) (fun M' i a c => ⟨by rw [e], i, a, c⟩)) (Q' := fun z M' => M' 156 1 = 0 ∧ z = -10000 - rlz (MM 7) (MM 1 14) ∧ IX M' ∧ M' 155 16 = MX 155 16 ∧ ∀ (k : Nat) (j : Int), (MX 155 16).toNat ≤ k → k ≤ (MX 155 16).toNat + 2 → M' k j = MX k j) (fun _ M' z h => ⟨z, h⟩)) ?_
      intro z MX1 fX hX
      obtain ⟨lX, ez, iX, x0, x1⟩ := hX
      exact REF z MX1 iX lX (fX 182 2 (by omega)) (fun j => ⟨fX 183 j (by omega), fX 184 j (by omega)⟩) x0 x1 (fun k j h => fX k j (by omega)) (fun E3 A3 => by rw [ez]; unfold lwA; rw [if_neg hz]) (fun _ => ez)
