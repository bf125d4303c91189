theorem Rl_sign (k : Nat) (MX MM : Mem) (y1 : Int) (hy1 : iR y1) (hk : k < 512) (hMX : MR MX) (hMM : MR MM) (hR : Rel k MX MM) : qX11_sign y1 MX (fun z MX1 => qX12_sign y1 MM (fun b MM1 => Rel (k + 1) MX1 MM1)) :=
  fmX11_sign (Cl_sign k MX MM y1 hy1 hk hMX hMM hR) (fun _ _ _ h => fmX12_sign h (fun _ _ _ h2 => h2.2))
theorem Rl_end (k : Nat) (MX MM : Mem) (y1 : Int) (hy1 : iR y1) (hk : k < 512) (hMX : MR MX) (hMM : MR MM) (hR : Rel k MX MM) : qX11_end y1 MX (fun z MX1 => qX12_end y1 MM (fun b MM1 => Rel (k + 1) MX1 MM1)) :=
  fmX11_end (Cl_end k MX MM y1 hy1 hk hMX hMM hR) (fun _ _ _ h => fmX12_end h (fun _ _ _ h2 => h2.2))
theorem Rl_avenue (k : Nat) (MX MM : Mem)  (hk : k < 512) (hMX : MR MX) (hMM : MR MM) (hR : Rel k MX MM) : qX11_avenue  MX (fun z MX1 => qX12_avenue  MM (fun b MM1 => Rel (k + 1) MX1 MM1)) :=
  fmX11_avenue (Cl_avenue k MX MM   hk hMX hMM hR) (fun _ _ _ h => fmX12_avenue h (fun _ _ _ h2 => h2.2))
theorem Rl_hearses (k : Nat) (MX MM : Mem)  (hk : k < 512) (hMX : MR MX) (hMM : MR MM) (hR : Rel k MX MM) : qX11_hearses  MX (fun z MX1 => qX12_hearses  MM (fun b MM1 => Rel (k + 1) MX1 MM1)) :=
  fmX11_hearses (Cl_hearses k MX MM   hk hMX hMM hR) (fun _ _ _ h => fmX12_hearses h (fun _ _ _ h2 => h2.2))
theorem Rl_mourners (k : Nat) (MX MM : Mem)  (hk : k < 512) (hMX : MR MX) (hMM : MR MM) (hR : Rel k MX MM) : qX11_mourners  MX (fun z MX1 => qX12_mourners  MM (fun b MM1 => Rel (k + 1) MX1 MM1)) :=
  fmX11_mourners (Cl_mourners k MX MM   hk hMX hMM hR) (fun _ _ _ h => fmX12_mourners h (fun _ _ _ h2 => h2.2))
theorem Rl_weather (k : Nat) (MX MM : Mem)  (hk : k < 512) (hMX : MR MX) (hMM : MR MM) (hR : Rel k MX MM) : qX11_weather  MX (fun z MX1 => qX12_weather  MM (fun b MM1 => Rel (k + 1) MX1 MM1)) :=
  fmX11_weather (Cl_weather k MX MM   hk hMX hMM hR) (fun _ _ _ h => fmX12_weather h (fun _ _ _ h2 => h2.2))
theorem Rl_rule (k : Nat) (MX MM : Mem)  (hk : k < 512) (hMX : MR MX) (hMM : MR MM) (hR : Rel k MX MM) : qX11_rule  MX (fun z MX1 => qX12_rule  MM (fun b MM1 => Rel (k + 1) MX1 MM1)) :=
  fmX11_rule (Cl_rule k MX MM   hk hMX hMM hR) (fun _ _ _ h => fmX12_rule h (fun _ _ _ h2 => h2.2))
theorem Rl_hearse (k : Nat) (MX MM : Mem) (y1 y2 : Int) (hy1 : iR y1) (hy2 : iR y2) (hk : k < 512) (hMX : MR MX) (hMM : MR MM) (hR : Rel k MX MM) : qX11_hearse y1 y2 MX (fun z MX1 => qX12_hearse y1 y2 MM (fun b MM1 => Rel (k + 1) MX1 MM1)) (fun MX1 => qX12_hearse y1 y2 MM (fun b MM1 => Rel (k + 1) MX1 MM1)) :=
  Rk_hearse k MX MM y1 y2 hy1 hy2 hk hMX hMM hR
theorem Rl_mourner (k : Nat) (MX MM : Mem) (y1 y2 : Int) (hy1 : iR y1) (hy2 : iR y2) (hk : k < 512) (hMX : MR MX) (hMM : MR MM) (hR : Rel k MX MM) : qX11_mourner y1 y2 MX (fun z MX1 => qX12_mourner y1 y2 MM (fun b MM1 => Rel (k + 1) MX1 MM1)) (fun MX1 => qX12_mourner y1 y2 MM (fun b MM1 => Rel (k + 1) MX1 MM1)) :=
  Rk_mourner k MX MM y1 y2 hy1 hy2 hk hMX hMM hR
theorem Rl_sheet (k : Nat) (MX MM : Mem) (y1 y2 y3 y4 : Int) (hy1 : iR y1) (hy2 : iR y2) (hy3 : iR y3) (hy4 : iR y4) (hk : k < 512) (hMX : MR MX) (hMM : MR MM) (hR : Rel k MX MM) : qX11_sheet y1 y2 y3 y4 MX (fun z MX1 => qX12_sheet y1 y2 y3 y4 MM (fun b MM1 => Rel (k + 1) MX1 MM1)) :=
  fmX11_sheet (Cl_sheet k MX MM y1 y2 y3 y4 hy1 hy2 hy3 hy4 hk hMX hMM hR) (fun _ _ _ h => fmX12_sheet h (fun _ _ _ h2 => h2.2))
theorem Rl_steps (k : Nat) (MX MM : Mem) (y1 : Int) (hy1 : iR y1) (hk : k < 512) (hMX : MR MX) (hMM : MR MM) (hR : Rel k MX MM) : qX11_steps y1 MX (fun z MX1 => qX12_steps y1 MM (fun b MM1 => Rel (k + 1) MX1 MM1)) :=
  fmX11_steps (Cl_steps k MX MM y1 hy1 hk hMX hMM hR) (fun _ _ _ h => fmX12_steps h (fun _ _ _ h2 => h2.2))
theorem Rl_turnsTo (k : Nat) (MX MM : Mem) (y1 : Int) (hy1 : iR y1) (hk : k < 512) (hMX : MR MX) (hMM : MR MM) (hR : Rel k MX MM) : qX11_turnsTo y1 MX (fun z MX1 => qX12_turnsTo y1 MM (fun b MM1 => Rel (k + 1) MX1 MM1)) :=
  fmX11_turnsTo (Cl_turnsTo k MX MM y1 hy1 hk hMX hMM hR) (fun _ _ _ h => fmX12_turnsTo h (fun _ _ _ h2 => h2.2))
theorem Rl_pushes (k : Nat) (MX MM : Mem) (y1 y2 : Int) (hy1 : iR y1) (hy2 : iR y2) (hk : k < 512) (hMX : MR MX) (hMM : MR MM) (hR : Rel k MX MM) : qX11_pushes y1 y2 MX (fun z MX1 => qX12_pushes y1 y2 MM (fun b MM1 => Rel (k + 1) MX1 MM1)) :=
  fmX11_pushes (Cl_pushes k MX MM y1 y2 hy1 hy2 hk hMX hMM hR) (fun _ _ _ h => fmX12_pushes h (fun _ _ _ h2 => h2.2))
theorem Rl_swaps (k : Nat) (MX MM : Mem) (y1 y2 : Int) (hy1 : iR y1) (hy2 : iR y2) (hk : k < 512) (hMX : MR MX) (hMM : MR MM) (hR : Rel k MX MM) : qX11_swaps y1 y2 MX (fun z MX1 => qX12_swaps y1 y2 MM (fun b MM1 => Rel (k + 1) MX1 MM1)) :=
  fmX11_swaps (Cl_swaps k MX MM y1 y2 hy1 hy2 hk hMX hMM hR) (fun _ _ _ h => fmX12_swaps h (fun _ _ _ h2 => h2.2))
theorem Rl_hour (k : Nat) (MX MM : Mem)  (hk : k < 512) (hMX : MR MX) (hMM : MR MM) (hR : Rel k MX MM) : qX11_hour  MX (fun z MX1 => qX12_hour  MM (fun b MM1 => Rel (k + 1) MX1 MM1)) :=
  fmX11_hour (Cl_hour k MX MM   hk hMX hMM hR) (fun _ _ _ h => fmX12_hour h (fun _ _ _ h2 => h2.2))
theorem Rl_undo (k : Nat) (MX MM : Mem)  (hk : k < 512) (hMX : MR MX) (hMM : MR MM) (hR : Rel k MX MM) : qX11_undo  MX (fun z MX1 => qX12_undo  MM (fun b MM1 => z = b ∧ Rel (k + 1) MX1 MM1)) :=
  Cl_undo k MX MM   hk hMX hMM hR
theorem Rl_line (k : Nat) (MX MM : Mem)  (hk : k < 512) (hMX : MR MX) (hMM : MR MM) (hR : Rel k MX MM) : qX11_line  MX (fun z MX1 => qX12_line  MM (fun b MM1 => Rel (k + 1) MX1 MM1)) :=
  Rk_line k MX MM   hk hMX hMM hR
theorem Rl_ahead (k : Nat) (MX MM : Mem) (y1 : Int) (hy1 : iR y1) (hk : k < 512) (hMX : MR MX) (hMM : MR MM) (hR : Rel k MX MM) : qX11_ahead y1 MX (fun z MX1 => qX12_ahead y1 MM (fun b MM1 => Rel (k + 1) MX1 MM1)) :=
  Rk_ahead k MX MM y1 hy1 hk hMX hMM hR
theorem Rl_arrives (k : Nat) (MX MM : Mem) (y1 : Int) (hy1 : iR y1) (hk : k < 512) (hMX : MR MX) (hMM : MR MM) (hR : Rel k MX MM) : qX11_arrives y1 MX (fun z MX1 => qX12_arrives y1 MM (fun b MM1 => Rel (k + 1) MX1 MM1)) :=
  Rk_arrives k MX MM y1 hy1 hk hMX hMM hR
theorem Rl_jam (k : Nat) (MX MM : Mem) (y1 : Int) (hy1 : iR y1) (hk : k < 512) (hMX : MR MX) (hMM : MR MM) (hR : Rel k MX MM) : qX11_jam y1 MX (fun z MX1 => qX12_jam y1 MM (fun b MM1 => Rel (k + 1) MX1 MM1)) :=
  Rk_jam k MX MM y1 hy1 hk hMX hMM hR
theorem Rl_passes (k : Nat) (MX MM : Mem) (y1 y2 : Int) (hy1 : iR y1) (hy2 : iR y2) (hk : k < 512) (hMX : MR MX) (hMM : MR MM) (hR : Rel k MX MM) : qX11_passes y1 y2 MX (fun z MX1 => qX12_passes y1 y2 MM (fun b MM1 => Rel (k + 1) MX1 MM1)) :=
  Rk_passes k MX MM y1 y2 hy1 hy2 hk hMX hMM hR
theorem Rl_ends (k : Nat) (MX MM : Mem) (y1 : Int) (hy1 : iR y1) (hk : k < 512) (hMX : MR MX) (hMM : MR MM) (hR : Rel k MX MM) : qX11_ends y1 MX (fun z MX1 => qX12_ends y1 MM (fun b MM1 => Rel (k + 1) MX1 MM1)) :=
  Rk_ends k MX MM y1 hy1 hk hMX hMM hR
theorem Rl_right (k : Nat) (MX MM : Mem)  (hk : k < 512) (hMX : MR MX) (hMM : MR MM) (hR : Rel k MX MM) : qX11_right  MX (fun z MX1 => qX12_right  MM (fun b MM1 => Rel (k + 1) MX1 MM1)) :=
  Rk_right k MX MM   hk hMX hMM hR
theorem Rl_order (k : Nat) (MX MM : Mem)  (hk : k < 512) (hMX : MR MX) (hMM : MR MM) (hR : Rel k MX MM) : qX11_order  MX (fun z MX1 => qX12_order  MM (fun b MM1 => Rel (k + 1) MX1 MM1)) :=
  Rk_order k MX MM   hk hMX hMM hR
theorem Rl_stands (k : Nat) (MX MM : Mem) (y1 : Int) (hy1 : iR y1) (hk : k < 512) (hMX : MR MX) (hMM : MR MM) (hR : Rel k MX MM) : qX11_stands y1 MX (fun z MX1 => qX12_stands y1 MM (fun b MM1 => Rel (k + 1) MX1 MM1)) :=
  Rk_stands k MX MM y1 hy1 hk hMX hMM hR
theorem Rl_when (k : Nat) (MX MM : Mem) (y1 : Int) (hy1 : iR y1) (hk : k < 512) (hMX : MR MX) (hMM : MR MM) (hR : Rel k MX MM) : qX11_when y1 MX (fun z MX1 => qX12_when y1 MM (fun b MM1 => Rel (k + 1) MX1 MM1)) :=
  Rk_when k MX MM y1 hy1 hk hMX hMM hR
theorem Rl_mends (k : Nat) (MX MM : Mem) (y1 : Int) (hy1 : iR y1) (hk : k < 512) (hMX : MR MX) (hMM : MR MM) (hR : Rel k MX MM) : qX11_mends y1 MX (fun z MX1 => qX12_mends y1 MM (fun b MM1 => Rel (k + 1) MX1 MM1)) :=
  Rk_mends k MX MM y1 hy1 hk hMX hMM hR
theorem Rl_misleads (k : Nat) (MX MM : Mem)  (hk : k < 512) (hMX : MR MX) (hMM : MR MM) (hR : Rel k MX MM) : qX11_misleads  MX (fun z MX1 => qX12_misleads  MM (fun b MM1 => Rel (k + 1) MX1 MM1)) :=
  Rk_misleads k MX MM   hk hMX hMM hR
theorem Rl_crowd (k : Nat) (MX MM : Mem)  (hk : k < 512) (hMX : MR MX) (hMM : MR MM) (hR : Rel k MX MM) : qX11_crowd  MX (fun z MX1 => qX12_crowd  MM (fun b MM1 => Rel (k + 1) MX1 MM1)) :=
  Rk_crowd k MX MM   hk hMX hMM hR
theorem Rl_shares (k : Nat) (MX MM : Mem) (y1 : Int) (hy1 : iR y1) (hk : k < 512) (hMX : MR MX) (hMM : MR MM) (hR : Rel k MX MM) : qX11_shares y1 MX (fun z MX1 => qX12_shares y1 MM (fun b MM1 => Rel (k + 1) MX1 MM1)) :=
  Rk_shares k MX MM y1 hy1 hk hMX hMM hR
theorem Rl_strangers (k : Nat) (MX MM : Mem)  (hk : k < 512) (hMX : MR MX) (hMM : MR MM) (hR : Rel k MX MM) : qX11_strangers  MX (fun z MX1 => qX12_strangers  MM (fun b MM1 => Rel (k + 1) MX1 MM1)) :=
  Rk_strangers k MX MM   hk hMX hMM hR
theorem Rl_doubts (k : Nat) (MX MM : Mem)  (hk : k < 512) (hMX : MR MX) (hMM : MR MM) (hR : Rel k MX MM) : qX11_doubts  MX (fun z MX1 => qX12_doubts  MM (fun b MM1 => Rel (k + 1) MX1 MM1)) :=
  Rk_doubts k MX MM   hk hMX hMM hR
theorem Rl_heard (k : Nat) (MX MM : Mem) (y1 y2 : Int) (hy1 : iR y1) (hy2 : iR y2) (hk : k < 512) (hMX : MR MX) (hMM : MR MM) (hR : Rel k MX MM) : qX11_heard y1 y2 MX (fun z MX1 => qX12_heard y1 y2 MM (fun b MM1 => Rel (k + 1) MX1 MM1)) :=
  fmX11_heard (Cl_heard k MX MM y1 y2 hy1 hy2 hk hMX hMM hR) (fun _ _ _ h => fmX12_heard h (fun _ _ _ h2 => h2.2))
theorem Rl_forget (k : Nat) (MX MM : Mem)  (hk : k < 512) (hMX : MR MX) (hMM : MR MM) (hR : Rel k MX MM) : qX11_forget  MX (fun z MX1 => qX12_forget  MM (fun b MM1 => Rel (k + 1) MX1 MM1)) :=
  fmX11_forget (Cl_forget k MX MM   hk hMX hMM hR) (fun _ _ _ h => fmX12_forget h (fun _ _ _ h2 => h2.2))
theorem Rl_fits (k : Nat) (MX MM : Mem)  (hk : k < 512) (hMX : MR MX) (hMM : MR MM) (hR : Rel k MX MM) : qX11_fits  MX (fun z MX1 => qX12_fits  MM (fun b MM1 => Rel (k + 1) MX1 MM1)) :=
  Rk_fits k MX MM   hk hMX hMM hR
theorem Rl_rains (k : Nat) (MX MM : Mem) (y1 y2 y3 : Int) (hy1 : iR y1) (hy2 : iR y2) (hy3 : iR y3) (hk : k < 512) (hMX : MR MX) (hMM : MR MM) (hR : Rel k MX MM) : qX11_rains y1 y2 y3 MX (fun z MX1 => qX12_rains y1 y2 y3 MM (fun b MM1 => Rel (k + 1) MX1 MM1)) :=
  fmX11_rains (Cl_rains k MX MM y1 y2 y3 hy1 hy2 hy3 hk hMX hMM hR) (fun _ _ _ h => fmX12_rains h (fun _ _ _ h2 => h2.2))
theorem Rl_law (k : Nat) (MX MM : Mem)  (hk : k < 512) (hMX : MR MX) (hMM : MR MM) (hR : Rel k MX MM) : qX11_law  MX (fun z MX1 => qX12_law  MM (fun b MM1 => Rel (k + 1) MX1 MM1)) :=
  Rk_law k MX MM   hk hMX hMM hR
theorem Rl_rests (k : Nat) (MX MM : Mem) (y1 : Int) (hy1 : iR y1) (hk : k < 512) (hMX : MR MX) (hMM : MR MM) (hR : Rel k MX MM) : qX11_rests y1 MX (fun z MX1 => qX12_rests y1 MM (fun b MM1 => Rel (k + 1) MX1 MM1)) :=
  fmX11_rests (Cl_rests k MX MM y1 hy1 hk hMX hMM hR) (fun _ _ _ h => fmX12_rests h (fun _ _ _ h2 => h2.2))
theorem Rl_years (k : Nat) (MX MM : Mem) (y1 y2 : Int) (hy1 : iR y1) (hy2 : iR y2) (hk : k < 512) (hMX : MR MX) (hMM : MR MM) (hR : Rel k MX MM) : qX11_years y1 y2 MX (fun z MX1 => qX12_years y1 y2 MM (fun b MM1 => Rel (k + 1) MX1 MM1)) :=
  Rk_years k MX MM y1 y2 hy1 hy2 hk hMX hMM hR
theorem Rl_keep (k : Nat) (MX MM : Mem) (y1 : Int) (hy1 : iR y1) (hk : k < 512) (hMX : MR MX) (hMM : MR MM) (hR : Rel k MX MM) : qX11_keep y1 MX (fun z MX1 => qX12_keep y1 MM (fun b MM1 => Rel (k + 1) MX1 MM1)) :=
  fmX11_keep (Cl_keep k MX MM y1 hy1 hk hMX hMM hR) (fun _ _ _ h => fmX12_keep h (fun _ _ _ h2 => h2.2))
theorem Rl_again (k : Nat) (MX MM : Mem) (y1 : Int) (hy1 : iR y1) (hk : k < 512) (hMX : MR MX) (hMM : MR MM) (hR : Rel k MX MM) : qX11_again y1 MX (fun z MX1 => qX12_again y1 MM (fun b MM1 => Rel (k + 1) MX1 MM1)) :=
  fmX11_again (Cl_again k MX MM y1 hy1 hk hMX hMM hR) (fun _ _ _ h => fmX12_again h (fun _ _ _ h2 => h2.2))
theorem Rl_count (k : Nat) (MX MM : Mem) (y1 : Int) (hy1 : iR y1) (hk : k < 512) (hMX : MR MX) (hMM : MR MM) (hR : Rel k MX MM) : qX11_count y1 MX (fun z MX1 => qX12_count y1 MM (fun b MM1 => Rel (k + 1) MX1 MM1)) :=
  Rk_count k MX MM y1 hy1 hk hMX hMM hR
theorem Rl_row (k : Nat) (MX MM : Mem) (y1 : Int) (hy1 : iR y1) (hk : k < 512) (hMX : MR MX) (hMM : MR MM) (hR : Rel k MX MM) : qX11_row y1 MX (fun z MX1 => qX12_row y1 MM (fun b MM1 => Rel (k + 1) MX1 MM1)) (fun MX1 => qX12_row y1 MM (fun b MM1 => Rel (k + 1) MX1 MM1)) :=
  Rk_row k MX MM y1 hy1 hk hMX hMM hR
theorem BM_0 {k : Nat} {j : Int} (h : ¬ (k = 1 ∧ j = 3)) (h2 : ¬ (k = 1 ∧ j = 7)) : BM 0 k j 0 := by
  by_cases c : k = 5 ∨ k = 6
  · exact (bm_n c).mpr ⟨by omega, by omega, by omega, by omega⟩
  by_cases c15 : k = 15
  · subst c15; exact bm_c15.mpr ⟨by omega, by omega, by omega, by omega⟩
  by_cases c31 : k = 31
  · subst c31; exact bm_c31.mpr ⟨by omega, by omega, by omega, by omega⟩
  by_cases c1 : k = 1
  · subst c1
    by_cases d1 : j = 1
    · subst d1; exact bm_c1_1.mpr (by decide)
    by_cases d3 : j = 3
    · exact absurd ⟨rfl, d3⟩ h
    by_cases d4 : j = 4
    · subst d4; exact bm_c1_4.mpr (by decide)
    by_cases d5 : j = 5
    · subst d5; exact bm_c1_5.mpr (by decide)
    by_cases d6 : j = 6
    · subst d6; exact bm_c1_6.mpr (by decide)
    by_cases d7 : j = 7
    · exact absurd ⟨rfl, d7⟩ h2
    by_cases d14 : j = 14
    · subst d14; exact bm_c1_14.mpr (by decide)
    by_cases d15 : j = 15
    · subst d15; exact bm_c1_15.mpr (by decide)
    by_cases d16 : j = 16
    · subst d16; exact bm_c1_16.mpr (by decide)
    by_cases d20 : j = 20
    · subst d20; exact bm_c1_20.mpr (by decide)
    by_cases d24 : j = 24
    · subst d24; exact bm_c1_24.mpr (by decide)
    by_cases d25 : j = 25
    · subst d25; exact bm_c1_25.mpr (by decide)
    by_cases d28 : j = 28
    · subst d28; exact bm_c1_28.mpr (by decide)
    by_cases d35 : j = 35
    · subst d35; exact bm_c1_35.mpr (by decide)
    by_cases d39 : j = 39
    · subst d39; exact bm_c1_39.mpr (by decide)
    by_cases d45 : j = 45
    · subst d45; exact bm_c1_45.mpr (by decide)
    simp [BM, d1, d3, d4, d5, d6, d7, d14, d15, d16, d20, d24, d25, d28, d35, d39, d45]
  by_cases c3 : k = 3
  · subst c3; exact bm_c3.mpr (by decide)
  by_cases c7 : k = 7
  · subst c7; exact bm_c7.mpr (by decide)
  by_cases c8 : k = 8
  · subst c8; exact bm_c8.mpr (by decide)
  by_cases c9 : k = 9
  · subst c9; exact bm_c9.mpr (by decide)
  by_cases c18 : k = 18
  · subst c18; exact bm_c18.mpr (by decide)
  by_cases c20 : k = 20
  · subst c20; exact bm_c20.mpr (by decide)
  by_cases c21 : k = 21
  · subst c21; exact bm_c21.mpr (by decide)
  by_cases c22 : k = 22
  · subst c22; exact bm_c22.mpr (by decide)
  unfold BM
  rw [if_neg c, if_neg (by omega)]
  simp [c1, c3, c7, c8, c9, c18, c20, c21, c22]
theorem BX_0 {k : Nat} {j : Int} (h : ¬ (k = 158 ∧ j = 1)) : BX k j 0 := by
  by_cases h0 : k = 0
  · simp [BX, h0]
  by_cases h155 : k < 155
  · unfold BX
    rw [if_neg h0, if_pos h155]
    by_cases r0 : (k - 1) % 7 = 0
    · rw [if_pos r0]
      by_cases d6 : j = 6
      · rw [if_pos d6]; decide
      · rw [if_neg d6]
        by_cases d7 : j = 7
        · rw [if_pos d7]; decide
        · rw [if_neg d7]; trivial
    · rw [if_neg r0]
      by_cases r1 : (k - 1) % 7 = 1
      · rw [if_pos r1]; decide
      · rw [if_neg r1]
        by_cases r3 : (k - 1) % 7 = 3
        · rw [if_pos r3]; decide
        · rw [if_neg r3]
          by_cases r4 : (k - 1) % 7 = 4
          · rw [if_pos r4]; decide
          · rw [if_neg r4]
            by_cases r5 : (k - 1) % 7 = 5
            · rw [if_pos r5]; decide
            · rw [if_neg r5]; trivial
  by_cases c156 : k = 156
  · subst c156
    by_cases d1 : j = 1
    · subst d1; exact bx_c156_1.mpr (by decide)
    by_cases d2 : j = 2
    · subst d2; exact bx_c156_2.mpr (by decide)
    by_cases d3 : j = 3
    · subst d3; exact bx_c156_3.mpr (by decide)
    simp [BX, d1, d2, d3]
  by_cases c157 : k = 157
  · subst c157; exact bx_c157.mpr (by decide)
  by_cases c158 : k = 158
  · subst c158
    by_cases d1 : j = 1
    · exact absurd ⟨rfl, d1⟩ h
    by_cases d3 : j = 3
    · subst d3; exact bx_c158_3.mpr (by decide)
    simp [BX, d1, d3]
  by_cases c163 : k = 163
  · subst c163
    by_cases d1 : j = 1
    · subst d1; exact bx_c163_1.mpr (by decide)
    by_cases d2 : j = 2
    · subst d2; exact bx_c163_2.mpr (by decide)
    simp [BX, d1, d2]
  by_cases c167 : k = 167
  · subst c167
    by_cases d1 : j = 1
    · subst d1; exact bx_c167_1.mpr (by decide)
    simp [BX, d1]
  by_cases c168 : k = 168
  · subst c168
    by_cases d1 : j = 1
    · subst d1; exact bx_c168_1.mpr (by decide)
    simp [BX, d1]
  by_cases c179 : k = 179
  · subst c179
    by_cases d2 : j = 2
    · subst d2; exact bx_c179_2.mpr (by decide)
    simp [BX, d2]
  by_cases c180 : k = 180
  · subst c180; exact bx_c180.mpr (by decide)
  by_cases c182 : k = 182
  · subst c182
    by_cases d2 : j = 2
    · subst d2; exact bx_c182_2.mpr (by decide)
    simp [BX, d2]
  by_cases c185 : k = 185
  · subst c185
    by_cases d1 : j = 1
    · subst d1; exact bx_c185_1.mpr (by decide)
    by_cases d2 : j = 2
    · subst d2; exact bx_c185_2.mpr (by decide)
    simp [BX, d1, d2]
  by_cases cl : k = 187 ∨ k = 192
  · by_cases d4 : j = 4
    · subst d4; exact (bx_l4 cl).mpr (by decide)
    · exact bx_lf0 cl d4
  by_cases cr : 170 ≤ k ∧ k ≤ 178
  · have e : k = 170 + ((k : Int) - 170).toNat := by omega
    rw [e]
    exact (bx_sh (e := (k : Int) - 170) (by omega) (by omega)).mpr ⟨by omega, by omega⟩
  unfold BX
  rw [if_neg h0, if_neg h155]
  simp only [if_neg cl, if_neg cr, if_neg c156, if_neg c157, if_neg c158, if_neg c163, if_neg c167, if_neg c168, if_neg c179, if_neg c180, if_neg c182, if_neg c185]
theorem IX_MX0 : IX MX0 := by
  refine ⟨fun k j => ?_, Or.inl ⟨by simp [MX0], by simp [MX0]⟩, fun k j hk he => ?_⟩
  · unfold MX0
    split
    · rename_i c; rw [c.1, c.2]; exact bx_c158_1.mpr (by decide)
    · rename_i c1
      split
      · rename_i c; rw [c.1, c.2]; exact bx_c158_3.mpr (by decide)
      · split
        · rename_i c; rw [c.1, c.2]; simp [BX]
        · split
          · rename_i c; rw [c.1, c.2]; simp [BX]
          · split
            · rename_i c; rw [c.1, c.2]; simp [BX]
            · exact BX_0 c1
  · exfalso
    have : MX0 (k + 1) j = 0 := by
      unfold MX0
      rcases hk with rfl | rfl <;> simp
    omega
theorem IM_MM0 : IM 0 MM0 := by
  refine ⟨fun k j => ?_, ?_⟩
  · unfold MM0
    split
    · rename_i c; rw [c.1, c.2]; exact bm_c1_3.mpr (by decide)
    · rename_i c1
      split
      · rename_i c; rw [c.1, c.2]; exact bm_c1_7.mpr (by decide)
      · rename_i c2
        exact BM_0 c1 c2
  · intro j hj
    exfalso
    have : MM0 1 24 = 0 := by simp [MM0]
    omega
theorem Rel_init : qInit (fun MX => Rel 0 MX MM0) := by
  unfold qInit
  refine gX2_plain (k0 := 187) IX_MX0 (Or.inl rfl) ?_
  intro M1 h1 f1 o1
  refine ⟨h1.l17, ?_⟩
  have e17 : (M1 155 17).toNat = 192 := by rw [f1 155 17 (by omega)]; simp [MX0]
  rw [e17]
  refine gX2_plain (k0 := 192) h1 (Or.inr rfl) ?_
  intro M2 h2 f2 _
  have K : ∀ (k : Nat) (j : Int), k < 187 → M2 k j = MX0 k j := fun k j h => by rw [f2 k j (by omega), f1 k j (by omega)]
  have Z : ∀ (k : Nat) (j : Int), k < 155 → M2 k j = 0 := fun k j h => by
    rw [K k j (by omega)]
    unfold MX0
    rw [if_neg (by omega), if_neg (by omega), if_neg (by omega), if_neg (by omega), if_neg (by omega)]
  have Y : ∀ (k : Nat) (j : Int), ¬ (k = 1 ∧ j = 3) → ¬ (k = 1 ∧ j = 7) → MM0 k j = 0 := fun k j h h' => by
    unfold MM0
    rw [if_neg h, if_neg h']
  have C : ∀ (k : Nat) (j : Int), ¬ (k = 1 ∧ j = 3) → ¬ (k = 1 ∧ j = 7) → cut MM0 k j = 0 := fun k j h h' => by
    unfold cut
    split
    · exact Y k j h h'
    · rfl
  have c3 : cut MM0 1 3 = 4 := by rw [cut13]; simp [MM0]
  have c4 : cut MM0 1 4 = 0 := C 1 4 (by omega) (by omega)
  have c5 : cut MM0 1 5 = 0 := C 1 5 (by omega) (by omega)
  have c7 : cut MM0 1 7 = 1 := by rw [cut17]; simp [MM0]
  have e0 : eO (cut MM0) = 0 := by show (cut MM0 1 5).toNat = 0; rw [c5]; rfl
  have eh : eH (cut MM0) = 0 := by show (cut MM0 1 4).toNat = 0; rw [c4]; rfl
  refine ⟨h2, IM_MM0.mono (by omega), ?_, ?_, fun j a q => ?_, ⟨?_, ?_, ?_, ?_, ?_, ?_⟩, FOLS.z (Y 1 5 (by omega) (by omega)), HRD.nil (by rw [K 182 2 (by omega)]; simp [MX0])⟩
  · rw [K 156 1 (by omega)]; simp [MX0, MM0]
  · rw [K 182 2 (by omega)]; simp [MX0, MM0]
  · rw [K 156 1 (by omega)] at q
    simp [MX0] at q
    omega
  · unfold STR
    rw [c3, c4, c5, c7]
    refine ⟨by rw [K 158 1 (by omega)]; simp [MX0], by decide, fun c hc => ?_, by rw [K 158 3 (by omega)]; simp [MX0], by decide, fun j p q => ?_, by decide, by decide, fun m p q => by omega⟩
    · have e2 : M2 158 2 = 0 := by rw [K 158 2 (by omega)]; simp [MX0]
      rw [e2, show iI 0 = (0 : Int32) from rfl, b_0, C 2 c (by omega) (by omega)]
      exact ⟨fun q => absurd q (by decide), fun q => absurd rfl q⟩
    · rw [K 159 j (by omega), C 4 j (by omega) (by omega)]
      unfold MX0
      rw [if_neg (by omega), if_neg (by omega), if_neg (by omega), if_neg (by omega), if_neg (by omega)]
  · have e16 : (M2 155 16).toNat = 187 := by rw [K 155 16 (by omega)]; simp [MX0]
    rw [e16]
    refine Or.inr ⟨C 1 24 (by omega) (by omega), ?_⟩
    have o2 : ROl 187 M2 plO := o1.fr (f2 _ _ (by omega)) (f2 _ _ (by omega)) (funext fun j => f2 _ j (by omega)) (funext fun j => f2 _ j (by omega))
    exact ⟨o2.1, SO_SCd o2.2 SCd_pl⟩
  · unfold SC
    rw [c4, c5, e0]
    refine ⟨Z 1 6 (by omega), Z 1 7 (by omega), fun j p q => ?_, fun j p q => ?_, ?_, fun m p q => ?_, fun m p q => ?_, fun m p q => ?_, fun m p q => ?_, ?_, ?_⟩
    · rw [Z _ _ (by omega), Y 5 _ (by omega) (by omega)]
    · rw [Z _ _ (by omega), Y 5 _ (by omega) (by omega)]
    · rw [Z 1 8 (by omega), Y 5 _ (by omega) (by omega)]
    · rw [Z _ _ (by omega), Y 5 _ (by omega) (by omega)]
    · rw [Z _ _ (by omega), C 3 _ (by omega) (by omega)]
    · rw [Z _ _ (by omega), Y 5 _ (by omega) (by omega)]
    · rw [Z _ _ (by omega), Y 5 _ (by omega) (by omega)]
    · rw [Z 1 10 (by omega), Y 5 _ (by omega) (by omega)]
    · rw [Z 1 9 (by omega)]
      rfl
  · unfold WR
    rw [c4, c5, eh]
    refine ⟨fun i j p q => by omega, fun i p q => by omega, fun i p q => by omega, ?_, ?_⟩
    · rw [Y 5 12 (by omega) (by omega)]
      rfl
    · rw [Y 5 37 (by omega) (by omega)]
      decide
  · exact HIS.nil (by rw [K 163 2 (by omega)]; simp [MX0]) (Y 1 28 (by omega) (by omega))
  · intro i p q
    have x0 : M2 166 i = 0 := by
      rw [K 166 i (by omega)]
      unfold MX0
      rw [if_neg (by omega), if_neg (by omega), if_neg (by omega), if_neg (by omega), if_neg (by omega)]
    exact ⟨⟨fun _ => Y 29 i (by omega) (by omega), fun _ => x0⟩, fun h => absurd x0 h⟩
