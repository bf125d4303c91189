-- a row stays one that can be
theorem goF_b {E : Mem} {r : Int → Int} {h : Int} (hf : 0 ≤ r h ∧ r h < eG E) : (r h ≤ goF E r h (paF E r h) ∧ goF E r h (paF E r h) ≤ eG E) ∧ (goF E r h (paF E r h) = r h ∨ okF E r (r h) (goF E r h (paF E r h))) := by
  have bp : 0 ≤ paF E r h := by unfold paF; omega
  have g := gdF_c (okF E r (r h)) (r h) (min (eG E) (r h + paF E r h) - r h).toNat
  have g1 := g.1
  have e : goF E r h (paF E r h) = gdF (okF E r (r h)) (r h) (min (eG E) (r h + paF E r h) - r h).toNat := rfl
  rw [e]
  exact ⟨⟨g1.1, by omega⟩, g.2.1⟩
theorem up_id (r : Int → Int) (j : Int) : up r j (r j) = r := by
  funext i
  by_cases c : i = j
  · rw [c, upS]
  · rw [up_j c]
/-- the parts of E that bound it -/
def EBx (E : Mem) : Prop := (4 ≤ E 1 3 ∧ E 1 3 ≤ 30) ∧ (0 ≤ E 1 4 ∧ E 1 4 ≤ 6) ∧ (0 ≤ E 1 5 ∧ E 1 5 ≤ 8)
theorem STR.eb {E M : Mem} (h : STR E M) : EBx E := ⟨h.2.1, h.2.2.2.2.2.2.1, h.2.2.2.2.2.2.2.1⟩
theorem EBx.f {E : Mem} (h : EBx E) : ((eH E : Nat) : Int) = E 1 4 ∧ ((eO E : Nat) : Int) = E 1 5 ∧ eG E = E 1 3 - 1 := by
  obtain ⟨a, b, c⟩ := h
  exact ⟨by show (((E 1 4).toNat : Nat) : Int) = E 1 4; omega, by show (((E 1 5).toNat : Nat) : Int) = E 1 5; omega, rfl⟩
theorem WR.mh {E : Mem} {r : Int → Int} {h : Int} (hE : EBx E) (hW : WR E r) (hh : 0 ≤ h ∧ h < E 1 4) (hr : 0 ≤ r h) : WR E (mhF E r h) := by
  have eb := hE
  obtain ⟨e3, e4, e5⟩ := hE
  obtain ⟨f4, f5, fg⟩ := eb.f
  have wh := hW.2.1 h hh.1 hh.2
  have hf : 0 ≤ r h ∧ r h < eG E := by omega
  have ab12 := arF_b r (eH E)
  have g := goF_b hf
  have a12 : w32 (r 12 + 1) = r 12 + 1 := w32_id ⟨by have := hW.2.2.2.1; omega, by have := hW.2.2.2.1; omega⟩
  have oth : ∀ i, 0 ≤ i → i < E 1 4 → i ≠ h → mhF E r h i = r i ∧ mhF E r h (6 + i) = r (6 + i) := fun i a q w => ⟨mhF_o w (by omega) (by omega), mhF_o (by omega) (by omega) (by omega)⟩
  have mour : ∀ j, 13 ≤ j → mhF E r h j = r j := fun j a => mhF_o (by omega) (by omega) (by omega)
  have M3 : ∀ m, 0 ≤ m → m < E 1 5 → (-1 ≤ mhF E r h (21 + m) ∧ mhF E r h (21 + m) < E 1 4) ∧ (0 ≤ mhF E r h (13 + m) ∧ mhF E r h (13 + m) < eG E) ∧ (-1 ≤ mhF E r h (29 + m) ∧ mhF E r h (29 + m) < E 1 4) := fun m a q => by
    rw [mour (21 + m) (by omega), mour (13 + m) (by omega), mour (29 + m) (by omega)]
    exact hW.2.2.1 m a q
  by_cases c1 : goF E r h (paF E r h) = r h
  · have e : mhF E r h = r := by unfold mhF; rw [if_pos c1]
    rw [e]; exact hW
  · by_cases c2 : goF E r h (paF E r h) = eG E
    · have e : mhF E r h = up (up (up r 12 (w32 (r 12 + 1))) (6 + h) (w32 (r 12 + 1))) h (-1) := by unfold mhF; rw [if_neg c1, if_pos c2]
      have v0 : mhF E r h h = -1 := by rw [e, upS]
      have v6 : mhF E r h (6 + h) = r 12 + 1 := by rw [e, up_j (by omega), upS, a12]
      have v12 : mhF E r h 12 = r 12 + 1 := by rw [e, up_j (by omega), up_j (by omega), upS, a12]
      refine ⟨fun i j i0 i1 j0 j1 q p => ?_, fun i i0 i1 => ?_, M3, ?_, by rw [mour 37 (by decide)]; exact hW.2.2.2.2⟩
      · by_cases ci : i = h
        · rw [ci, v0] at p; omega
        · by_cases cj : j = h
          · rw [cj, v0] at q; omega
          · rw [(oth i i0 i1 ci).1, (oth j j0 j1 cj).1] at q
            rw [(oth i i0 i1 ci).1] at p
            exact hW.1 i j i0 i1 j0 j1 q p
      · by_cases ci : i = h
        · rw [ci, v0, v6]
          have := hW.2.2.2.1
          exact Or.inl ⟨rfl, by omega⟩
        · rw [(oth i i0 i1 ci).1, (oth i i0 i1 ci).2]
          exact hW.2.1 i i0 i1
      · rw [v12, hW.2.2.2.1]
        exact (arF_p hh.1 (by omega) hr (by rw [v0]; decide) (fun i i0 i1 ci => (oth i i0 (by omega) ci).1)).symm
    · have e : mhF E r h = up r h (goF E r h (paF E r h)) := by unfold mhF; rw [if_neg c1, if_neg c2]
      have ok : okF E r (r h) (goF E r h (paF E r h)) := by
        rcases g.2 with w | w
        · exact absurd w c1
        · exact w
      have on : onF r (eH E) (goF E r h (paF E r h)) < 0 := by
        rcases ok.1 with w | w
        · exact absurd w c2
        · exact w
      have v0 : mhF E r h h = goF E r h (paF E r h) := by rw [e, upS]
      have v6 : mhF E r h (6 + h) = r (6 + h) := by rw [e, up_j (by omega)]
      have v12 : mhF E r h 12 = r 12 := by rw [e, up_j (by omega)]
      refine ⟨fun i j i0 i1 j0 j1 q p => ?_, fun i i0 i1 => ?_, M3, ?_, by rw [mour 37 (by decide)]; exact hW.2.2.2.2⟩
      · by_cases ci : i = h
        · by_cases cj : j = h
          · rw [ci, cj]
          · rw [ci, v0, (oth j j0 j1 cj).1] at q
            exact absurd q.symm (onF_n on j j0 (by omega))
        · by_cases cj : j = h
          · rw [cj, v0, (oth i i0 i1 ci).1] at q
            exact absurd q (onF_n on i i0 (by omega))
          · rw [(oth i i0 i1 ci).1, (oth j j0 j1 cj).1] at q
            rw [(oth i i0 i1 ci).1] at p
            exact hW.1 i j i0 i1 j0 j1 q p
      · by_cases ci : i = h
        · rw [ci, v0, v6]
          exact Or.inr (by omega)
        · rw [(oth i i0 i1 ci).1, (oth i i0 i1 ci).2]
          exact hW.2.1 i i0 i1
      · rw [v12, hW.2.2.2.1]
        refine (arF_cg (fun i i0 i1 => ?_)).symm
        by_cases ci : i = h
        · rw [ci, v0]; omega
        · rw [(oth i i0 (by omega) ci).1]
theorem mmF_o {E : Mem} {r : Int → Int} {m j : Int} (h : j ≠ 13 + m ∧ j ≠ 21 + m ∧ j ≠ 29 + m) : mmF E r m j = r j := by
  unfold mmF
  split
  · rw [up_j h.2.2]
  · split
    · rw [up_j h.1, up_j h.2.1]
    · split
      · rfl
      · rw [up_j h.1]
theorem goM_b {r : Int → Int} {m f g : Int} (h1 : 0 ≤ r f ∧ r f < g) (h2 : 0 ≤ r (13 + m) ∧ r (13 + m) < g) : 0 ≤ goM r m f ∧ goM r m f < g := by
  unfold goM
  split <;> omega
theorem WR.mm {E : Mem} {r : Int → Int} {m : Int} (hE : EBx E) (hW : WR E r) (hm : 0 ≤ m ∧ m < E 1 5) : WR E (mmF E r m) := by
  have eb := hE
  obtain ⟨e3, e4, e5⟩ := hE
  obtain ⟨f4, f5, fg⟩ := eb.f
  have wm := hW.2.2.1 m hm.1 hm.2
  have nb := nearF_b r (r (13 + m)) (eH E)
  have low : ∀ j, j ≤ 12 → mmF E r m j = r j := fun j a => mmF_o ⟨by omega, by omega, by omega⟩
  have v37 : mmF E r m 37 = r 37 := mmF_o ⟨by omega, by omega, by omega⟩
  have hl : ∀ f, 0 ≤ f → f < E 1 4 → 0 ≤ r f → r f < eG E := fun f a q w => by
    have := hW.2.1 f a q
    omega
  refine ⟨fun i j i0 i1 j0 j1 q p => ?_, fun i i0 i1 => ?_, fun i i0 i1 => ?_, ?_, by rw [v37]; exact hW.2.2.2.2⟩
  · rw [low i (by omega), low j (by omega)] at q
    rw [low i (by omega)] at p
    exact hW.1 i j i0 i1 j0 j1 q p
  · rw [low i (by omega), low (6 + i) (by omega)]
    exact hW.2.1 i i0 i1
  · by_cases ci : i = m
    · rw [ci]
      unfold mmF
      by_cases c1 : 0 ≤ r (21 + m) ∧ r (r (21 + m)) < 0
      · rw [if_pos c1, up_j (by omega), up_j (by omega), upS]
        omega
      · rw [if_neg c1]
        by_cases c2 : chF E r m
        · rw [if_pos c2]
          have h0 : 0 ≤ nearF r (r (13 + m)) (eH E) := c2.1
          have rn := nb.2.2 h0
          have gb := goM_b (r := r) (m := m) (f := nearF r (r (13 + m)) (eH E)) (g := eG E) ⟨rn, hl _ h0 (by omega) rn⟩ wm.2.1
          rw [up_j (by omega), upS, upS, up_j (by omega), up_j (by omega)]
          omega
        · rw [if_neg c2]
          by_cases c3 : r (21 + m) < 0
          · rw [if_pos c3]; exact wm
          · rw [if_neg c3]
            have gb := goM_b (r := r) (m := m) (f := r (21 + m)) (g := eG E) ⟨by omega, hl _ (by omega) (by omega) (by omega)⟩ wm.2.1
            rw [up_j (by omega), upS, up_j (by omega)]
            omega
    · rw [mmF_o ⟨by omega, by omega, by omega⟩, mmF_o ⟨by omega, by omega, by omega⟩, mmF_o ⟨by omega, by omega, by omega⟩]
      exact hW.2.2.1 i i0 i1
  · rw [low 12 (by decide), hW.2.2.2.1]
    exact (arF_cg (fun i i0 i1 => by rw [low i (by omega)])).symm
-- what a write makes of a scene
theorem SC.cell {E M : Mem} {k : Nat} {r : Int → Int} {h z : Int} (hC : SC E M k r) (hh : 0 ≤ h ∧ h < 6) : SC E (up2 M (k + 1) h z) k (up r h z) := by
  obtain ⟨a1, a2, a3, a4, a5, a6, a7, a8, a9, a10, a11⟩ := hC
  refine ⟨by rw [up2_n (by omega)]; exact a1, by rw [up2_n (by omega)]; exact a2, fun j a q => ?_, fun j a q => by rw [up2_n (by omega), up_j (by omega)]; exact a4 j a q, by rw [up2_n (by omega), up_j (by omega)]; exact a5, fun j a q => by rw [up2_n (by omega), up_j (by omega)]; exact a6 j a q, fun j a q => by rw [up2_n (by omega)]; exact a7 j a q, fun j a q => by rw [up2_n (by omega), up_j (by omega)]; exact a8 j a q, fun j a q => by rw [up2_n (by omega), up_j (by omega)]; exact a9 j a q, by rw [up2_n (by omega), up_j (by omega)]; exact a10, ?_⟩
  · by_cases cj : j = h
    · rw [cj, up2_s, upS]
    · rw [up2_j cj, up_j cj]; exact a3 j a q
  · rw [up2_n (by omega), a11]
    exact egF_cg (fun i a q => by rw [up_j (by omega)])
theorem SC.place {E M : Mem} {k : Nat} {r : Int → Int} {m z : Int} (hC : SC E M k r) (hm : 0 ≤ m ∧ m < 8) : SC E (up2 M (k + 3) m z) k (up r (13 + m) z) := by
  obtain ⟨a1, a2, a3, a4, a5, a6, a7, a8, a9, a10, a11⟩ := hC
  refine ⟨by rw [up2_n (by omega)]; exact a1, by rw [up2_n (by omega)]; exact a2, fun j a q => by rw [up2_n (by omega), up_j (by omega)]; exact a3 j a q, fun j a q => by rw [up2_n (by omega), up_j (by omega)]; exact a4 j a q, by rw [up2_n (by omega), up_j (by omega)]; exact a5, fun j a q => ?_, fun j a q => by rw [up2_n (by omega)]; exact a7 j a q, fun j a q => by rw [up2_n (by omega), up_j (by omega)]; exact a8 j a q, fun j a q => by rw [up2_n (by omega), up_j (by omega)]; exact a9 j a q, by rw [up2_n (by omega), up_j (by omega)]; exact a10, ?_⟩
  · by_cases cj : j = m
    · rw [cj, up2_s, upS]
    · rw [up2_j cj, up_j (by omega)]; exact a6 j a q
  · rw [up2_n (by omega), a11]
    exact egF_cg (fun i a q => by rw [up_j (by omega)])
theorem SC.foll {E M : Mem} {k : Nat} {r : Int → Int} {m z : Int} (hC : SC E M k r) (hm : 0 ≤ m ∧ m < 8) : SC E (up2 M (k + 5) m z) k (up r (21 + m) z) := by
  obtain ⟨a1, a2, a3, a4, a5, a6, a7, a8, a9, a10, a11⟩ := hC
  refine ⟨by rw [up2_n (by omega)]; exact a1, by rw [up2_n (by omega)]; exact a2, fun j a q => by rw [up2_n (by omega), up_j (by omega)]; exact a3 j a q, fun j a q => by rw [up2_n (by omega), up_j (by omega)]; exact a4 j a q, by rw [up2_n (by omega), up_j (by omega)]; exact a5, fun j a q => by rw [up2_n (by omega), up_j (by omega)]; exact a6 j a q, fun j a q => by rw [up2_n (by omega)]; exact a7 j a q, fun j a q => ?_, fun j a q => by rw [up2_n (by omega), up_j (by omega)]; exact a9 j a q, by rw [up2_n (by omega), up_j (by omega)]; exact a10, ?_⟩
  · by_cases cj : j = m
    · rw [cj, up2_s, upS]
    · rw [up2_j cj, up_j (by omega)]; exact a8 j a q
  · rw [up2_n (by omega), a11]
    exact egF_cg (fun i a q => by rw [up_j (by omega)])
theorem SC.fin {E M : Mem} {k : Nat} {r : Int → Int} {m z w : Int} (hE : EBx E) (hC : SC E M k r) (hm : 0 ≤ m ∧ m < E 1 5) (hr : r (29 + m) = -1) (hz : z ≠ -1) (hw : w = egF r (eO E) + 1) : SC E (up2 (up2 M (k + 6) m z) k 9 w) k (up r (29 + m) z) := by
  obtain ⟨a1, a2, a3, a4, a5, a6, a7, a8, a9, a10, a11⟩ := hC
  have ef := hE.f
  have e5 := hE.2.2
  refine ⟨by rw [up2_j (by decide), up2_n (by omega)]; exact a1, by rw [up2_j (by decide), up2_n (by omega)]; exact a2, fun j a q => by rw [up2_n (by omega), up2_n (by omega), up_j (by omega)]; exact a3 j a q, fun j a q => by rw [up2_n (by omega), up2_n (by omega), up_j (by omega)]; exact a4 j a q, by rw [up2_j (by decide), up2_n (by omega), up_j (by omega)]; exact a5, fun j a q => by rw [up2_n (by omega), up2_n (by omega), up_j (by omega)]; exact a6 j a q, fun j a q => by rw [up2_n (by omega), up2_n (by omega)]; exact a7 j a q, fun j a q => by rw [up2_n (by omega), up2_n (by omega), up_j (by omega)]; exact a8 j a q, fun j a q => ?_, by rw [up2_j (by decide), up2_n (by omega), up_j (by omega)]; exact a10, ?_⟩
  · rw [up2_n (by omega)]
    by_cases cj : j = m
    · rw [cj, up2_s, upS]
    · rw [up2_j cj, up_j (by omega)]; exact a9 j a q
  · rw [up2_s, hw]
    exact (egF_p hm.1 (by omega) hr (by rw [upS]; exact hz) (fun i i0 i1 ci => up_j (by omega))).symm
theorem SC.arr {E M : Mem} {k : Nat} {r : Int → Int} {h w : Int} (hC : SC E M k r) (hh : 0 ≤ h ∧ h < 6) : SC E (up2 (up2 (up2 M k 8 w) (k + 2) h w) (k + 1) h (-1)) k (up (up (up r 12 w) (6 + h) w) h (-1)) := by
  obtain ⟨a1, a2, a3, a4, a5, a6, a7, a8, a9, a10, a11⟩ := hC
  refine ⟨by rw [up2_n (by omega), up2_n (by omega), up2_j (by decide)]; exact a1, by rw [up2_n (by omega), up2_n (by omega), up2_j (by decide)]; exact a2, fun j a q => ?_, fun j a q => ?_, ?_, fun j a q => by rw [up2_n (by omega), up2_n (by omega), up2_n (by omega), up_j (by omega), up_j (by omega), up_j (by omega)]; exact a6 j a q, fun j a q => by rw [up2_n (by omega), up2_n (by omega), up2_n (by omega)]; exact a7 j a q, fun j a q => by rw [up2_n (by omega), up2_n (by omega), up2_n (by omega), up_j (by omega), up_j (by omega), up_j (by omega)]; exact a8 j a q, fun j a q => by rw [up2_n (by omega), up2_n (by omega), up2_n (by omega), up_j (by omega), up_j (by omega), up_j (by omega)]; exact a9 j a q, by rw [up2_n (by omega), up2_n (by omega), up2_j (by decide), up_j (by omega), up_j (by omega), up_j (by omega)]; exact a10, ?_⟩
  · by_cases cj : j = h
    · rw [cj, up2_s, upS]
    · rw [up2_j cj, up2_n (by omega), up2_n (by omega), up_j cj, up_j (by omega), up_j (by omega)]; exact a3 j a q
  · rw [up2_n (by omega)]
    by_cases cj : j = h
    · rw [cj, up2_s, up_j (by omega), upS]
    · rw [up2_j cj, up2_n (by omega), up_j (by omega), up_j (by omega), up_j (by omega)]; exact a4 j a q
  · rw [up2_n (by omega), up2_n (by omega), up2_s, up_j (by omega), up_j (by omega), upS]
  · rw [up2_n (by omega), up2_n (by omega), up2_j (by decide), a11]
    exact egF_cg (fun i a q => by rw [up_j (by omega), up_j (by omega), up_j (by omega)])
theorem SC.stp {E M : Mem} {k : Nat} {r : Int → Int} {w : Int} (hE : EBx E) (hC : SC E M k r) : SC E (up2 M k 10 w) k (up r 37 w) := by
  have ef := hE.f
  have e5 := hE.2.2
  obtain ⟨a1, a2, a3, a4, a5, a6, a7, a8, a9, a10, a11⟩ := hC
  refine ⟨by rw [up2_j (by decide)]; exact a1, by rw [up2_j (by decide)]; exact a2, fun j a q => by rw [up2_n (by omega), up_j (by omega)]; exact a3 j a q, fun j a q => by rw [up2_n (by omega), up_j (by omega)]; exact a4 j a q, by rw [up2_j (by decide), up_j (by omega)]; exact a5, fun j a q => by rw [up2_n (by omega), up_j (by omega)]; exact a6 j a q, fun j a q => by rw [up2_n (by omega)]; exact a7 j a q, fun j a q => by rw [up2_n (by omega), up_j (by omega)]; exact a8 j a q, fun j a q => by rw [up2_n (by omega), up_j (by omega)]; exact a9 j a q, by rw [up2_s, upS], ?_⟩
  rw [up2_j (by decide), a11]
  exact egF_cg (fun i a q => by rw [up_j (by omega)])
