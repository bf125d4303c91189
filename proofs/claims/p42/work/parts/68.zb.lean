section
/-! SHEET -/
theorem w32_l (a b : Int) : w32 (w32 a + b) = w32 (a + b) := by
  unfold w32
  have e : iI ((iI a).toInt + b) = iI (a + b) := by
    show Int32.ofInt ((iI a).toInt + b) = Int32.ofInt (a + b)
    rw [Int32.ofInt_add, Int32.ofInt_add, Int32.ofInt_toInt]
    rfl
  rw [e]
theorem w32_r (a b : Int) : w32 (a + w32 b) = w32 (a + b) := by
  rw [Int.add_comm, w32_l, Int.add_comm]
def cvF (kd v : Int) : Int := if kd = 0 then b8I v else if kd = 1 then s16I v else v
def shE (E : Mem) (kd n f st m : Int) : Int := if kd = 3 ∨ n ≤ m then 0 else max 0 (min (cvF kd (w32 (f + w32 (m * st)))) (eG E - 1))
def shR (E : Mem) (kd n f st : Int) (r : Int → Int) : Nat → Int → Int
  | 0 => r
  | m + 1 => if r (29 + m) < 0 then up (shR E kd n f st r m) (13 + m) (shE E kd n f st m) else shR E kd n f st r m
def shS (E : Mem) (kd n f st : Int) (r : Int → Int) : Nat → Int
  | 0 => 0
  | m + 1 => w32 (shS E kd n f st r m + shR E kd n f st r (m + 1) (13 + m))
theorem shR_s {E : Mem} {kd n f st : Int} {r : Int → Int} {m : Int} (h : 0 ≤ m) : shR E kd n f st r (m + 1).toNat = if r (29 + m) < 0 then up (shR E kd n f st r m.toNat) (13 + m) (shE E kd n f st m) else shR E kd n f st r m.toNat := by
  rw [show (m + 1).toNat = m.toNat + 1 from by omega]
  show (if r (29 + (m.toNat : Nat)) < 0 then up (shR E kd n f st r m.toNat) (13 + (m.toNat : Nat)) (shE E kd n f st (m.toNat : Nat)) else shR E kd n f st r m.toNat) = _
  rw [show ((m.toNat : Nat) : Int) = m from by omega]
theorem shS_s {E : Mem} {kd n f st : Int} {r : Int → Int} {m : Int} (h : 0 ≤ m) : shS E kd n f st r (m + 1).toNat = w32 (shS E kd n f st r m.toNat + shR E kd n f st r (m + 1).toNat (13 + m)) := by
  rw [show (m + 1).toNat = m.toNat + 1 from by omega]
  show w32 (shS E kd n f st r m.toNat + shR E kd n f st r (m.toNat + 1) (13 + (m.toNat : Nat))) = _
  rw [show ((m.toNat : Nat) : Int) = m from by omega]
theorem shR_o {E : Mem} {kd n f st : Int} {r : Int → Int} {j : Int} (hj : 21 ≤ j) : ∀ m : Nat, m ≤ 8 → shR E kd n f st r m j = r j := by
  intro m
  induction m with
  | zero => intro _; rfl
  | succ m ih =>
    intro hm
    unfold shR
    split
    · rw [up_j (by omega)]; exact ih (by omega)
    · exact ih (by omega)
theorem shE_b {E : Mem} {kd n f st m : Int} (hE : EBx E) : 0 ≤ shE E kd n f st m ∧ shE E kd n f st m < eG E := by
  have f := hE.f
  have g := hE.1
  unfold shE
  split <;> omega
theorem WR.place {E : Mem} {r : Int → Int} {m v : Int} (hW : WR E r) (hE : EBx E) (hm : 0 ≤ m ∧ m < E 1 5) (o : 0 ≤ v ∧ v < eG E) : WR E (up r (13 + m) v) := by
  have f := hE.f
  obtain ⟨g1, g2, g3⟩ := hE
  have low : ∀ j, j ≤ 12 → up r (13 + m) v j = r j := fun j a => up_j (by omega)
  refine ⟨fun i j i0 i1 j0 j1 q p => ?_, fun i i0 i1 => ?_, fun i i0 i1 => ?_, ?_, by rw [up_j (by omega)]; exact hW.2.2.2.2⟩
  · rw [low i (by omega), low j (by omega)] at q
    rw [low i (by omega)] at p
    exact hW.1 i j i0 i1 j0 j1 q p
  · rw [low i (by omega), low (6 + i) (by omega)]
    exact hW.2.1 i i0 i1
  · have w := hW.2.2.1 i i0 i1
    rw [up_j (j := 13 + m) (i := 21 + i) (by omega), up_j (j := 13 + m) (i := 29 + i) (by omega)]
    by_cases ci : i = m
    · rw [ci, upS]
      rw [ci] at w
      exact ⟨w.1, o, w.2.2⟩
    · rw [up_j (by omega)]
      exact w
  · rw [low 12 (by decide), hW.2.2.2.1]
    exact arF_cg (fun i i0 i1 => by rw [low i (by omega)])
theorem WR.sh {E : Mem} {kd n f st : Int} {r : Int → Int} (hW : WR E r) (hE : EBx E) : ∀ m : Nat, (m : Int) ≤ E 1 5 → WR E (shR E kd n f st r m) := by
  intro m
  induction m with
  | zero => intro _; exact hW
  | succ m ih =>
    intro hm
    unfold shR
    split
    · exact (ih (by omega)).place hE (by omega) (shE_b hE)
    · exact ih (by omega)
abbrev shOK (kd n : Int) : Prop := (0 ≤ kd ∧ kd ≤ 3) ∧ n ≤ 8
def shA (E : Mem) (kd n f st : Int) (r : Int → Int) : Int := if ¬ shOK kd n then -1 else if kd ≠ 3 ∧ n < 0 then -2 else if kd = 3 then -3 else shS E kd n f st r (eO E)
def shRR (E : Mem) (kd n f st : Int) (r : Int → Int) : Int → Int := if shOK kd n ∧ (kd = 3 ∨ 0 ≤ n) then shR E kd n f st r (eO E) else r
theorem WR.shAll {E : Mem} {kd n f st : Int} {r : Int → Int} (hW : WR E r) (hE : EBx E) : WR E (shRR E kd n f st r) := by
  have f' := hE.f
  show WR E (if shOK kd n ∧ (kd = 3 ∨ 0 ≤ n) then shR E kd n f st r (eO E) else r)
  split
  · exact hW.sh hE _ (by omega)
  · exact hW
theorem gX11_cellOfEntry {p1 p2 : Int} {M E : Mem} {Q : Int → Mem → Prop} (hI : IX M) (hS : STR E M) (hp : iR p2) (hQ : Q (max 0 (min (cvF p1 p2) (eG E - 1))) M) : qX11_cellOfEntry p1 p2 M Q := by
  unfold cvF at hQ
  unfold qX11_cellOfEntry qX11_cellOfEntry_J20
  refine ⟨fun c => ⟨fun c2 => ?_, fun c2 => ?_⟩, fun c => ?_⟩
  · refine ⟨hp, gX8_putOnStreet hI hS ?_⟩
    intro _
    rw [if_neg c, if_neg c2] at hQ
    exact hQ
  · intro x5 e5 r5
    refine ⟨r5, gX8_putOnStreet hI hS ?_⟩
    intro _
    rw [if_neg c, if_pos c2, ← e5] at hQ
    exact hQ
  · intro x6 e6 r6
    refine ⟨r6, gX8_putOnStreet hI hS ?_⟩
    intro _
    rw [if_pos c, ← e6] at hQ
    exact hQ
theorem gX11_sheet_L47 {p1 p2 p3 p4 e : Int} {X125 : Int → Mem → Prop} {Q : Int → Mem → Prop} {M0 E : Mem} {r : Int → Int} (he : e = if p1 = 3 then 0 else p2) (he8 : e ≤ 8 ∧ 0 ≤ e) (hS : STR E M0) (hX : ∀ M' : Mem, IX M' → Ks (fun k _ => k = 4) M0 M' → SC E M' 1 (shR E p1 p2 p3 p4 r (eO E)) → X125 (shS E p1 p2 p3 p4 r (eO E)) M') (hW : WR E r) : ∀ (n : Nat) (v6 v7 : Int) (M : Mem), IX M → Ks (fun k _ => k = 4) M0 M → SC E M 1 (shR E p1 p2 p3 p4 r v7.toNat) → v6 = shS E p1 p2 p3 p4 r v7.toNat → (0 ≤ v7 ∧ v7 ≤ E 1 5) → E 1 5 - v7 < (n : Int) → qX11_sheet_L47 p1 p2 p3 p4 X125 Q n e v6 v7 M := by
  intro n
  induction n with
  | zero => intro v6 v7 M hI hK hC h6 hv hm; exact absurd hm (by omega)
  | succ n ih =>
    intro v6 v7 M hI hK hC h6 hv hm
    have ef := hS.eb.f
    have b5 := hS.2.2.2.2.2.2.2.1
    have b3 := hS.2.1
    have S1 : STR E M := hS.fr (hK 158 1 (by omega)) (hK 158 2 (by omega)) (hK 158 3 (by omega)) (fun j => hK 159 j (by omega))
    rw [qX11_sheet_L47]
    intro x6 e6 _
    have f6 : x6 = E 1 5 := by rw [e6]; exact hC.2.1
    refine ⟨⟨by omega, by omega⟩, ⟨fun c => ?_, fun c => ?_⟩⟩
    · rw [show v7.toNat = eO E from by omega] at hC h6
      rw [h6]
      exact hX _ hI hK hC
    have g7 : M 7 v7 = r (29 + v7) := by
      have := hC.2.2.2.2.2.2.2.2.1 v7 hv.1 (by omega)
      rw [shR_o (by omega) _ (by omega)] at this
      exact this
    have hs := shR_s (E := E) (kd := p1) (n := p2) (f := p3) (st := p4) (r := r) hv.1
    have hss := shS_s (E := E) (kd := p1) (n := p2) (f := p3) (st := p4) (r := r) hv.1
    have w := hW.2.2.1 v7 hv.1 (by omega)
    have J104 : ∀ M' : Mem, IX M' → Ks (fun k _ => k = 4) M0 M' → SC E M' 1 (shR E p1 p2 p3 p4 r (v7 + 1).toNat) → qX11_sheet_J104 p1 p2 p3 p4 (qX11_sheet_L47 p1 p2 p3 p4 X125 Q n) X125 Q e v6 v7 M' := by
      intro M' i' k' c'
      unfold qX11_sheet_J104
      refine ⟨by omega, by omega, ?_⟩
      intro x13 e13 _ x14 e14 _
      refine ih _ _ _ i' k' c' ?_ (by omega) (by omega)
      rw [hss, e14, h6, e13]
      congr 2
      exact c'.2.2.2.2.2.1 v7 hv.1 (by omega)
    have J103 : r (29 + v7) < 0 → qX11_sheet_J103 p1 p2 p3 p4 (qX11_sheet_L47 p1 p2 p3 p4 X125 Q n) X125 Q e v6 v7 (shE E p1 p2 p3 p4 v7) v7 M := by
      intro hr
      have bE := shE_b (E := E) (kd := p1) (n := p2) (f := p3) (st := p4) (m := v7) hS.eb
      unfold qX11_sheet_J103
      refine ⟨by omega, by omega, ⟨by omega, by omega⟩, ?_⟩
      intro M20 h20
      refine J104 M20 (by rw [h20]; exact hI.up (by decide) ((bx_s3 (show isS 1 by decide)).mpr ⟨by omega, by omega⟩)) (by rw [h20]; exact hK.wr rfl) ?_
      rw [hs, if_pos hr, h20]
      exact hC.place (by omega)
    refine gX6_hasEnded (k0 := 1) (p1 := v7) ⟨by omega, by omega⟩ ?_
    intro z9 c9 _ _
    rw [g7] at c9
    refine ⟨fun c2 => J104 M hI hK (by rw [hs, if_neg (by omega)]; exact hC), fun c2 => ⟨⟨by omega, by omega⟩, ⟨fun c3 => ?_, fun c3 => ?_⟩⟩⟩
    · have v : shE E p1 p2 p3 p4 v7 = 0 := by
        unfold shE
        rw [if_pos]
        by_cases c4 : p1 = 3
        · exact Or.inl c4
        · rw [if_neg c4] at he
          exact Or.inr (by omega)
      have := J103 (by omega)
      rw [v] at this
      exact this
    · intro x21 e21 _ x22 e22 r22
      have n3 : p1 ≠ 3 := by
        intro c4
        rw [if_pos c4] at he
        omega
      rw [if_neg n3] at he
      refine gX11_cellOfEntry hI S1 r22 ?_
      intro _
      have v : max 0 (min (cvF p1 x22) (eG E - 1)) = shE E p1 p2 p3 p4 v7 := by
        unfold shE
        rw [if_neg (by omega), e22, e21]
      rw [v]
      exact J103 (by omega)
theorem gX11_sheet {p1 p2 p3 p4 : Int} {M E : Mem} {r : Int → Int} {Q : Int → Mem → Prop} (hI : IX M) (hS : STR E M) (hC : SC E M 1 r) (hW : WR E r) (hQ : ∀ M' : Mem, IX M' → Ks (fun k _ => k = 4) M M' → SC E M' 1 (shRR E p1 p2 p3 p4 r) → Q (shA E p1 p2 p3 p4 r) M') : qX11_sheet p1 p2 p3 p4 M Q := by
  have b5 := hS.2.2.2.2.2.2.2.1
  have ef := hS.eb.f
  unfold shA shRR at hQ
  have BAD : ¬ shOK p1 p2 → Q (-1) M := fun q => by
    have := hQ M hI Ks.rf (by rw [if_neg (fun u => q u.1)]; exact hC)
    rw [if_pos q] at this
    exact this
  have GO : shOK p1 p2 → (p1 = 3 ∨ 0 ≤ p2) → qX11_sheet_J29 p1 p2 p3 p4 Q M := by
    intro ok hn
    have FIN : ∀ M' : Mem, IX M' → Ks (fun k _ => k = 4) M M' → SC E M' 1 (shR E p1 p2 p3 p4 r (eO E)) → (((¬ p1 = 3) → (iR (shS E p1 p2 p3 p4 r (eO E)) ∧ Q (shS E p1 p2 p3 p4 r (eO E)) M')) ∧ ((p1 = 3) → Q (-3) M')) := by
      intro M' i' k' c'
      have H := hQ M' i' k' (by rw [if_pos ⟨ok, hn⟩]; exact c')
      rw [if_neg (fun q => q ok), if_neg (by omega)] at H
      refine ⟨fun c => ⟨?_, ?_⟩, fun c => ?_⟩
      · cases h : eO E with
        | zero => exact ⟨by show -2147483648 ≤ (0 : Int); decide, by show (0 : Int) ≤ 2147483647; decide⟩
        | succ m => exact w32_R _
      · rw [if_neg c] at H
        exact H
      · rw [if_pos c] at H
        exact H
    unfold qX11_sheet_J29
    refine ⟨fun c => ⟨9, ?_⟩, fun c => ⟨9, ?_⟩⟩
    · exact gX11_sheet_L47 (M0 := M) (r := r) (by rw [if_neg c]) (by omega) hS FIN hW _ _ _ _ hI Ks.rf hC rfl (by omega) (by omega)
    · exact gX11_sheet_L47 (M0 := M) (r := r) (by rw [if_pos c]) (by omega) hS FIN hW _ _ _ _ hI Ks.rf hC rfl (by omega) (by omega)
  unfold qX11_sheet
  refine ⟨fun c => BAD (by unfold shOK; omega), fun c => ⟨fun c2 => BAD (by unfold shOK; omega), fun c2 => ⟨fun c3 => ⟨fun c4 => GO ⟨by omega, by omega⟩ (by omega), fun c4 => ⟨fun c5 => GO ⟨by omega, by omega⟩ (by omega), fun c5 => ?_⟩⟩, fun c3 => BAD (by unfold shOK; omega)⟩⟩⟩
  have := hQ M hI Ks.rf (by rw [if_neg (by unfold shOK; omega)]; exact hC)
  rw [if_neg (by unfold shOK; omega), if_pos (by omega)] at this
  exact this
theorem gX12_sheet_L46 {p1 p2 p3 p4 b : Int} {X177 : Int → Mem → Prop} {Q : Int → Mem → Prop} {M0 E : Mem} {r : Int → Int} (h3 : iR p3) (hEb : EBx E) (hX : ∀ M' : Mem, IM b M' → FrJ (fun k _ => k = 5) M0 M' → M' 5 = shR E p1 p2 p3 p4 r (eO E) → X177 (shS E p1 p2 p3 p4 r (eO E)) M') : ∀ (n : Nat) (v5 v6 v7 : Int) (M : Mem), IM b M → CE E M → FrJ (fun k _ => k = 5) M0 M → M 5 = shR E p1 p2 p3 p4 r v7.toNat → v5 = shS E p1 p2 p3 p4 r v7.toNat → v6 = w32 (p3 + w32 (v7 * p4)) → (0 ≤ v7 ∧ v7 ≤ E 1 5) → E 1 5 - v7 < (n : Int) → qX12_sheet_L46 p1 p2 p3 p4 X177 Q n v5 v6 v7 M := by
  intro n
  induction n with
  | zero => intro v5 v6 v7 M hI hE hF h5 hv5 hv6 hv hm; exact absurd hm (by omega)
  | succ n ih =>
    intro v5 v6 v7 M hI hE hF h5 hv5 hv6 hv hm
    have ef := hEb.f
    have b5 := hEb.2.2
    have bg := hE.g hI
    have e5 : M 1 5 = E 1 5 := hE 1 5 cE15
    rw [qX12_sheet_L46]
    intro x6 e6 _
    refine ⟨⟨by omega, by omega⟩, ⟨fun c => ?_, fun c => ?_⟩⟩
    · rw [show v7.toNat = eO E from by omega] at h5 hv5
      rw [hv5]
      exact hX _ hI hF h5
    have g29 : M 5 (29 + v7) = r (29 + v7) := by rw [h5]; exact shR_o (by omega) _ (by omega)
    have hs := shR_s (E := E) (kd := p1) (n := p2) (f := p3) (st := p4) (r := r) hv.1
    have hss := shS_s (E := E) (kd := p1) (n := p2) (f := p3) (st := p4) (r := r) hv.1
    have w13 : w32 (13 + v7) = 13 + v7 := w32_id ⟨by omega, by omega⟩
    have J148 : ∀ t0 : Int, (-1 ≤ t0 ∧ t0 ≤ 29) → up (M 5) (13 + v7) t0 = shR E p1 p2 p3 p4 r (v7 + 1).toNat → qX12_sheet_J148 p1 p2 p3 p4 (qX12_sheet_L46 p1 p2 p3 p4 X177 Q n) X177 Q v5 v6 v7 t0 (13 + v7) M := by
      intro t0 ht hr
      unfold qX12_sheet_J148
      refine ⟨by omega, by omega, ⟨by omega, by omega⟩, ?_⟩
      intro M19 h19 x20 e20 _
      have f20 : x20 = 13 + v7 := by rw [e20]; exact w13
      refine ⟨by omega, by omega, ?_⟩
      intro x23 e23 _ x24 e24 _ x25 e25 _
      have k19 : M19 5 = shR E p1 p2 p3 p4 r (v7 + 1).toNat := by rw [h19, up2_up]; exact hr
      refine ih _ _ _ _ (by rw [h19]; exact hI.up (by omega) ((bm_n (Or.inl rfl)).mpr ⟨by omega, by omega, by omega, by omega⟩)) (by rw [h19]; exact hE.up (by intro h; rcases h with h | h | h | h | h <;> omega)) (by rw [h19]; exact hF.up rfl) k19 ?_ ?_ (by omega) (by omega)
      · rw [hss, e24, hv5, e23, k19, f20]
      · rw [e25, hv6, w32_l, w32_r, show (v7 + 1) * p4 = v7 * p4 + p4 from by rw [Int.add_mul, Int.one_mul], show p3 + w32 (v7 * p4) + p4 = (p3 + p4) + w32 (v7 * p4) from by omega, w32_r]
        congr 1
        omega
    have J110 : qX12_sheet_J110 p1 p2 p3 p4 (qX12_sheet_L46 p1 p2 p3 p4 X177 Q n) X177 Q v5 v6 v7 (shE E p1 p2 p3 p4 v7) M := by
      have bE := shE_b (E := E) (kd := p1) (n := p2) (f := p3) (st := p4) (m := v7) hEb
      unfold qX12_sheet_J110
      intro x12 e12 _
      rw [w13] at e12
      subst e12
      refine ⟨⟨by omega, by omega⟩, ?_⟩
      refine gX12_isEnded (k0 := 5) (p1 := v7) ⟨by omega, by omega⟩ ?_
      intro z14 c14 _ _
      rw [g29] at c14
      refine ⟨fun c2 => ?_, fun c2 => ?_⟩
      · exact J148 _ ⟨by omega, by omega⟩ (by rw [hs, if_pos (by omega), h5])
      · intro x26 e26 _
        rw [w13] at e26
        refine ⟨by omega, by omega, ?_⟩
        intro x29 e29 _
        have b29 : -1 ≤ x29 ∧ x29 ≤ 29 := by rw [e29]; exact ((bm_n (Or.inl rfl)).mp (hI.bx _ _)).2.1 ⟨by omega, by omega⟩
        refine J148 _ b29 ?_
        rw [hs, if_neg (by omega), e29, e26, up_id, h5]
    have Z : (p1 = 3 ∨ p2 ≤ v7) → qX12_sheet_J91 p1 p2 p3 p4 (qX12_sheet_L46 p1 p2 p3 p4 X177 Q n) X177 Q v5 v6 v7 M := by
      intro h
      have v : shE E p1 p2 p3 p4 v7 = 0 := by unfold shE; rw [if_pos h]
      rw [v] at J110
      exact J110
    have J78 : ∀ t0 : Int, iR t0 → t0 = cvF p1 v6 → qX12_sheet_J78 p1 p2 p3 p4 (qX12_sheet_L46 p1 p2 p3 p4 X177 Q n) X177 Q v5 v6 v7 t0 M := by
      intro t0 rt ht
      unfold qX12_sheet_J78
      refine ⟨fun c2 => Z (Or.inl c2), fun c2 => ⟨⟨by omega, by omega⟩, ⟨fun c3 => ?_, fun c3 => Z (Or.inr (by omega))⟩⟩⟩
      refine gX12_gate hI hE ?_
      intro _ x33 e33 _
      have f33 : x33 = eG E - 1 := by rw [e33]; exact w32_id ⟨by omega, by omega⟩
      refine ⟨rt, ?_⟩
      intro x35 e35 _ x36 e36 _
      have v : x36 = shE E p1 p2 p3 p4 v7 := by
        unfold shE
        rw [if_neg (by omega), e36, e35, f33, ht, hv6, Int.min_comm]
      rw [v]
      exact J110
    have r6 : iR v6 := by rw [hv6]; exact w32_R _
    refine ⟨fun c2 => ⟨fun c3 => J78 _ r6 (by unfold cvF; rw [if_neg c2, if_neg c3]), fun c3 => ?_⟩, fun c2 => ?_⟩
    · intro x37 e37 r37
      exact J78 _ r37 (by unfold cvF; rw [if_neg c2, if_pos c3]; exact e37)
    · intro x38 e38 r38
      exact J78 _ r38 (by unfold cvF; rw [if_pos c2]; exact e38)
theorem gX12_sheet {p1 p2 p3 p4 b : Int} {M E : Mem} {Q : Int → Mem → Prop} (hI : IM b M) (hE : CE E M) (hEb : EBx E) (h3 : iR p3) (hQ : ∀ M' : Mem, IM b M' → FrJ (fun k j => k = 5 ∨ (k = 1 ∧ j = 0)) M M' → M' 5 = shRR E p1 p2 p3 p4 (M 5) → Q (shA E p1 p2 p3 p4 (M 5)) M') : qX12_sheet p1 p2 p3 p4 M Q := by
  have ef := hEb.f
  have b5 := hEb.2.2
  unfold shA shRR at hQ
  unfold qX12_sheet
  intro M1 h1
  have i1 : IM b M1 := by rw [h1]; exact hI.up (by omega) (by simp [BM])
  have F1 : FrJ (fun k j => k = 5 ∨ (k = 1 ∧ j = 0)) M M1 := by rw [h1]; exact FrJ.rf.up (Or.inr ⟨rfl, rfl⟩)
  have K1 : M1 5 = M 5 := by rw [h1, up2_n (by decide)]
  have E1 : CE E M1 := by rw [h1]; exact hE.up (by intro h; rcases h with h | h | h | h | h <;> omega)
  have BAD : ¬ shOK p1 p2 → Q (-1) M1 := fun q => by
    have := hQ M1 i1 F1 (by rw [if_neg (fun u => q u.1)]; exact K1)
    rw [if_pos q] at this
    exact this
  have GO : shOK p1 p2 → (p1 = 3 ∨ 0 ≤ p2) → qX12_sheet_J37 p1 p2 p3 p4 Q M1 := by
    intro ok hn
    unfold qX12_sheet_J37
    refine ⟨9, gX12_sheet_L46 (b := b) (M0 := M1) (r := M 5) h3 hEb ?_ _ _ _ _ _ i1 E1 FrJ.rf K1 rfl ?_ (by omega) (by omega)⟩
    · intro M' i' f' c'
      have H := hQ M' i' (F1.tr (f'.mono (fun _ _ q => Or.inl q))) (by rw [if_pos ⟨ok, hn⟩]; exact c')
      rw [if_neg (fun q => q ok), if_neg (by omega)] at H
      refine ⟨fun c => ⟨?_, ?_⟩, fun c => ?_⟩
      · cases h : eO E with
        | zero => exact ⟨by show -2147483648 ≤ (0 : Int); decide, by show (0 : Int) ≤ 2147483647; decide⟩
        | succ m => exact w32_R _
      · rw [if_neg c] at H
        exact H
      · rw [if_pos c] at H
        exact H
    · rw [Int.zero_mul, w32_r, Int.add_zero, w32_id h3]
  refine sX12_in (p0 := p1) (p2 := 0) (p4 := 3) i1 ?_
  intro z hz _ _
  refine ⟨fun c => BAD (by have := hz.2.2 c; unfold shOK; omega), fun c => ?_⟩
  have cp := hz.2.1 (by rcases hz.1 with q | q <;> omega)
  refine ⟨fun c3 => ⟨fun c4 => GO ⟨by omega, by omega⟩ (by omega), fun c4 => ⟨fun c5 => GO ⟨by omega, by omega⟩ (by omega), fun c5 => ?_⟩⟩, fun c3 => BAD (by unfold shOK; omega)⟩
  have := hQ M1 i1 F1 (by rw [if_neg (by unfold shOK; omega)]; exact K1)
  rw [if_neg (by unfold shOK; omega), if_pos (by omega)] at this
  exact this
/-- only now changes -/
theorem STA.now {E MX MM MX' MM' : Mem} {r' : Int → Int} (h : STA E MX MM) (hE : EBx E) (hI : IX MX) (kx : Ks (fun k _ => 1 ≤ k ∧ k ≤ 7) MX MX') (hC : SC E MX' 1 r') (km : FrJ (fun k j => k = 5 ∨ (k = 1 ∧ j = 0)) MM MM') (m5 : MM' 5 = r') (hW : WR E r') : STA E MX' MM' := by
  obtain ⟨a, b, c, d, e, f⟩ := h
  exact ⟨a.fr (kx _ _ (by omega)) (kx _ _ (by omega)) (kx _ _ (by omega)) (fun j => kx 159 j (by omega)), b.kx hI (kx _ _ (by omega)) (fun k j q => kx k j (by omega)), by rw [m5]; exact hC, by rw [m5]; exact hW, e.fr hE (fun k j q => kx k j (by omega)) (km 1 28 (by omega)) (fun j _ _ => km 15 j (by omega)) (bx_c163_1.mp (hI.bx 163 1)), f.fr (fun k j q => kx k j (by omega)) (fun k j q => km k j (by omega))⟩
end
section
/-! READING HEARSES -/
def dgC (f : Int → Int) (t : Int) : Nat → Int → Nat
  | 0, _ => 0
  | p + 1, a => if a < t ∧ 48 ≤ f a ∧ f a ≤ 57 then dgC f t p (a + 1) + 1 else 0
theorem dgC_c {f : Int → Int} {t : Int} : ∀ (p : Nat) (a : Int), dgC f t p a ≤ p ∧ (∀ i : Int, 0 ≤ i → i < dgC f t p a → a + i < t ∧ vW (f (a + i))) ∧ (dgC f t p a = p ∨ t ≤ a + dgC f t p a ∨ ¬ vW (f (a + dgC f t p a))) := by
  intro p
  induction p with
  | zero => intro a; exact ⟨Nat.le_refl _, fun i h q => by have : dgC f t 0 a = 0 := rfl; omega, Or.inl rfl⟩
  | succ p ih =>
    intro a
    by_cases c : a < t ∧ 48 ≤ f a ∧ f a ≤ 57
    · have e : dgC f t (p + 1) a = dgC f t p (a + 1) + 1 := if_pos c
      obtain ⟨h1, h2, h3⟩ := ih (a + 1)
      rw [e]
      refine ⟨by omega, fun i h q => ?_, ?_⟩
      · by_cases ci : i = 0
        · rw [ci, Int.add_zero]
          exact ⟨c.1, c.2⟩
        · have := h2 (i - 1) (by omega) (by omega)
          rw [show a + 1 + (i - 1) = a + i from by omega] at this
          exact this
      · rw [show a + ((dgC f t p (a + 1) + 1 : Nat) : Int) = a + 1 + dgC f t p (a + 1) from by omega]
        rcases h3 with q | q | q
        · exact Or.inl (by omega)
        · exact Or.inr (Or.inl q)
        · exact Or.inr (Or.inr q)
    · have e : dgC f t (p + 1) a = 0 := if_neg c
      rw [e]
      refine ⟨by omega, fun i h q => by omega, Or.inr ?_⟩
      rw [show a + ((0 : Nat) : Int) = a from by omega]
      by_cases c2 : t ≤ a
      · exact Or.inl c2
      · exact Or.inr (fun w => c ⟨by omega, w.1, w.2⟩)
def nuZ (f : Int → Int) (t : Int) (p : Nat) (a : Int) : Int := if dgC f t p a = 0 then -1 else nmV f a (dgC f t p a)
theorem NUM.ex {f : Int → Int} {t : Int} {p : Nat} {a : Int} (hp : 1 ≤ p) : NUM f a t p (nuZ f t p a) (a + dgC f t p a) := by
  obtain ⟨h1, h2, h3⟩ := dgC_c (f := f) (t := t) p a
  unfold nuZ
  by_cases c : dgC f t p a = 0
  · rw [if_pos c]
    refine Or.inl ⟨rfl, by omega, fun w => ?_⟩
    rw [c, show a + ((0 : Nat) : Int) = a from by omega] at h3
    rcases h3 with q | q | q
    · omega
    · omega
    · exact q w.2
  · rw [if_neg c]
    refine Or.inr ⟨(dgC f t p a : Nat), by omega, rfl, ?_, fun i h q => (h2 i h q).2, ?_, by rw [show (((dgC f t p a : Nat) : Int)).toNat = dgC f t p a from by omega]⟩
    · have := (h2 ((dgC f t p a : Nat) - 1 : Int) (by omega) (by omega)).1
      omega
    · rcases h3 with q | q | q
      · exact Or.inl (by omega)
      · exact Or.inr (Or.inl q)
      · exact Or.inr (Or.inr q)
theorem NUM.fn {f : Int → Int} {a t z a' : Int} {p : Nat} (hp : 1 ≤ p) (h : NUM f a t p z a') : z = nuZ f t p a ∧ a' = a + dgC f t p a := h.uq (NUM.ex hp) (fun _ _ _ => rfl)
theorem nuZ_b {f : Int → Int} {t : Int} {a : Int} : (-1 ≤ nuZ f t 2 a ∧ nuZ f t 2 a ≤ 99) ∧ (0 ≤ nuZ f t 2 a → a + 1 ≤ a + dgC f t 2 a) ∧ (a ≤ t → a + dgC f t 2 a ≤ t) ∧ (nuZ f t 2 a < 0 → dgC f t 2 a = 0) := by
  have h := NUM.ex (f := f) (t := t) (p := 2) (a := a) (by omega)
  have b := h.b (by omega)
  exact ⟨⟨b.1, b.2.2.2.1 rfl⟩, fun q => by have := b.2.2.2.2.2.2.1 q; omega, fun q => b.2.2.2.2.2.1 q, fun q => by have := b.2.2.2.2.2.2.2 q; omega⟩
/-- a line of hearses: the cell (-1: it can't stand), where reading is then -/
def rd1 (f : Int → Int) (t g H : Int) (r : Int → Int) (a : Int) : Int × Int := if 6 ≤ H then (-1, a) else if nuZ f t 2 a < 0 then (-1, a) else if g ≤ nuZ f t 2 a ∨ 0 ≤ onF r H.toNat (nuZ f t 2 a) then (-1, a + dgC f t 2 a - 1) else (nuZ f t 2 a, a + dgC f t 2 a)
def adH (r : Int → Int) (H v : Int) : Int → Int := up (up r H v) (6 + H) 0
def rdH (f : Int → Int) (t g : Int) : Nat → Int → (Int → Int) → Int → Int × Int × Int × (Int → Int)
  | 0, H, r, a => (0, a, H, r)
  | n + 1, H, r, a => if (rd1 f t g H r a).1 < 0 then (0, (rd1 f t g H r a).2, H, r) else if (rd1 f t g H r a).2 < t ∧ f (rd1 f t g H r a).2 = 59 then rdH f t g n (H + 1) (adH r H (rd1 f t g H r a).1) ((rd1 f t g H r a).2 + 1) else (1, (rd1 f t g H r a).2, H + 1, adH r H (rd1 f t g H r a).1)
theorem rd1_b {f : Int → Int} {t g H : Int} {r : Int → Int} {a : Int} (ha : 0 ≤ a ∧ a ≤ t) : (0 ≤ (rd1 f t g H r a).2 ∧ (rd1 f t g H r a).2 ≤ t) ∧ -1 ≤ (rd1 f t g H r a).1 ∧ (0 ≤ (rd1 f t g H r a).1 → H < 6 ∧ (rd1 f t g H r a).1 < g ∧ onF r H.toNat (rd1 f t g H r a).1 < 0) := by
  have b := nuZ_b (f := f) (t := t) (a := a)
  unfold rd1
  split
  · exact ⟨ha, by show (-1 : Int) ≤ -1; decide, fun h => absurd h (by show ¬ (0 : Int) ≤ -1; decide)⟩
  · split
    · exact ⟨ha, by show (-1 : Int) ≤ -1; decide, fun h => absurd h (by show ¬ (0 : Int) ≤ -1; decide)⟩
    · split
      · refine ⟨⟨?_, ?_⟩, by show (-1 : Int) ≤ -1; decide, fun h => absurd h (by show ¬ (0 : Int) ≤ -1; decide)⟩
        · show 0 ≤ a + dgC f t 2 a - 1
          have := b.2.1 (by omega)
          omega
        · show a + dgC f t 2 a - 1 ≤ t
          have := b.2.2.1 ha.2
          omega
      · refine ⟨⟨?_, ?_⟩, ?_, fun _ => ?_⟩
        · show 0 ≤ a + dgC f t 2 a
          omega
        · exact b.2.2.1 ha.2
        · exact b.1.1
        · show H < 6 ∧ nuZ f t 2 a < g ∧ onF r H.toNat (nuZ f t 2 a) < 0
          omega
-- the class
theorem eE4 (E : Mem) (H : Int) : up2 E 1 4 H 1 4 = H := up2_s E 1 4 H
theorem SC.addH {E M : Mem} {k : Nat} {r : Int → Int} {H v : Int} (hC : SC (up2 E 1 4 H) M k r) (hH : 0 ≤ H ∧ H < 6) (hb : eO E ≤ 8) : SC (up2 E 1 4 (H + 1)) (up2 (up2 (up2 M (k + 1) H v) (k + 2) H 0) k 6 (H + 1)) k (adH r H v) := by
  obtain ⟨a1, a2, a3, a4, a5, a6, a7, a8, a9, a10, a11⟩ := hC
  have hi : ∀ j, 12 ≤ j → adH r H v j = r j := fun j q => by unfold adH; rw [up_j (by omega), up_j (by omega)]
  refine ⟨by rw [up2_s, up2_s], by rw [up2_j (by decide), up2_n (by omega), up2_n (by omega)]; exact a2, fun j a q => ?_, fun j a q => ?_, ?_, fun m a q => ?_, fun m a q => ?_, fun m a q => ?_, fun m a q => ?_, ?_, ?_⟩
  · rw [up2_n (by omega), up2_n (by omega)]
    unfold adH
    rw [up_j (by omega)]
    by_cases cj : j = H
    · rw [cj, up2_s, upS]
    · rw [up2_j cj, up_j cj]; exact a3 j a q
  · rw [up2_n (by omega)]
    unfold adH
    by_cases cj : j = H
    · rw [cj, up2_s, upS]
    · rw [up2_j cj, up2_n (by omega), up_j (by omega), up_j (by omega)]; exact a4 j a q
  · rw [up2_j (by decide), up2_n (by omega), up2_n (by omega), hi 12 (by decide)]; exact a5
  · rw [up2_n (by omega), up2_n (by omega), up2_n (by omega), hi _ (by omega)]; exact a6 m a q
  · rw [up2_n (by omega), up2_n (by omega), up2_n (by omega), up2_n (by decide)]
    have := a7 m a q
    rw [up2_n (by decide)] at this
    exact this
  · rw [up2_n (by omega), up2_n (by omega), up2_n (by omega), hi _ (by omega)]; exact a8 m a q
  · rw [up2_n (by omega), up2_n (by omega), up2_n (by omega), hi _ (by omega)]; exact a9 m a q
  · rw [up2_j (by decide), up2_n (by omega), up2_n (by omega), hi 37 (by decide)]; exact a10
  · rw [up2_j (by decide), up2_n (by omega), up2_n (by omega), a11]
    have e1 : eO (up2 E 1 4 (H + 1)) = eO E := by show (up2 E 1 4 (H + 1) 1 5).toNat = (E 1 5).toNat; rw [up2_j (by decide)]
    have e2 : eO (up2 E 1 4 H) = eO E := by show (up2 E 1 4 H 1 5).toNat = (E 1 5).toNat; rw [up2_j (by decide)]
    rw [e1, e2]
    exact egF_cg (fun i a q => by rw [hi _ (by omega)])
theorem gX6_hearseOn_L2 {k0 : Nat} {p1 : Int} {Q : Int → Mem → Prop} {M E : Mem} {r : Int → Int} (hC : SC E M k0 r) (h4 : 0 ≤ E 1 4 ∧ E 1 4 ≤ 6) (hQ : ∀ z : Int, (z = -1 ∧ onF r (E 1 4).toNat p1 < 0 ∨ (0 ≤ z ∧ z < E 1 4) ∧ r z = p1 ∧ 0 ≤ onF r (E 1 4).toNat p1) → Q z M) : ∀ (n : Nat) (v2 : Int), (∀ i, 0 ≤ i → i < v2 → r i ≠ p1) → (0 ≤ v2 ∧ v2 ≤ E 1 4) → E 1 4 - v2 < (n : Int) → qX6_hearseOn_L2 k0 p1 Q n v2 M := by
  intro n
  induction n with
  | zero => intro v2 ha hv hm; exact absurd hm (by omega)
  | succ n ih =>
    intro v2 ha hv hm
    rw [qX6_hearseOn_L2]
    intro x1 e1 _
    have f1 : x1 = E 1 4 := by rw [e1]; exact hC.1
    refine ⟨⟨by omega, by omega⟩, ⟨fun c => hQ _ (Or.inl ⟨rfl, ?_⟩), fun c => ⟨by omega, by omega, ?_⟩⟩⟩
    · rw [onF_z (fun i a q => ha i a (by omega))]
      decide
    · intro x6 e6 _
      have f6 : x6 = r v2 := by rw [e6]; exact hC.2.2.1 v2 (by omega) (by omega)
      refine ⟨fun c2 => ih _ (fun i a q => ?_) (by omega) (by omega), fun c2 => hQ _ (Or.inr ⟨by omega, by omega, ?_⟩)⟩
      · by_cases ci : i = v2
        · rw [ci, ← f6]; exact c2
        · exact ha i a (by omega)
      · by_cases cn : 0 ≤ onF r (E 1 4).toNat p1
        · exact cn
        · exact absurd (show r v2 = p1 by rw [← f6]; exact c2) (onF_n (c := r) (n := (E 1 4).toNat) (v := p1) (by omega) v2 hv.1 (by omega))
theorem gX6_hearseOn {k0 : Nat} {p1 : Int} {Q : Int → Mem → Prop} {M E : Mem} {r : Int → Int} (hC : SC E M k0 r) (h4 : 0 ≤ E 1 4 ∧ E 1 4 ≤ 6) (hQ : ∀ z : Int, (z = -1 ∧ onF r (E 1 4).toNat p1 < 0 ∨ (0 ≤ z ∧ z < E 1 4) ∧ r z = p1 ∧ 0 ≤ onF r (E 1 4).toNat p1) → Q z M) : qX6_hearseOn k0 p1 M Q := by
  unfold qX6_hearseOn
  exact ⟨7, gX6_hearseOn_L2 hC h4 hQ _ _ (fun i a q => by omega) (by omega) (by omega)⟩
theorem gX11_readHearse {M E : Mem} {H : Int} {r : Int → Int} {Q : Int → Mem → Prop} (hI : IX M) (hC : SC (up2 E 1 4 H) M 8 r) (hH : 0 ≤ H ∧ H ≤ 6) (hO : eO E ≤ 8) (hg : M 158 1 - 1 = eG E) (ha : 0 ≤ M 156 2 ∧ M 156 2 ≤ M 156 3) (hQ : ∀ (z : Int) (M' : Mem), IX M' → Ks (fun k j => (k = 156 ∧ j = 2) ∨ (8 ≤ k ∧ k ≤ 14)) M M' → M' 156 2 = (rd1 (M 157) (M 156 3) (eG E) H r (M 156 2)).2 → ((rd1 (M 157) (M 156 3) (eG E) H r (M 156 2)).1 < 0 ∧ z = 0 ∨ 0 ≤ (rd1 (M 157) (M 156 3) (eG E) H r (M 156 2)).1 ∧ z = 1 ∧ SC (up2 E 1 4 (H + 1)) M' 8 (adH r H (rd1 (M 157) (M 156 3) (eG E) H r (M 156 2)).1)) → Q z M') : qX11_readHearse M Q := by
  unfold rd1 at hQ
  have h6 : M 8 6 = H := by rw [hC.1]; exact eE4 E H
  have b158 := bx_c158_1.mp (hI.bx 158 1)
  have bn := nuZ_b (f := M 157) (t := M 156 3) (a := M 156 2)
  unfold qX11_readHearse
  intro x1 e1 _
  refine ⟨fun c => ?_, fun c => ?_⟩
  · have c6 : ¬ 6 ≤ H := by omega
    rw [if_neg c6] at hQ
    unfold qX11_readCell
    refine gX9_number (p1 := 2) hI (by decide) ?_
    intro z1 M1 i1 k1 n1 _
    obtain ⟨f1, g1⟩ := NUM.fn (p := 2) (by omega) n1
    have C1 : SC (up2 E 1 4 H) M1 8 r := hC.fr (fun i j hi => k1 _ j (by omega))
    refine sX8_gate i1 ?_
    intro z2 hz2 _
    have eg : z2 = eG E := by
      have : M1 158 1 = M 158 1 := k1 158 1 (by omega)
      omega
    have K1 : Ks (fun k j => (k = 156 ∧ j = 2) ∨ (8 ≤ k ∧ k ≤ 14)) M M1 := k1.mono (fun k j h => Or.inl h)
    refine ⟨fun d => ?_, fun d => ?_⟩
    · intro _
      refine ⟨fun d2 => ?_, fun d2 => ?_⟩
      · have cn : ¬ nuZ (M 157) (M 156 3) 2 (M 156 2) < 0 := by omega
        rw [if_neg cn] at hQ
        refine gX6_hearseOn (p1 := z1) C1 (by rw [eE4]; exact hH) ?_
        intro z3 c3 _
        rw [eE4] at c3
        refine ⟨fun d3 => ?_, fun d3 => ?_⟩
        · have on : onF r H.toNat z1 < 0 := by rcases c3 with q | q <;> omega
          rw [f1] at on
          rw [if_neg (by omega)] at hQ
          unfold qX6_addHearse
          intro y1 w1 _
          have v1 : y1 = H := by rw [w1, C1.1]; exact eE4 E H
          refine ⟨by omega, by omega, ?_⟩
          intro M4 h4 y5 w5 _
          have v5 : y5 = H := by rw [w5, h4, up2_n (by decide), C1.1]; exact eE4 E H
          refine ⟨by omega, by omega, ?_⟩
          intro M8 h8 y9 w9 _
          have v9 : y9 = H := by rw [w9, h8, up2_n (by decide), h4, up2_n (by decide), C1.1]; exact eE4 E H
          refine ⟨⟨by omega, by omega⟩, ?_⟩
          intro M11 h11
          have is8 : isS 8 := by decide
          have i4 : IX M4 := by rw [h4]; exact i1.up (is8.nsp 1 (by decide)) ((bx_s1 is8).mpr ⟨by omega, by omega⟩)
          have i8 : IX M8 := by rw [h8]; exact i4.up (is8.nsp 2 (by decide)) (bx_sf2 is8)
          have i11 : IX M11 := by rw [h11]; exact i8.up (is8.nsp 0 (by decide)) ((bx_s0_6 is8).mpr ⟨by omega, by omega⟩)
          refine hQ 1 M11 i11 ?_ ?_ (Or.inr ⟨by show 0 ≤ nuZ _ _ _ _; omega, rfl, ?_⟩)
          · rw [h11, h8, h4]
            exact ((K1.wr (by omega)).wr (by omega)).wr (by omega)
          · rw [h11, up2_n (by decide), h8, up2_n (by decide), h4, up2_n (by decide)]
            exact g1
          · rw [h11, h8, h4, v9, v5, v1, f1]
            exact C1.addH (by omega) hO
        · have on : 0 ≤ onF r H.toNat z1 := by rcases c3 with q | q <;> omega
          rw [f1] at on
          rw [if_pos (Or.inr on)] at hQ
          refine gX9_back i1 ?_
          intro M8 i8 k8 p8
          refine hQ 0 M8 i8 (K1.tr (k8.mono (fun k j h => Or.inl h))) ?_ (Or.inl ⟨by show (-1 : Int) < 0; decide, rfl⟩)
          have := p8 (by omega)
          show M8 156 2 = M 156 2 + dgC (M 157) (M 156 3) 2 (M 156 2) - 1
          omega
      · rw [if_pos (by omega)] at hQ
        have := bn.2.2.2 (by omega)
        refine hQ 0 M1 i1 K1 ?_ (Or.inl ⟨by show (-1 : Int) < 0; decide, rfl⟩)
        show M1 156 2 = M 156 2
        omega
    · have cn : ¬ nuZ (M 157) (M 156 3) 2 (M 156 2) < 0 := by omega
      rw [if_neg cn, if_pos (Or.inl (by omega))] at hQ
      refine gX9_back i1 ?_
      intro M4 i4 k4 p4 _
      refine ⟨fun d2 => absurd rfl d2, fun _ => ?_⟩
      refine hQ 0 M4 i4 (K1.tr (k4.mono (fun k j h => Or.inl h))) ?_ (Or.inl ⟨by show (-1 : Int) < 0; decide, rfl⟩)
      have := p4 (by omega)
      show M4 156 2 = M 156 2 + dgC (M 157) (M 156 3) 2 (M 156 2) - 1
      omega
  · rw [if_pos (by omega)] at hQ
    exact hQ 0 M hI Ks.rf rfl (Or.inl ⟨by show (-1 : Int) < 0; decide, rfl⟩)
theorem gX9_skip {p1 : Int} {M : Mem} {Q : Int → Mem → Prop} (hI : IX M) (hp : 0 ≤ p1) (hQ : ∀ (z : Int) (M' : Mem), IX M' → Ks kA M M' → ((M 156 2 < M 156 3 ∧ M 157 (M 156 2) = p1) ∧ z = 1 ∧ M' 156 2 = M 156 2 + 1 ∨ ¬ (M 156 2 < M 156 3 ∧ M 157 (M 156 2) = p1) ∧ z = 0 ∧ M' 156 2 = M 156 2) → Q z M') : qX9_skip p1 M Q := by
  unfold qX9_skip
  refine gX9_look hI ?_
  intro x1 p _
  refine ⟨fun c => ?_, fun c => hQ _ _ hI Ks.rf (Or.inr ⟨by omega, rfl, rfl⟩)⟩
  refine gX9_pass hI ?_
  intro M3 i3 k3 p3
  exact hQ _ _ i3 k3 (Or.inl ⟨by omega, rfl, by omega⟩)
abbrev kRd (k : Nat) (j : Int) : Prop := (k = 156 ∧ j = 2) ∨ (8 ≤ k ∧ k ≤ 14)
theorem gX11_readLines_L33H {X90 Q : Int → Mem → Prop} {M0 E : Mem} {H0 : Int} {T : Int × Int × Int × (Int → Int)} (hO : eO E ≤ 8) (h0 : 0 ≤ H0) (hg : M0 158 1 - 1 = eG E) (ht : M0 156 3 ≤ 80) (hQ : T.1 = 0 → ∀ M' : Mem, IX M' → Ks kRd M0 M' → M' 156 2 = T.2.1 → Q (-1 - T.2.1) M') (hX : T.1 = 1 → ∀ M' : Mem, IX M' → Ks kRd M0 M' → M' 156 2 = T.2.1 → SC (up2 E 1 4 T.2.2.1) M' 8 T.2.2.2 → X90 (T.2.2.1 - H0) M') : ∀ (n : Nat) (v2 : Int) (M : Mem) (H : Int) (r : Int → Int), IX M → Ks kRd M0 M → SC (up2 E 1 4 H) M 8 r → rdH (M0 157) (M0 156 3) (eG E) n H r (M 156 2) = T → (0 ≤ M 156 2 ∧ M 156 2 ≤ M0 156 3) → (0 ≤ H ∧ H ≤ 6) → (v2 = H - H0 ∧ 0 ≤ v2) → 7 ≤ H + n → qX11_readLines_L33 1 X90 Q (n + 1) v2 1 M := by
  intro n
  induction n with
  | zero => intro v2 M H r hI hK hC hT ha hH hv hn; omega
  | succ n ih =>
    intro v2 M H r hI hK hC hT ha hH hv hn
    have e157 : M 157 = M0 157 := funext fun j => hK 157 j (by omega)
    have e3 : M 156 3 = M0 156 3 := hK 156 3 (by omega)
    have e158 : M 158 1 = M0 158 1 := hK 158 1 (by omega)
    rw [qX11_readLines_L33]
    refine ⟨⟨by decide, by decide⟩, ⟨fun c => absurd c (by decide), fun _ => ⟨⟨by omega, by omega⟩, ⟨fun c => by omega, fun _ => ⟨fun c => absurd c (by decide), fun _ => ?_⟩⟩⟩⟩⟩
    refine gX11_readHearse hI hC hH hO (by rw [e158]; exact hg) (by rw [e3]; exact ha) ?_
    intro z M' i' k' a' p' _ _
    rw [e157, e3] at a' p'
    have b1 := rd1_b (f := M0 157) (g := eG E) (H := H) (r := r) ha
    unfold rdH at hT
    have K' : Ks kRd M0 M' := hK.tr k'
    refine ⟨fun c => ?_, fun c => ?_⟩
    · intro x17 e17 _
      have c1 : (rd1 (M0 157) (M0 156 3) (eG E) H r (M 156 2)).1 < 0 := by
        rcases p' with q | q
        · exact q.1
        · omega
      rw [if_pos c1] at hT
      subst hT
      refine ⟨⟨by omega, by omega⟩, ?_⟩
      rw [e17, a']
      exact hQ rfl M' i' K' a'
    · have c0 : 0 ≤ (rd1 (M0 157) (M0 156 3) (eG E) H r (M 156 2)).1 := by
        rcases p' with q | q
        · omega
        · exact q.1
      have C' : SC (up2 E 1 4 (H + 1)) M' 8 (adH r H (rd1 (M0 157) (M0 156 3) (eG E) H r (M 156 2)).1) := by
        rcases p' with q | q
        · omega
        · exact q.2.2
      rw [if_neg (by omega)] at hT
      unfold qX11_readLines_J74
      refine gX9_skip i' (by decide) ?_
      intro z12 M12 i12 k12 p12 _ _
      have f157 : M' 157 = M0 157 := funext fun j => K' 157 j (by omega)
      have f3 : M' 156 3 = M0 156 3 := K' 156 3 (by omega)
      rw [f157, f3, a'] at p12
      have K12 : Ks kRd M0 M12 := K'.tr (k12.mono (fun k j h => Or.inl h))
      have C12 : SC (up2 E 1 4 (H + 1)) M12 8 (adH r H (rd1 (M0 157) (M0 156 3) (eG E) H r (M 156 2)).1) := C'.fr (fun i j hi => k12 _ j (by omega))
      have h6 := b1.2.2 c0
      rcases p12 with ⟨q1, qz, qa⟩ | ⟨q1, qz, qa⟩
      · rw [if_pos q1] at hT
        rw [qz]
        exact ih _ M12 (H + 1) _ i12 K12 C12 (by rw [qa]; exact hT) (by omega) (by omega) (by omega) (by omega)
      · rw [if_neg q1] at hT
        rw [qz, qX11_readLines_L33]
        refine ⟨⟨by decide, by decide⟩, ⟨fun _ => ?_, fun c => absurd rfl c⟩⟩
        subst hT
        rw [show v2 + 1 = H + 1 - H0 from by omega]
        exact hX rfl M12 i12 K12 qa C12
theorem gX9_open {p1 : Int} {M : Mem} {Q : Mem → Prop} (hI : IX M) (hp : 0 ≤ p1 ∧ p1 ≤ 80) (hQ : ∀ M' : Mem, IX M' → Ks (fun k j => k = 156 ∧ (j = 2 ∨ j = 3)) M M' → M' 156 2 = 0 → M' 156 3 = min (M 156 1) p1 → Q M') : qX9_open p1 M Q := by
  have b1 := bx_c156_1.mp (hI.bx 156 1)
  unfold qX9_open
  intro M1 h1 x2 e2 _ x3 e3 _ M4 h4
  have i1 : IX M1 := by rw [h1]; exact hI.up (by decide) (bx_c156_2.mpr (by decide))
  have f2 : x2 = M 156 1 := by rw [e2, h1, up2_j (by decide)]
  refine hQ M4 (by rw [h4]; exact i1.up (by decide) (bx_c156_3.mpr ⟨by omega, by omega⟩)) (by rw [h4, h1]; exact (Ks.rf.wr (by omega)).wr (by omega)) (by rw [h4, up2_j (by decide), h1, up2_s]) (by rw [h4, up2_s, e3, f2])
/-- hearses told: the answer; whether they come -/
def hsT (f : Int → Int) (len g H : Int) (r : Int → Int) : Int × Int × Int × (Int → Int) := rdH f (min len 17) g 7 H r 0
abbrev hsOK (f : Int → Int) (len g H : Int) (r : Int → Int) : Prop := (hsT f len g H r).1 = 1 ∧ len ≤ (hsT f len g H r).2.1
def hsA (f : Int → Int) (len g H : Int) (r : Int → Int) : Int := if len = 0 then 0 else if hsOK f len g H r then (hsT f len g H r).2.2.1 - H else -1 - (hsT f len g H r).2.1
theorem rdH_b {f : Int → Int} {t g : Int} : ∀ (n : Nat) (H : Int) (r : Int → Int) (a : Int), (0 ≤ a ∧ a ≤ t) → (0 ≤ H ∧ H ≤ 6) → 7 ≤ H + n → (0 ≤ (rdH f t g n H r a).2.1 ∧ (rdH f t g n H r a).2.1 ≤ t) ∧ ((rdH f t g n H r a).1 = 0 ∨ (rdH f t g n H r a).1 = 1 ∧ H < (rdH f t g n H r a).2.2.1 ∧ (rdH f t g n H r a).2.2.1 ≤ 6) := by
  intro n
  induction n with
  | zero => intro H r a ha hH hn; omega
  | succ n ih =>
    intro H r a ha hH hn
    have b1 := rd1_b (f := f) (t := t) (g := g) (H := H) (r := r) ha
    unfold rdH
    split
    · exact ⟨b1.1, Or.inl rfl⟩
    · rename_i c
      have h6 := b1.2.2 (by omega)
      split
      · rename_i c2
        have i := ih (H + 1) (adH r H (rd1 f t g H r a).1) ((rd1 f t g H r a).2 + 1) (by omega) (by omega) (by omega)
        refine ⟨i.1, ?_⟩
        rcases i.2 with q | q
        · exact Or.inl q
        · exact Or.inr ⟨q.1, by omega, q.2.2⟩
      · refine ⟨b1.1, Or.inr ⟨rfl, ?_, ?_⟩⟩
        · show H < H + 1
          omega
        · show H + 1 ≤ 6
          omega
theorem gX11_hearses {M E : Mem} {r : Int → Int} {Q : Int → Mem → Prop} (hI : IX M) (hS : STR E M) (hC : SC E M 1 r) (hQ : ∀ M' : Mem, IX M' → M' 156 1 = 0 → (hsOK (M 157) (M 156 1) (eG E) (E 1 4) r ∧ M 156 1 ≠ 0 → Ks (fun k j => (1 ≤ k ∧ k ≤ 14) ∨ k = 156 ∨ (k = 163 ∧ j = 2)) M M' ∧ M' 163 2 = 0 ∧ SC (up2 E 1 4 (hsT (M 157) (M 156 1) (eG E) (E 1 4) r).2.2.1) M' 1 (hsT (M 157) (M 156 1) (eG E) (E 1 4) r).2.2.2) → (¬ (hsOK (M 157) (M 156 1) (eG E) (E 1 4) r ∧ M 156 1 ≠ 0) → Ks (fun k j => (8 ≤ k ∧ k ≤ 14) ∨ k = 156) M M') → Q (hsA (M 157) (M 156 1) (eG E) (E 1 4) r) M') : qX11_hearses M Q := by
  have bL := bx_c156_1.mp (hI.bx 156 1)
  have b4 := hS.2.2.2.2.2.2.1
  have b5 := hS.2.2.2.2.2.2.2.1
  have ef := hS.eb.f
  unfold hsA at hQ
  have CL : ∀ (z : Int) (M1 : Mem), IX M1 → iR z → (∀ M' : Mem, IX M' → M' 156 1 = 0 → Ks (fun k j => k = 156 ∧ j = 1) M1 M' → Q z M') → qX11_hearses_J19 Q z M1 := by
    intro z M1 i1 rz h
    unfold qX11_hearses_J19 qX9_clear
    intro M4 h4
    exact ⟨rz, h M4 (by rw [h4]; exact i1.up (by decide) (bx_c156_1.mpr (by decide))) (by rw [h4, up2_s]) (by rw [h4]; exact Ks.rf.wr ⟨rfl, rfl⟩)⟩
  unfold qX11_hearses qX9_isEmpty
  intro x1 e1 _
  refine ⟨fun c => ?_, fun c => ?_⟩
  · intro _ _
    refine ⟨fun _ => ?_, fun q => absurd rfl q⟩
    unfold qX11_readLines
    refine gX6_copyFrom hI (show isS 8 by decide) (show isS 1 by decide) (by decide) ?_
    intro M1 i1 k1 s1 _
    have C1 : SC E M1 8 r := s1 E r hC
    refine ⟨fun q => absurd q (by decide), fun _ => ?_⟩
    unfold qX11_readLines_J26
    refine ⟨⟨by decide, by decide⟩, ?_⟩
    refine gX9_open i1 (by decide) ?_
    intro M4 i4 k4 a4 t4
    have C4 : SC (up2 E 1 4 (E 1 4)) M4 8 r := by
      have : up2 E 1 4 (E 1 4) = E := by
        funext k j
        rw [up2_a]
        by_cases ck : k = 1
        · by_cases cj : j = 4
          · rw [if_pos ck, if_pos cj, ck, cj]
          · rw [if_pos ck, if_neg cj]
        · rw [if_neg ck]
      rw [this]
      exact C1.fr (fun i j hi => k4 _ j (by omega))
    have g157 : M4 157 = M 157 := funext fun j => by rw [k4 157 j (by omega), k1 157 j (by omega)]
    have g1 : M1 156 1 = M 156 1 := k1 156 1 (by omega)
    have g158 : M4 158 1 = M 158 1 := by rw [k4 158 1 (by omega), k1 158 1 (by omega)]
    rw [g1] at t4
    have hb := rdH_b (f := M 157) (t := min (M 156 1) 17) (g := eG E) 7 (E 1 4) r 0 (by omega) b4 (by omega)
    have hTT : rdH (M 157) (min (M 156 1) 17) (eG E) 7 (E 1 4) r 0 = hsT (M 157) (M 156 1) (eG E) (E 1 4) r := rfl
    rw [hTT] at hb
    have KK : ∀ M' : Mem, Ks kRd M4 M' → Ks (fun k j => (8 ≤ k ∧ k ≤ 14) ∨ k = 156) M M' := fun M' h => ((k1.mono (fun k j q => Or.inl q)).tr (k4.mono (fun k j q => Or.inr q.1))).tr (h.mono (by intro k j q; omega))
    refine ⟨8, gX11_readLines_L33H (M0 := M4) (H0 := E 1 4) (T := hsT (M 157) (M 156 1) (eG E) (E 1 4) r) (by omega) b4.1 (by rw [g158]; exact hS.g.1) (by omega) ?_ ?_ 7 0 M4 (E 1 4) r i4 Ks.rf C4 (by rw [g157, t4, a4]; exact hTT) (by omega) b4 (by omega) (by omega)⟩
    · intro T0 M' i' k' a' _
      refine CL _ M' i' ⟨by omega, by omega⟩ ?_
      intro M2 i2 z2 k2
      have H := hQ M2 i2 z2 (fun q => by have := q.1.1; omega) (fun _ => (KK M' k').tr (k2.mono (fun k j q => Or.inr q.1)))
      rw [if_neg (by omega), if_neg (fun q => by have := q.1; omega)] at H
      exact H
    · intro T1 M' i' k' a' c'
      have h1 : M' 156 1 = M 156 1 := by rw [k' 156 1 (by omega), k4 156 1 (by omega), g1]
      unfold qX11_readLines_J90 qX9_isWhole
      intro y1 w1 _ y2 w2 _
      refine ⟨fun d => ?_, fun d => ?_⟩
      · intro _ _
        refine ⟨fun q => absurd rfl q, fun _ => ?_⟩
        intro x25 e25 _
        refine ⟨⟨by omega, by omega⟩, ?_⟩
        intro _
        rw [e25, a']
        refine CL _ M' i' ⟨by omega, by omega⟩ ?_
        intro M2 i2 z2 k2
        have H := hQ M2 i2 z2 (fun q => by have := q.1.2; omega) (fun _ => (KK M' k').tr (k2.mono (fun k j q => Or.inr q.1)))
        rw [if_neg (by omega), if_neg (fun q => by have := q.2; omega)] at H
        exact H
      · intro _ _
        refine ⟨fun _ => ?_, fun q => absurd q (by decide)⟩
        refine gX6_copyFrom i' (show isS 1 by decide) (show isS 8 by decide) (by decide) ?_
        intro M22 i22 k22 s22 _
        unfold qX1_clear
        intro M23 h23
        have i23 : IX M23 := by rw [h23]; exact i22.up (by decide) (bx_c163_2.mpr (by decide))
        refine ⟨⟨by omega, by omega⟩, ?_⟩
        intro _
        refine CL _ M23 i23 ⟨by omega, by omega⟩ ?_
        intro M2 i2 z2 k2
        have ok : hsOK (M 157) (M 156 1) (eG E) (E 1 4) r := ⟨T1, by omega⟩
        have H := hQ M2 i2 z2 (fun _ => ⟨?_, ?_, ?_⟩) (fun q => absurd ⟨ok, by omega⟩ q)
        · rw [if_neg (by omega), if_pos ok] at H
          exact H
        · have a : Ks (fun k j => (1 ≤ k ∧ k ≤ 14) ∨ k = 156 ∨ (k = 163 ∧ j = 2)) M M' := (KK M' k').mono (by intro k j q; omega)
          have b : Ks (fun k j => (1 ≤ k ∧ k ≤ 14) ∨ k = 156 ∨ (k = 163 ∧ j = 2)) M' M23 := by
            rw [h23]
            exact (k22.mono (by intro k j q; omega)).wr (by omega)
          exact (a.tr b).tr (k2.mono (by intro k j q; omega))
        · rw [k2 163 2 (by omega), h23, up2_s]
        · refine SC.fr (M := M23) ?_ (fun i j hi => k2 _ j (by omega))
          rw [h23]
          exact (s22 _ _ c').fr (fun i j hi => by rw [up2_n (by omega)])
  · intro _ _
    refine ⟨fun q => absurd q (by decide), fun _ => ?_⟩
    refine CL 0 M hI ⟨by decide, by decide⟩ ?_
    intro M' i' z' k'
    have H := hQ M' i' z' (fun q => absurd (by omega) q.2) (fun _ => k'.mono (fun k j q => Or.inr q.1))
    rw [if_pos (by omega)] at H
    exact H
end
section
/-! READING HEARSES, the reference -/
def cbH (c : Int → Int) (r0 : Int → Int) (H0 : Int) : Nat → Int → Int
  | 0 => r0
  | i + 1 => adH (cbH c r0 H0 i) (H0 + i) (c i)
theorem cbH_s {c r0 : Int → Int} {H0 i : Int} (h : 0 ≤ i) : cbH c r0 H0 (i + 1).toNat = adH (cbH c r0 H0 i.toNat) (H0 + i) (c i) := by
  rw [show (i + 1).toNat = i.toNat + 1 from by omega]
  show adH (cbH c r0 H0 i.toNat) (H0 + (i.toNat : Nat)) (c (i.toNat : Nat)) = _
  rw [show ((i.toNat : Nat) : Int) = i from by omega]
theorem cbH_cg {c d r0 : Int → Int} {H0 : Int} : ∀ n : Nat, (∀ i : Int, 0 ≤ i → i < n → c i = d i) → cbH c r0 H0 n = cbH d r0 H0 n := by
  intro n
  induction n with
  | zero => intro _; rfl
  | succ n ih =>
    intro h
    unfold cbH
    rw [ih (fun i a q => h i a (by omega)), h n (by omega) (by omega)]
theorem onF_ad {r : Int → Int} {H v w : Int} (hH : 0 ≤ H ∧ H ≤ 5) : onF (adH r H w) (H + 1).toNat v = if w = v then H else onF r H.toNat v := by
  rw [onF_s hH.1]
  have e : adH r H w H = w := by unfold adH; rw [up_j (by omega), upS]
  rw [e, onF_cg (c := adH r H w) (d := r) (fun i a q => by unfold adH; rw [up_j (by omega), up_j (by omega)])]
theorem onF_cb {c r0 : Int → Int} {H0 v : Int} (h0 : 0 ≤ H0) : ∀ m : Nat, H0 + m ≤ 6 → (onF (cbH c r0 H0 m) (H0 + m).toNat v < 0 ↔ onF r0 H0.toNat v < 0 ∧ ∀ i : Int, 0 ≤ i → i < m → c i ≠ v) := by
  intro m
  induction m with
  | zero =>
    intro _
    rw [show H0 + ((0 : Nat) : Int) = H0 from by omega]
    exact ⟨fun h => ⟨h, fun i a q => by omega⟩, fun h => h.1⟩
  | succ m ih =>
    intro hm
    have i := ih (by omega)
    unfold cbH
    rw [show H0 + ((m + 1 : Nat) : Int) = H0 + m + 1 from by omega, onF_ad (by omega)]
    by_cases e : c m = v
    · rw [if_pos e]
      exact ⟨fun h => by omega, fun h => absurd e (h.2 m (by omega) (by omega))⟩
    · rw [if_neg e, i]
      refine ⟨fun h => ⟨h.1, fun j a q => ?_⟩, fun h => ⟨h.1, fun j a q => h.2 j a (by omega)⟩⟩
      by_cases cj : j = m
      · rw [cj]; exact e
      · exact h.2 j a (by omega)
theorem gX12_readsCell_L45 {b v2 : Int} {X85 : Int → Int → Mem → Prop} {Q : Int → Mem → Prop} {M : Mem} (hv2 : iR v2) (hm : 0 ≤ M 1 20 ∧ M 1 20 ≤ 8) {P : Prop} (hX : ∀ v3 : Int, (v3 = 0 ∨ v3 = 1) → (v3 = 1 ↔ P ∧ ∀ i, 0 ≤ i → i < M 1 20 → M 9 i ≠ v2) → X85 v2 v3 M) : ∀ (n : Nat) (v3 v4 : Int), (v3 = 0 ∨ v3 = 1) → (v3 = 1 ↔ P ∧ ∀ i, 0 ≤ i → i < v4 → M 9 i ≠ v2) → (0 ≤ v4 ∧ v4 ≤ M 1 20) → M 1 20 - v4 < (n : Int) → qX12_readsCell_L45 1 X85 Q n v2 v3 v4 M := by
  intro n
  induction n with
  | zero => intro v3 v4 h3 hp hv hm'; exact absurd hm' (by omega)
  | succ n ih =>
    intro v3 v4 h3 hp hv hm'
    rw [qX12_readsCell_L45]
    intro x5 e5 _
    refine ⟨⟨by omega, by omega⟩, ⟨fun c => hX v3 h3 (by rw [show M 1 20 = v4 from by omega]; exact hp), fun c => ⟨fun c2 => absurd c2 (by decide), fun _ => ⟨by rcases h3 with q | q <;> rw [q] <;> exact ⟨by decide, by decide⟩, ⟨fun c3 => ?_, fun c3 => ⟨by omega, by omega, ?_⟩⟩⟩⟩⟩⟩
    · refine ih 0 (v4 + 1) (Or.inl rfl) ⟨fun q => absurd q (by decide), fun q => ?_⟩ (by omega) (by omega)
      exfalso
      have := hp.mpr ⟨q.1, fun i a w => q.2 i a (by omega)⟩
      omega
    · intro x13 e13 _
      refine ⟨hv2, ⟨fun c4 => ?_, fun c4 => ?_⟩⟩
      · refine ih 0 (v4 + 1) (Or.inl rfl) ⟨fun q => absurd q (by decide), fun q => ?_⟩ (by omega) (by omega)
        exact absurd (by rw [← e13]; exact c4) (q.2 v4 hv.1 (by omega))
      · have p1 := hp.mp (by omega)
        refine ih 1 (v4 + 1) (Or.inr rfl) ⟨fun _ => ⟨p1.1, fun i a q => ?_⟩, fun _ => rfl⟩ (by omega) (by omega)
        by_cases ci : i = v4
        · rw [ci, ← e13]; exact c4
        · exact p1.2 i a (by omega)
theorem gX12_readsCell1 {b : Int} {M E : Mem} {Q : Int → Mem → Prop} (hI : IM b M) (hE : CE E M) (hm : E 1 4 + M 1 20 ≤ 5) (ha : M 1 15 ≤ M 1 16) (hQ : ∀ (z : Int) (M' : Mem), IM b M' → FrJ (fun k j => k = 1 ∧ j = 15) M M' → M' 1 15 = (rd1 (M 7) (M 1 16) (eG E) (E 1 4 + M 1 20) (cbH (M 9) (M 5) (E 1 4) (M 1 20).toNat) (M 1 15)).2 → z = (rd1 (M 7) (M 1 16) (eG E) (E 1 4 + M 1 20) (cbH (M 9) (M 5) (E 1 4) (M 1 20).toNat) (M 1 15)).1 → Q z M') : qX12_readsCell 1 M Q := by
  have e4 : M 1 4 = E 1 4 := hE 1 4 cE14
  have b4 := bm_c1_4.mp (hI.bx 1 4)
  have b20 := bm_c1_20.mp (hI.bx 1 20)
  have b15 := bm_c1_15.mp (hI.bx 1 15)
  have bn := nuZ_b (f := M 7) (t := M 1 16) (a := M 1 15)
  unfold rd1 at hQ
  rw [if_neg (by omega)] at hQ
  unfold qX12_readsCell
  refine gX12_number (p1 := 2) hI (by decide) ?_
  intro z1 M1 i1 f1 n1 r1
  obtain ⟨ez, ea⟩ := NUM.fn (p := 2) (by omega) n1
  have E1 : CE E M1 := hE.fr f1 (by intro k j h; rcases h with h | h | h | h | h <;> omega)
  have g20 : M1 1 20 = M 1 20 := f1 1 20 (by omega)
  have g9 : M1 9 = M 9 := funext fun j => f1 9 j (by omega)
  have g5 : M1 5 = M 5 := funext fun j => f1 5 j (by omega)
  have on := onF_cb (c := M 9) (r0 := M 5) (H0 := E 1 4) (v := z1) (by omega) (M 1 20).toNat (by omega)
  rw [show E 1 4 + (((M 1 20).toNat : Nat) : Int) = E 1 4 + M 1 20 from by omega] at on
  refine ⟨fun c => ?_, fun c => ?_⟩
  · rw [if_neg (by omega)] at hQ
    have J99 : ∀ v3 t0 : Int, (v3 = 0 ∧ t0 = 1 ∨ v3 = 1 ∧ t0 = 0) → (v3 = 1 ↔ (z1 < eG E ∧ onF (M 5) (E 1 4).toNat z1 < 0) ∧ ∀ i, 0 ≤ i → i < M 1 20 → M 9 i ≠ z1) → qX12_readsCell_J99 1 Q z1 v3 t0 (M1 1 15) M1 := by
      intro v3 t0 ht hv
      unfold qX12_readsCell_J99
      refine ⟨⟨by omega, by omega⟩, ?_⟩
      refine gX12_flag (p0 := t0) i1 ?_
      intro _
      have bb := bn.2.1 (by omega)
      have bt := bn.2.2.1 ha
      have b16 := bm_c1_16.mp (hI.bx 1 16)
      rcases ht with ⟨q1, q2⟩ | ⟨q1, q2⟩
      · rw [if_neg (by omega)]
        refine ⟨⟨by omega, by omega⟩, ?_⟩
        intro M23 h23
        refine ⟨⟨by omega, by omega⟩, ⟨fun _ => ?_, fun c3 => absurd q1 c3⟩⟩
        have bad : eG E ≤ nuZ (M 7) (M 1 16) 2 (M 1 15) ∨ 0 ≤ onF (cbH (M 9) (M 5) (E 1 4) (M 1 20).toNat) (E 1 4 + M 1 20).toNat (nuZ (M 7) (M 1 16) 2 (M 1 15)) := by
          rw [← ez]
          by_cases d : eG E ≤ z1
          · exact Or.inl d
          · refine Or.inr ?_
            rcases Int.lt_or_le (onF (cbH (M 9) (M 5) (E 1 4) (M 1 20).toNat) (E 1 4 + M 1 20).toNat z1) 0 with w | w
            · exfalso
              have u := on.mp w
              have := hv.mpr ⟨⟨by omega, u.1⟩, fun i a q => u.2 i a (by omega)⟩
              omega
            · exact w
        rw [if_pos bad] at hQ
        refine hQ _ M23 (by rw [h23]; exact i1.up (by omega) (bm_c1_15.mpr ⟨by omega, by omega⟩)) (by rw [h23]; exact f1.up ⟨rfl, rfl⟩) ?_ rfl
        rw [h23, up2_s, ea]
      · rw [if_pos q2]
        refine ⟨⟨by omega, by omega⟩, ?_⟩
        intro M23 h23
        refine ⟨⟨by omega, by omega⟩, ⟨fun c3 => by omega, fun c3 => ⟨r1, ?_⟩⟩⟩
        have u := hv.mp q1
        have good : ¬ (eG E ≤ nuZ (M 7) (M 1 16) 2 (M 1 15) ∨ 0 ≤ onF (cbH (M 9) (M 5) (E 1 4) (M 1 20).toNat) (E 1 4 + M 1 20).toNat (nuZ (M 7) (M 1 16) 2 (M 1 15))) := by
          rw [← ez]
          intro w
          have := on.mpr ⟨u.1.2, fun i a q => u.2 i a (by omega)⟩
          omega
        rw [if_neg good] at hQ
        refine hQ _ M23 (by rw [h23]; exact i1.up (by omega) (bm_c1_15.mpr ⟨by omega, by omega⟩)) (by rw [h23]; exact f1.up ⟨rfl, rfl⟩) ?_ ez
        rw [h23, up2_s, ea, Int.sub_zero]
    have J85 : ∀ v3 : Int, (v3 = 0 ∨ v3 = 1) → (v3 = 1 ↔ (z1 < eG E ∧ onF (M 5) (E 1 4).toNat z1 < 0) ∧ ∀ i, 0 ≤ i → i < M1 1 20 → M1 9 i ≠ z1) → qX12_readsCell_J85 1 Q z1 v3 M1 := by
      intro v3 h3 hv
      rw [g20, g9] at hv
      unfold qX12_readsCell_J85
      intro x17 e17 _
      rw [e17]
      refine ⟨⟨by omega, by omega⟩, ⟨fun d => J99 _ _ (Or.inr ⟨by omega, rfl⟩) hv, fun d => J99 _ _ (Or.inl ⟨d, rfl⟩) hv⟩⟩
    have L : ∀ v3 : Int, (v3 = 0 ∨ v3 = 1) → (v3 = 1 ↔ (z1 < eG E ∧ onF (M 5) (E 1 4).toNat z1 < 0)) → qX12_readsCell_L45 1 (fun v2 v3 M => qX12_readsCell_J85 1 Q v2 v3 M) Q 9 z1 v3 0 M1 := by
      intro v3 h3 hv
      refine gX12_readsCell_L45 (b := b) (P := z1 < eG E ∧ onF (M 5) (E 1 4).toNat z1 < 0) r1 (by omega) (fun v h h' => J85 v h h') _ _ _ h3 ⟨fun q => ⟨hv.mp q, fun i a w => by omega⟩, fun q => hv.mpr q.1⟩ (by omega) (by omega)
    refine gX12_gate i1 E1 ?_
    intro _
    refine ⟨fun d => ⟨9, L 0 (Or.inl rfl) ⟨fun q => absurd q (by decide), fun q => by omega⟩⟩, fun d => ⟨fun q => absurd q (by decide), fun _ => ?_⟩⟩
    refine gX12_onCell i1 E1 ?_
    intro _
    rw [g5, show eH E = (E 1 4).toNat from rfl]
    refine ⟨fun d2 => ⟨9, L 0 (Or.inl rfl) ⟨fun q => absurd q (by decide), fun q => by omega⟩⟩, fun d2 => ⟨9, L 1 (Or.inr rfl) ⟨fun _ => ⟨by omega, by omega⟩, fun _ => rfl⟩⟩⟩
  · rw [if_pos (by omega)] at hQ
    have := bn.2.2.2 (by omega)
    refine hQ _ M1 i1 f1 ?_ rfl
    show M1 1 15 = M 1 15
    omega
abbrev kRm (k : Nat) (j : Int) : Prop := k = 9 ∨ (k = 1 ∧ (j = 15 ∨ j = 20))
theorem gX12_readsHearse {b : Int} {M E : Mem} {Q : Int → Mem → Prop} (hI : IM b M) (hE : CE E M) (hm : E 1 4 + M 1 20 ≤ 6) (ha : M 1 15 ≤ M 1 16) (hQ : ∀ (z : Int) (M' : Mem), IM b M' → FrJ kRm M M' → M' 1 15 = (rd1 (M 7) (M 1 16) (eG E) (E 1 4 + M 1 20) (cbH (M 9) (M 5) (E 1 4) (M 1 20).toNat) (M 1 15)).2 → ((rd1 (M 7) (M 1 16) (eG E) (E 1 4 + M 1 20) (cbH (M 9) (M 5) (E 1 4) (M 1 20).toNat) (M 1 15)).1 < 0 ∧ z = 0 ∨ 0 ≤ (rd1 (M 7) (M 1 16) (eG E) (E 1 4 + M 1 20) (cbH (M 9) (M 5) (E 1 4) (M 1 20).toNat) (M 1 15)).1 ∧ z = 1 ∧ M' 1 20 = M 1 20 + 1 ∧ (∀ j, 0 ≤ j → j < M 1 20 → M' 9 j = M 9 j) ∧ M' 9 (M 1 20) = (rd1 (M 7) (M 1 16) (eG E) (E 1 4 + M 1 20) (cbH (M 9) (M 5) (E 1 4) (M 1 20).toNat) (M 1 15)).1) → Q z M') : qX12_readsHearse M Q := by
  have e4 : M 1 4 = E 1 4 := hE 1 4 cE14
  have b4 := bm_c1_4.mp (hI.bx 1 4)
  have b20 := bm_c1_20.mp (hI.bx 1 20)
  have b15 := bm_c1_15.mp (hI.bx 1 15)
  have bg := hE.g hI
  have rb := rd1_b (f := M 7) (t := M 1 16) (g := eG E) (H := E 1 4 + M 1 20) (r := cbH (M 9) (M 5) (E 1 4) (M 1 20).toNat) (a := M 1 15) ⟨b15.1, ha⟩
  unfold qX12_readsHearse
  intro x1 e1 _ x2 e2 _
  refine ⟨⟨by omega, by omega⟩, ⟨fun c => ?_, fun c => ?_⟩⟩
  · refine gX12_readsCell1 hI hE (by omega) ha ?_
    intro z5 M5 i5 f5 a5 ez _ x6 e6 _
    have f6 : x6 = M 1 20 := by rw [e6]; exact f5 1 20 (by omega)
    refine ⟨by omega, by omega, ?_⟩
    intro M9 h9 x10 e10 _
    have i9 : IM b M9 := by rw [h9]; exact i5.up (by omega) (bm_c9.mpr ⟨by omega, by omega⟩)
    have f10 : x10 = M 1 20 := by rw [e10, h9, up2_n (by decide)]; exact f5 1 20 (by omega)
    refine ⟨⟨by omega, by omega⟩, ?_⟩
    intro M12 h12
    have i12 : IM b M12 := by rw [h12]; exact i9.up (by omega) (bm_c1_20.mpr ⟨by omega, by omega⟩)
    have F12 : FrJ kRm M M12 := by
      rw [h12, h9]
      exact ((f5.mono (by intro k j h; omega)).up (Or.inl rfl)).up (Or.inr ⟨rfl, Or.inr rfl⟩)
    have a12 : M12 1 15 = M5 1 15 := by rw [h12, up2_j (by decide), h9, up2_n (by decide)]
    refine ⟨fun d => ?_, fun d => ?_⟩
    · exact hQ 0 M12 i12 F12 (by rw [a12, a5]) (Or.inl ⟨by omega, rfl⟩)
    · refine hQ 1 M12 i12 F12 (by rw [a12, a5]) (Or.inr ⟨by omega, rfl, by rw [h12, up2_s, f10], fun j p q => ?_, ?_⟩)
      · rw [h12, up2_n (by decide), h9, up2_j (by omega)]
        exact f5 9 j (by omega)
      · rw [h12, up2_n (by decide), h9, f6, up2_s, ez]
  · have e : rd1 (M 7) (M 1 16) (eG E) (E 1 4 + M 1 20) (cbH (M 9) (M 5) (E 1 4) (M 1 20).toNat) (M 1 15) = (-1, M 1 15) := by
      unfold rd1
      rw [if_pos (by omega)]
    rw [e] at hQ
    exact hQ 0 M hI FrJ.rf rfl (Or.inl ⟨by show (-1 : Int) < 0; decide, rfl⟩)
theorem gX12_takes {p1 b : Int} {M : Mem} {Q : Int → Mem → Prop} (hI : IM b M) (hQ : ∀ (z : Int) (M' : Mem), IM b M' → FrJ (fun k j => k = 1 ∧ j = 15) M M' → ((M 1 15 < M 1 16 ∧ M 7 (M 1 15) = p1) ∧ z = 1 ∧ M' 1 15 = M 1 15 + 1 ∨ ¬ (M 1 15 < M 1 16 ∧ M 7 (M 1 15) = p1) ∧ z = 0 ∧ M' 1 15 = M 1 15) → Q z M') : qX12_takes p1 M Q := by
  have b15 := bm_c1_15.mp (hI.bx 1 15)
  have b16 := bm_c1_16.mp (hI.bx 1 16)
  have J29 : ∀ t0 : Int, (t0 = 1 ∧ (M 1 15 < M 1 16 ∧ M 7 (M 1 15) = p1) ∨ t0 = 0 ∧ ¬ (M 1 15 < M 1 16 ∧ M 7 (M 1 15) = p1)) → qX12_takes_J29 p1 Q t0 M := by
    intro t0 ht
    unfold qX12_takes_J29
    intro x4 e4 _
    refine ⟨by rcases ht with q | q <;> rw [q.1] <;> exact ⟨by decide, by decide⟩, ?_⟩
    refine gX12_flag (p0 := t0) hI ?_
    intro _
    rcases ht with ⟨q1, q2⟩ | ⟨q1, q2⟩
    · rw [if_neg (by omega)]
      refine ⟨⟨by omega, by omega⟩, ?_⟩
      intro M8 h8
      refine ⟨Or.inr q1, ?_⟩
      exact hQ t0 M8 (by rw [h8]; exact hI.up (by omega) (bm_c1_15.mpr ⟨by omega, by omega⟩)) (by rw [h8]; exact FrJ.rf.up ⟨rfl, rfl⟩) (Or.inl ⟨q2, q1, by rw [h8, up2_s, e4]⟩)
    · rw [if_pos q1]
      refine ⟨⟨by omega, by omega⟩, ?_⟩
      intro M8 h8
      refine ⟨Or.inl q1, ?_⟩
      exact hQ t0 M8 (by rw [h8]; exact hI.up (by omega) (bm_c1_15.mpr ⟨by omega, by omega⟩)) (by rw [h8]; exact FrJ.rf.up ⟨rfl, rfl⟩) (Or.inr ⟨q2, q1, by rw [h8, up2_s, e4, Int.add_zero]⟩)
  unfold qX12_takes qX12_takes_J28
  intro x1 e1 _ x2 e2 _
  refine ⟨fun c => J29 0 (Or.inr ⟨rfl, by omega⟩), fun c => ?_⟩
  intro x10 e10 _
  refine ⟨by omega, by omega, ?_⟩
  intro x13 e13 _
  rw [e10] at e13
  exact ⟨fun c2 => J29 0 (Or.inr ⟨rfl, by omega⟩), fun c2 => J29 1 (Or.inl ⟨rfl, by omega, by omega⟩)⟩
theorem gX12_hearses_L29 {b v1 : Int} {X60 : Int → Int → Mem → Prop} {Q : Int → Mem → Prop} {M0 E : Mem} {T : Int × Int × Int × (Int → Int)} (hE0 : CE E M0) (hX0 : T.1 = 0 → ∀ M' : Mem, IM b M' → FrJ kRm M0 M' → M' 1 15 = T.2.1 → X60 v1 0 M') (hX1 : T.1 = 1 → ∀ M' : Mem, IM b M' → FrJ kRm M0 M' → M' 1 15 = T.2.1 → E 1 4 + M' 1 20 = T.2.2.1 → cbH (M' 9) (M0 5) (E 1 4) (M' 1 20).toNat = T.2.2.2 → X60 v1 1 M') : ∀ (n : Nat) (v2 : Int) (M : Mem), IM b M → FrJ kRm M0 M → rdH (M0 7) (M0 1 16) (eG E) n (E 1 4 + M 1 20) (cbH (M 9) (M0 5) (E 1 4) (M 1 20).toNat) (M 1 15) = T → M 1 15 ≤ M0 1 16 → E 1 4 + M 1 20 ≤ 6 → 7 ≤ E 1 4 + M 1 20 + n → qX12_hearses_L29 X60 Q (n + 1) v1 v2 1 M := by
  intro n
  induction n with
  | zero => intro v2 M hI hF hT ha hm hn; omega
  | succ n ih =>
    intro v2 M hI hF hT ha hm hn
    have e7 : M 7 = M0 7 := funext fun j => hF 7 j (by omega)
    have e5 : M 5 = M0 5 := funext fun j => hF 5 j (by omega)
    have e16 : M 1 16 = M0 1 16 := hF 1 16 (by omega)
    have b20 := bm_c1_20.mp (hI.bx 1 20)
    have b15 := bm_c1_15.mp (hI.bx 1 15)
    have b4 := bm_c1_4.mp (hI.bx 1 4)
    have hE : CE E M := hE0.fr hF (by intro k j h; rcases h with h | h | h | h | h <;> omega)
    have e4 : M 1 4 = E 1 4 := hE 1 4 cE14
    rw [qX12_hearses_L29]
    refine ⟨⟨by decide, by decide⟩, ⟨fun c => absurd c (by decide), fun _ => ?_⟩⟩
    refine gX12_readsHearse hI hE hm (by rw [e16]; exact ha) ?_
    intro z7 M7 i7 f7 a7 p7 _ _
    rw [e7, e5, e16] at a7 p7
    have rb := rd1_b (f := M0 7) (t := M0 1 16) (g := eG E) (H := E 1 4 + M 1 20) (r := cbH (M 9) (M0 5) (E 1 4) (M 1 20).toNat) (a := M 1 15) ⟨b15.1, ha⟩
    have F7 : FrJ kRm M0 M7 := hF.tr f7
    unfold rdH at hT
    refine ⟨fun c => ?_, fun c => ?_⟩
    · have c1 : (rd1 (M0 7) (M0 1 16) (eG E) (E 1 4 + M 1 20) (cbH (M 9) (M0 5) (E 1 4) (M 1 20).toNat) (M 1 15)).1 < 0 := by
        rcases p7 with q | q
        · exact q.1
        · omega
      rw [if_pos c1] at hT
      subst hT
      rw [c, qX12_hearses_L29]
      exact ⟨⟨by decide, by decide⟩, ⟨fun _ => hX0 rfl M7 i7 F7 a7, fun q => absurd rfl q⟩⟩
    · rcases p7 with q | ⟨q0, q1, q2, q3, q4⟩
      · exact absurd q.2 c
      · have h6 := rb.2.2 q0
        rw [if_neg (by omega)] at hT
        have CB : cbH (M7 9) (M0 5) (E 1 4) (M7 1 20).toNat = adH (cbH (M 9) (M0 5) (E 1 4) (M 1 20).toNat) (E 1 4 + M 1 20) (rd1 (M0 7) (M0 1 16) (eG E) (E 1 4 + M 1 20) (cbH (M 9) (M0 5) (E 1 4) (M 1 20).toNat) (M 1 15)).1 := by
          rw [q2, cbH_s b20.1, q4, cbH_cg (c := M7 9) (d := M 9) _ (fun i a w => q3 i a (by omega))]
        refine gX12_takes i7 ?_
        intro z9 M9 i9 f9 p9 _ _
        have g7 : M7 7 = M0 7 := funext fun j => F7 7 j (by omega)
        have g16 : M7 1 16 = M0 1 16 := F7 1 16 (by omega)
        rw [g7, g16, a7] at p9
        have F9 : FrJ kRm M0 M9 := F7.tr (f9.mono (by intro k j h; omega))
        have g20 : M9 1 20 = M 1 20 + 1 := by rw [f9 1 20 (by omega)]; exact q2
        have g9 : M9 9 = M7 9 := funext fun j => f9 9 j (by omega)
        have CB9 : cbH (M9 9) (M0 5) (E 1 4) (M9 1 20).toNat = adH (cbH (M 9) (M0 5) (E 1 4) (M 1 20).toNat) (E 1 4 + M 1 20) (rd1 (M0 7) (M0 1 16) (eG E) (E 1 4 + M 1 20) (cbH (M 9) (M0 5) (E 1 4) (M 1 20).toNat) (M 1 15)).1 := by
          rw [g9, g20, ← q2]
          exact CB
        rw [q1]
        rcases p9 with ⟨w1, w2, w3⟩ | ⟨w1, w2, w3⟩
        · rw [if_pos w1] at hT
          refine ⟨fun d => by omega, fun d => ?_⟩
          refine ih 1 M9 i9 F9 ?_ (by omega) (by omega) (by omega)
          rw [CB9, w3, g20, ← Int.add_assoc]
          exact hT
        · rw [if_neg w1] at hT
          refine ⟨fun d => ?_, fun d => by omega⟩
          subst hT
          rw [qX12_hearses_L29]
          refine ⟨⟨by decide, by decide⟩, ⟨fun _ => ?_, fun q => absurd rfl q⟩⟩
          exact hX1 rfl M9 i9 F9 w3 (by show E 1 4 + M9 1 20 = E 1 4 + M 1 20 + 1; omega) CB9
theorem gX12_faultOf {p1 p2 p3 b : Int} {M : Mem} {Q : Int → Mem → Prop} (hI : IM b M) (h3 : p3 = 0 ∨ p3 = 1) (h2 : 0 ≤ p2 ∧ p2 ≤ 80) (h1 : 0 ≤ p1 ∧ p1 ≤ 80) (ht : M 1 16 = min p1 p2) (ha : M 1 15 ≤ M 1 16) (hQ : Q (if p3 = 1 ∧ p1 ≤ M 1 15 then 0 else -1 - M 1 15) M) : qX12_faultOf p1 p2 p3 M Q := by
  have b15 := bm_c1_15.mp (hI.bx 1 15)
  have J44 : ∀ v4 : Int, (v4 = 1 ∧ p3 = 1 ∧ p1 ≤ M 1 15 ∨ v4 = 0 ∧ ¬ (p3 = 1 ∧ p1 ≤ M 1 15)) → qX12_faultOf_J44 p1 p2 p3 Q v4 M := by
    intro v4 h
    unfold qX12_faultOf_J44
    refine ⟨by rcases h with q | q <;> rw [q.1] <;> exact ⟨by decide, by decide⟩, ⟨fun c => ?_, fun c => ?_⟩⟩
    · intro x5 e5 _
      refine ⟨⟨by omega, by omega⟩, ?_⟩
      rw [if_neg (by omega), ← e5] at hQ
      exact hQ
    · rw [if_pos (by omega)] at hQ
      exact hQ
  have MOST : p2 < p1 → M 1 15 = p2 → Q (-1 - p2) M := by
    intro a c
    rw [if_neg (by omega), c] at hQ
    exact hQ
  have J20 : ∀ t0 : Int, (t0 = 1 ∧ p3 = 1 ∧ M 1 15 = M 1 16 ∨ t0 = 0 ∧ ¬ (p3 = 1 ∧ M 1 15 = M 1 16)) → qX12_faultOf_J20 p1 p2 p3 Q t0 M := by
    intro t0 h
    unfold qX12_faultOf_J20
    refine ⟨fun c => J44 _ ?_, fun c => ⟨by rcases h with q | q <;> rw [q.1] <;> exact ⟨by decide, by decide⟩, ⟨fun c2 => ⟨⟨by omega, by omega⟩, MOST (by omega) (by omega)⟩, fun c2 => ?_⟩⟩⟩
    · rcases h with q | q
      · exact Or.inl ⟨q.1, q.2.1, by omega⟩
      · exact Or.inr ⟨q.1, fun w => q.2 ⟨w.1, by omega⟩⟩
    · intro x10 e10 _
      refine ⟨fun c3 => J44 _ (Or.inr ⟨c2, by omega⟩), fun c3 => ⟨⟨by omega, by omega⟩, MOST (by omega) (by omega)⟩⟩
  unfold qX12_faultOf qX12_faultOf_J19
  refine ⟨fun c => J20 0 (Or.inr ⟨rfl, by omega⟩), fun c => ?_⟩
  intro x13 e13 _ x14 e14 _
  exact ⟨fun c2 => J20 0 (Or.inr ⟨rfl, by omega⟩), fun c2 => J20 1 (Or.inl ⟨rfl, by omega, by omega⟩)⟩
theorem gX12_hearses_L81 {b : Int} {X135 : Mem → Prop} {Q : Int → Mem → Prop} {M0 E : Mem} (hE4 : M0 1 4 = E 1 4) (hm : E 1 4 + M0 1 20 ≤ 6 ∧ 0 ≤ M0 1 20 ∧ 0 ≤ E 1 4) (hX : ∀ M' : Mem, IM b M' → FrJ (fun k j => k = 5 ∨ (k = 1 ∧ j = 4)) M0 M' → M' 1 4 = E 1 4 + M0 1 20 → M' 5 = cbH (M0 9) (M0 5) (E 1 4) (M0 1 20).toNat → X135 M') : ∀ (n : Nat) (v5 : Int) (M : Mem), IM b M → FrJ (fun k j => k = 5 ∨ (k = 1 ∧ j = 4)) M0 M → M 1 4 = E 1 4 + v5 → M 5 = cbH (M0 9) (M0 5) (E 1 4) v5.toNat → (0 ≤ v5 ∧ v5 ≤ M0 1 20) → M0 1 20 - v5 < (n : Int) → qX12_hearses_L81 X135 Q n v5 M := by
  intro n
  induction n with
  | zero => intro v5 M hI hF h4 h5 hv hn; exact absurd hn (by omega)
  | succ n ih =>
    intro v5 M hI hF h4 h5 hv hn
    have g20 : M 1 20 = M0 1 20 := hF 1 20 (by omega)
    rw [qX12_hearses_L81]
    intro x16 e16 _
    refine ⟨⟨by omega, by omega⟩, ⟨fun c => ?_, fun c => ?_⟩⟩
    · have ev : v5 = M0 1 20 := by omega
      rw [ev] at h4 h5
      exact hX M hI hF h4 h5
    intro x19 e19 _
    refine ⟨by omega, by omega, ?_⟩
    intro x22 e22 _
    have b22 : -1 ≤ x22 ∧ x22 ≤ 29 := by rw [e22]; exact bm_c9.mp (hI.bx _ _)
    have f22 : x22 = M0 9 v5 := by rw [e22]; exact hF 9 v5 (by omega)
    refine ⟨by omega, by omega, ?_⟩
    intro M25 h25 x26 e26 _
    have f26 : x26 = E 1 4 + v5 := by rw [e26, h25, up2_n (by decide)]; exact h4
    refine ⟨by omega, by omega, ?_⟩
    intro M29 h29 x30 e30 _
    have f30 : x30 = E 1 4 + v5 := by rw [e30, h29, up2_n (by decide), h25, up2_n (by decide)]; exact h4
    refine ⟨⟨by omega, by omega⟩, ?_⟩
    intro M32 h32
    have i25 : IM b M25 := by rw [h25]; exact hI.up (by omega) ((bm_n (Or.inl rfl)).mpr ⟨by omega, by omega, by omega, by omega⟩)
    have i29 : IM b M29 := by rw [h29]; exact i25.up (by omega) ((bm_n (Or.inl rfl)).mpr ⟨by omega, by omega, by omega, by omega⟩)
    have i32 : IM b M32 := by rw [h32]; exact i29.up (by omega) (bm_c1_4.mpr ⟨by omega, by omega⟩)
    refine ih _ M32 i32 (by rw [h32, h29, h25]; exact ((hF.up (Or.inl rfl)).up (Or.inl rfl)).up (Or.inr ⟨rfl, rfl⟩)) (by rw [h32, up2_s]; omega) ?_ (by omega) (by omega)
    rw [h32, up2_n (by decide), h29, up2_up, h25, up2_up, cbH_s hv.1, h5, f22, f26, show x19 = E 1 4 + v5 from by omega]
    rfl
theorem gX12_isNew {b : Int} {M : Mem} {Q : Int → Mem → Prop} (hI : IM b M) (hb : b + 1 ≤ 2000000000) (hQ : ∀ M' : Mem, IM (b + 1) M' → FrJ (fun k j => k = 1 ∧ (j = 6 ∨ j = 28)) M M' → (0 < M 1 20 → M' 1 28 = 0 ∧ M' 1 6 = M 1 6 + 1) → (M 1 20 ≤ 0 → M' 1 28 = M 1 28 ∧ M' 1 6 = M 1 6) → Q (M 1 20) M') : qX12_isNew M Q := by
  have b28 := bm_c1_28.mp (hI.bx 1 28)
  have b6 := bm_c1_6.mp (hI.bx 1 6)
  have J16 : ∀ t0 : Int, (0 < M 1 20 ∧ t0 = 0 ∨ M 1 20 ≤ 0 ∧ t0 = M 1 28) → qX12_isNew_J16 Q t0 M := by
    intro t0 ht
    unfold qX12_isNew_J16
    refine ⟨⟨by omega, by omega⟩, ?_⟩
    intro M5 h5 x6 e6 _ x7 e7 _
    have i5 : IM b M5 := by rw [h5]; exact hI.up (by omega) (bm_c1_28.mpr ⟨by omega, by omega⟩)
    have F5 : FrJ (fun k j => k = 1 ∧ (j = 6 ∨ j = 28)) M M5 := by rw [h5]; exact FrJ.rf.up ⟨rfl, Or.inr rfl⟩
    have f6 : x6 = M 1 6 := by rw [e6, h5, up2_j (by decide)]
    have f7 : x7 = M 1 20 := by rw [e7, h5, up2_j (by decide)]
    have k28 : M5 1 28 = t0 := by rw [h5, up2_s]
    have J36 : ∀ u : Int, (0 < M 1 20 ∧ u = 1 ∨ M 1 20 ≤ 0 ∧ u = 0) → qX12_isNew_J36 Q u x6 M5 := by
      intro u hu
      unfold qX12_isNew_J36
      refine ⟨by rcases hu with q | q <;> rw [q.2] <;> exact ⟨by decide, by decide⟩, ?_⟩
      refine gX12_flag (p0 := u) i5 ?_
      intro _
      have ef : (if u = 0 then (0 : Int) else 1) = u := by
        rcases hu with q | q
        · rw [if_neg (by omega), q.2]
        · rw [if_pos q.2, q.2]
      rw [ef]
      refine ⟨⟨by omega, by omega⟩, ?_⟩
      intro M12 h12 x13 e13 _
      have f13 : x13 = M 1 20 := by rw [e13, h12, up2_j (by decide), h5, up2_j (by decide)]
      have k6 : M12 1 6 = M 1 6 + u := by rw [h12, up2_s, f6]
      have k28' : M12 1 28 = t0 := by rw [h12, up2_j (by decide)]; exact k28
      rw [f13]
      exact hQ M12 (by rw [h12]; exact (i5.mono (by omega)).up (by omega) (bm_c1_6.mpr ⟨by omega, by omega⟩)) (by rw [h12]; exact F5.up ⟨rfl, Or.inl rfl⟩) (fun q => ⟨by omega, by omega⟩) (fun q => ⟨by omega, by omega⟩)
    exact ⟨fun c => J36 0 (Or.inr ⟨by omega, rfl⟩), fun c => J36 1 (Or.inl ⟨by omega, rfl⟩)⟩
  unfold qX12_isNew
  intro x1 e1 _
  refine ⟨fun c => ?_, fun c => J16 0 (Or.inl ⟨by omega, rfl⟩)⟩
  intro x3 e3 _
  exact J16 _ (Or.inr ⟨by omega, e3⟩)
theorem gX12_hearses {b : Int} {M E : Mem} {Q : Int → Mem → Prop} (hI : IM b M) (hE : CE E M) (hb : b + 1 ≤ 2000000000) (hQ : ∀ M' : Mem, IM (b + 1) M' → M' 1 14 = 0 → (hsOK (M 7) (M 1 14) (eG E) (E 1 4) (M 5) ∧ M 1 14 ≠ 0 → M' 1 4 = (hsT (M 7) (M 1 14) (eG E) (E 1 4) (M 5)).2.2.1 ∧ M' 5 = (hsT (M 7) (M 1 14) (eG E) (E 1 4) (M 5)).2.2.2 ∧ M' 1 28 = 0 ∧ M' 1 6 = M 1 6 + 1 ∧ FrJ (fun k j => k = 5 ∨ k = 9 ∨ (k = 1 ∧ (j = 0 ∨ j = 4 ∨ j = 6 ∨ j = 14 ∨ j = 15 ∨ j = 16 ∨ j = 17 ∨ j = 20 ∨ j = 28))) M M') → (¬ (hsOK (M 7) (M 1 14) (eG E) (E 1 4) (M 5) ∧ M 1 14 ≠ 0) → FrJ (fun k j => k = 9 ∨ (k = 1 ∧ (j = 0 ∨ j = 14 ∨ j = 15 ∨ j = 16 ∨ j = 17 ∨ j = 20))) M M' ∧ M' 1 6 = M 1 6) → Q (hsA (M 7) (M 1 14) (eG E) (E 1 4) (M 5)) M') : qX12_hearses M Q := by
  have bL := bm_c1_14.mp (hI.bx 1 14)
  have e4 : M 1 4 = E 1 4 := hE 1 4 cE14
  have b4 := bm_c1_4.mp (hI.bx 1 4)
  unfold hsA at hQ
  unfold qX12_hearses
  intro M1 h1
  have i1 : IM b M1 := by rw [h1]; exact hI.up (by omega) (by simp [BM])
  have F1 : FrJ (fun k j => k = 9 ∨ (k = 1 ∧ (j = 0 ∨ j = 14 ∨ j = 15 ∨ j = 16 ∨ j = 17 ∨ j = 20))) M M1 := by rw [h1]; exact FrJ.rf.up (by omega)
  have g14 : M1 1 14 = M 1 14 := by rw [h1, up2_j (by decide)]
  refine gX12_begins (p1 := 17) i1 (by decide) ?_
  intro M2 i2 f2 a2 t2 _ l2
  rw [g14] at t2 ⊢
  intro _ M3 h3
  have i3 : IM b M3 := by rw [h3]; exact i2.up (by omega) (bm_c1_20.mpr (by decide))
  have F3 : FrJ (fun k j => k = 9 ∨ (k = 1 ∧ (j = 0 ∨ j = 14 ∨ j = 15 ∨ j = 16 ∨ j = 17 ∨ j = 20))) M M3 := by
    rw [h3]
    exact (F1.tr (f2.mono (by intro k j h; omega))).up (by omega)
  have k20 : M3 1 20 = 0 := by rw [h3, up2_s]
  have k15 : M3 1 15 = 0 := by rw [h3, up2_j (by decide)]; exact a2
  have k16 : M3 1 16 = min (M 1 14) 17 := by rw [h3, up2_j (by decide)]; exact t2
  have k14 : M3 1 14 = 0 := by rw [h3, up2_j (by decide)]; exact l2
  have E3 : CE E M3 := hE.fr F3 (by intro k j h; rcases h with h | h | h | h | h <;> omega)
  have g7 : M3 7 = M 7 := funext fun j => F3 7 j (by omega)
  have g5 : M3 5 = M 5 := funext fun j => F3 5 j (by omega)
  -- behind the reading
  have FIN : ∀ (is : Int) (M' : Mem), IM b M' → FrJ kRm M3 M' → (is = 0 ∨ is = 1) → M' 1 15 ≤ min (M 1 14) 17 → (is = 1 → E 1 4 + M' 1 20 ≤ 6) → (is = 1 ∧ M 1 14 ≤ M' 1 15 → (M 1 14 = 0 ∧ M' 1 20 = 0) ∨ (hsOK (M 7) (M 1 14) (eG E) (E 1 4) (M 5) ∧ M 1 14 ≠ 0 ∧ 0 < M' 1 20 ∧ E 1 4 + M' 1 20 = (hsT (M 7) (M 1 14) (eG E) (E 1 4) (M 5)).2.2.1 ∧ cbH (M' 9) (M 5) (E 1 4) (M' 1 20).toNat = (hsT (M 7) (M 1 14) (eG E) (E 1 4) (M 5)).2.2.2)) → (¬ (is = 1 ∧ M 1 14 ≤ M' 1 15) → M 1 14 ≠ 0 ∧ ¬ hsOK (M 7) (M 1 14) (eG E) (E 1 4) (M 5) ∧ M' 1 15 = (hsT (M 7) (M 1 14) (eG E) (E 1 4) (M 5)).2.1) → qX12_faultOf (M 1 14) 17 is M' (fun (x14 : Int) (M14 : Mem) => iR x14 → (((0 ≤ x14) → (∃ n33 : Nat, qX12_hearses_L81 (fun (M : Mem) => qX12_isNew M (fun (x34 : Int) (M34 : Mem) => iR x34 → (Q x34 M34))) Q n33 0 M14)) ∧ ((¬ (0 ≤ x14)) → (Q x14 M14)))) := by
    intro is M' i' f' his ha' h6 hok hbad
    have q14 : M' 1 14 = 0 := by rw [f' 1 14 (by omega)]; exact k14
    have q16 : M' 1 16 = min (M 1 14) 17 := by rw [f' 1 16 (by omega)]; exact k16
    have q4 : M' 1 4 = E 1 4 := by rw [f' 1 4 (by omega)]; exact E3 1 4 cE14
    have q5 : M' 5 = M 5 := by rw [← g5]; exact funext fun j => f' 5 j (by omega)
    have b20 := bm_c1_20.mp (i'.bx 1 20)
    have b15 := bm_c1_15.mp (i'.bx 1 15)
    have F' : FrJ (fun k j => k = 9 ∨ (k = 1 ∧ (j = 0 ∨ j = 14 ∨ j = 15 ∨ j = 16 ∨ j = 17 ∨ j = 20))) M M' := F3.tr (f'.mono (by intro k j h; omega))
    refine gX12_faultOf i' his (by decide) bL q16 (by rw [q16]; exact ha') ?_
    intro _
    by_cases c : is = 1 ∧ M 1 14 ≤ M' 1 15
    · rw [if_pos c]
      refine ⟨fun _ => ⟨9, ?_⟩, fun q => absurd (by decide) q⟩
      refine gX12_hearses_L81 (b := b) (M0 := M') (E := E) q4 ⟨h6 c.1, b20.1, by omega⟩ ?_ 9 0 M' i' FrJ.rf (by omega) rfl (by omega) (by omega)
      intro M4 i4 f4 w4 w5
      have q20 : M4 1 20 = M' 1 20 := f4 1 20 (by omega)
      refine gX12_isNew i4 hb ?_
      intro M5 i5 f5 n1 n2 _
      rw [q20] at n1 n2 ⊢
      have q6 : M4 1 6 = M 1 6 := by rw [f4 1 6 (by omega), F' 1 6 (by omega)]
      have z14 : M5 1 14 = 0 := by rw [f5 1 14 (by omega), f4 1 14 (by omega)]; exact q14
      rcases hok c with ⟨u1, u2⟩ | ⟨u1, u2, u3, u4, u5⟩
      · obtain ⟨v1, v2⟩ := n2 (by omega)
        have H := hQ M5 i5 z14 (fun q => absurd u1 q.2) (fun _ => ⟨fun k j h => ?_, by omega⟩)
        · rw [if_pos u1] at H
          rw [u2]
          exact H
        · by_cases k6 : k = 1 ∧ j = 6
          · rw [k6.1, k6.2, v2, q6]
          · by_cases k28 : k = 1 ∧ j = 28
            · rw [k28.1, k28.2, v1, f4 1 28 (by omega)]
              exact F' 1 28 (by omega)
            · rw [f5 k j (by omega)]
              by_cases kk : k = 5 ∨ (k = 1 ∧ j = 4)
              · rcases kk with kk | kk
                · rw [kk, w5, u2, q5]
                  rfl
                · rw [kk.1, kk.2, w4, u2, e4]
                  omega
              · rw [f4 k j (by omega)]
                exact F' k j h
      · obtain ⟨v1, v2⟩ := n1 u3
        have H := hQ M5 i5 z14 (fun _ => ⟨?_, ?_, v1, by omega, ?_⟩) (fun q => absurd ⟨u1, u2⟩ q)
        · rw [if_neg u2, if_pos u1, ← u4] at H
          rw [show E 1 4 + M' 1 20 - E 1 4 = M' 1 20 from by omega] at H
          exact H
        · rw [f5 1 4 (by omega), w4, u4]
        · rw [← u5, ← q5, ← w5]
          exact funext fun j => f5 5 j (by omega)
        · exact ((F'.mono (by intro k j h; omega)).tr (f4.mono (by intro k j h; omega))).tr (f5.mono (by intro k j h; omega))
    · rw [if_neg c]
      refine ⟨fun q => by omega, fun _ => ?_⟩
      obtain ⟨u1, u2, u3⟩ := hbad c
      have H := hQ M' (i'.mono (by omega)) q14 (fun q => absurd q.1 u2) (fun _ => ⟨F', F' 1 6 (by omega)⟩)
      rw [if_neg u1, if_neg u2, ← u3] at H
      exact H
  refine ⟨fun c => ⟨1, ?_⟩, fun c => ⟨8, ?_⟩⟩
  · rw [qX12_hearses_L29]
    refine ⟨⟨by decide, by decide⟩, ⟨fun _ => ⟨⟨by omega, by omega⟩, ⟨by decide, by decide⟩, ?_⟩, fun q => absurd rfl q⟩⟩
    exact FIN 1 M3 i3 FrJ.rf (Or.inr rfl) (by omega) (fun _ => by omega) (fun _ => Or.inl ⟨by omega, k20⟩) (fun q => absurd ⟨rfl, by omega⟩ q)
  · have hb7 := rdH_b (f := M 7) (t := min (M 1 14) 17) (g := eG E) 7 (E 1 4) (M 5) 0 (by omega) (by omega) (by omega)
    have hTT : rdH (M 7) (min (M 1 14) 17) (eG E) 7 (E 1 4) (M 5) 0 = hsT (M 7) (M 1 14) (eG E) (E 1 4) (M 5) := rfl
    rw [hTT] at hb7
    refine gX12_hearses_L29 (b := b) (M0 := M3) (E := E) (T := hsT (M 7) (M 1 14) (eG E) (E 1 4) (M 5)) E3 ?_ ?_ 7 1 M3 i3 FrJ.rf ?_ (by rw [k15, k16]; omega) (by omega) (by omega)
    · intro T0 M' i' f' a'
      refine ⟨⟨by omega, by omega⟩, ⟨by decide, by decide⟩, ?_⟩
      exact FIN 0 M' i' f' (Or.inl rfl) (by rw [a']; exact hb7.1.2) (fun q => absurd q (by decide)) (fun q => absurd q.1 (by decide)) (fun _ => ⟨by omega, fun q => by have := q.1; omega, a'⟩)
    · intro T1 M' i' f' a' n' cb'
      rw [g5] at cb'
      have b20 := bm_c1_20.mp (i'.bx 1 20)
      refine ⟨⟨by omega, by omega⟩, ⟨by decide, by decide⟩, ?_⟩
      exact FIN 1 M' i' f' (Or.inr rfl) (by rw [a']; exact hb7.1.2) (fun _ => by omega) (fun q => Or.inr ⟨⟨T1, by omega⟩, by omega, by omega, n', cb'⟩) (fun q => ⟨by omega, fun w => q ⟨rfl, by have := w.2; omega⟩, a'⟩)
    · rw [g7, k16, k20, k15, g5, Int.add_zero]
      exact hTT
end
section
/-! HEARSES: the state after -/
theorem arF_s {r : Int → Int} {i : Int} (h : 0 ≤ i) : arF r (i + 1).toNat = arF r i.toNat + (if r i < 0 then 1 else 0) := by
  rw [show (i + 1).toNat = i.toNat + 1 from by omega]
  show arF r i.toNat + (if r (i.toNat : Nat) < 0 then 1 else 0) = _
  rw [show ((i.toNat : Nat) : Int) = i from by omega]
theorem eE_g (E : Mem) (H : Int) : eG (up2 E 1 4 H) = eG E := by
  show up2 E 1 4 H 1 3 - 1 = E 1 3 - 1
  rw [up2_j (by decide)]
theorem eE_h (E : Mem) (H : Int) : eH (up2 E 1 4 H) = H.toNat := by
  show (up2 E 1 4 H 1 4).toNat = H.toNat
  rw [up2_s]
theorem WR.add1 {E : Mem} {r : Int → Int} {H v : Int} (hW : WR (up2 E 1 4 H) r) (hO : E 1 5 ≤ 8) (hH : 0 ≤ H ∧ H < 6) (hv : 0 ≤ v ∧ v < eG E) (hn : onF r H.toNat v < 0) : WR (up2 E 1 4 (H + 1)) (adH r H v) := by
  obtain ⟨a, b, c, d, e⟩ := hW
  have hi : ∀ j, 12 ≤ j → adH r H v j = r j := fun j q => by unfold adH; rw [up_j (by omega), up_j (by omega)]
  have lo : ∀ j, 0 ≤ j → j < H → adH r H v j = r j := fun j p q => by unfold adH; rw [up_j (by omega), up_j (by omega)]
  have me : adH r H v H = v := by unfold adH; rw [up_j (by omega), upS]
  have no := onF_n hn
  unfold WR DST
  rw [eE_g, eE_h, up2_s, up2_j (show (5 : Int) ≠ 4 by decide)]
  rw [eE_g] at b c
  rw [up2_s] at b
  rw [up2_s, up2_j (show (5 : Int) ≠ 4 by decide)] at c
  rw [eE_h] at d
  unfold DST at a
  rw [up2_s] at a
  refine ⟨fun i j i0 i1 j0 j1 q p => ?_, fun i i0 i1 => ?_, fun i i0 i1 => ?_, ?_, by rw [hi 37 (by decide)]; exact e⟩
  · by_cases ci : i = H
    · by_cases cj : j = H
      · omega
      · rw [ci, me, lo j j0 (by omega)] at q
        exact absurd q.symm (no j j0 (by omega))
    · by_cases cj : j = H
      · rw [cj, me, lo i i0 (by omega)] at q
        exact absurd q (no i i0 (by omega))
      · rw [lo i i0 (by omega), lo j j0 (by omega)] at q
        rw [lo i i0 (by omega)] at p
        exact a i j i0 (by omega) j0 (by omega) q p
  · by_cases ci : i = H
    · rw [ci, me]
      refine Or.inr ⟨hv.1, hv.2, ?_⟩
      unfold adH
      rw [upS]
    · have six : adH r H v (6 + i) = r (6 + i) := by unfold adH; rw [up_j (by omega), up_j (by omega)]
      rw [lo i i0 (by omega), six]
      exact b i i0 (by omega)
  · rw [hi (21 + i) (by omega), hi (13 + i) (by omega), hi (29 + i) (by omega)]
    have := c i i0 i1
    omega
  · rw [hi 12 (by decide), d, arF_s hH.1, me, if_neg (by omega), Int.add_zero]
    exact arF_cg (fun i i0 i1 => by rw [lo i i0 (by omega)])
theorem WR.rds {E : Mem} {f : Int → Int} {t : Int} (hO : E 1 5 ≤ 8) : ∀ (n : Nat) (H : Int) (r : Int → Int) (a : Int), WR (up2 E 1 4 H) r → (0 ≤ H ∧ H ≤ 6) → (0 ≤ a ∧ a ≤ t) → (rdH f t (eG E) n H r a).1 = 1 → WR (up2 E 1 4 (rdH f t (eG E) n H r a).2.2.1) (rdH f t (eG E) n H r a).2.2.2 := by
  intro n
  induction n with
  | zero => intro H r a hW hH ha h; exact absurd h (by show ¬ (0 : Int) = 1; decide)
  | succ n ih =>
    intro H r a hW hH ha h
    have b1 := rd1_b (f := f) (t := t) (g := eG E) (H := H) (r := r) ha
    unfold rdH at h ⊢
    by_cases c : (rd1 f t (eG E) H r a).1 < 0
    · rw [if_pos c] at h
      exact absurd h (by show ¬ (0 : Int) = 1; decide)
    · rw [if_neg c] at h ⊢
      have h6 := b1.2.2 (by omega)
      have w := hW.add1 hO ⟨hH.1, h6.1⟩ (v := (rd1 f t (eG E) H r a).1) ⟨by omega, h6.2.1⟩ h6.2.2
      by_cases c2 : (rd1 f t (eG E) H r a).2 < t ∧ f (rd1 f t (eG E) H r a).2 = 59
      · rw [if_pos c2] at h ⊢
        exact ih _ _ _ w (by omega) (by omega) h
      · rw [if_neg c2] at h ⊢
        exact w
theorem LAW.e4 {E M : Mem} {kl : Nat} {H : Int} (h : LAW E M kl) : LAW (up2 E 1 4 H) M kl := by
  unfold LAW
  rw [up2_j (show (24 : Int) ≠ 4 by decide), up2_n (show 11 ≠ 1 by decide)]
  exact h
theorem STR.e4 {E M : Mem} {H : Int} (h : STR E M) (hH : E 1 4 ≤ H ∧ H ≤ 6) : STR (up2 E 1 4 H) M := by
  obtain ⟨a1, a2, a3, a4, a5, a6, a7, a8, a9⟩ := h
  unfold STR
  rw [up2_s, up2_j (show (3 : Int) ≠ 4 by decide), up2_j (show (5 : Int) ≠ 4 by decide), up2_j (show (7 : Int) ≠ 4 by decide), up2_n (show 2 ≠ 1 by decide), up2_n (show 3 ≠ 1 by decide), up2_n (show 4 ≠ 1 by decide)]
  exact ⟨a1, a2, a3, a4, a5, a6, by omega, a8, fun m p q => by have := a9 m p q; omega⟩
theorem STA.hearses {E MX MM MX' MM' : Mem} {H' : Int} {r' : Int → Int} (h : STA E MX MM) (hE : EBx E) (hI : IX MX) (hH : E 1 4 < H' ∧ H' ≤ 6) (kx : Ks (fun k j => (1 ≤ k ∧ k ≤ 14) ∨ k = 156 ∨ (k = 163 ∧ j = 2)) MX MX') (x2 : MX' 163 2 = 0) (hC : SC (up2 E 1 4 H') MX' 1 r') (m5 : MM' 5 = r') (m28 : MM' 1 28 = 0) (m6 : MM' 1 6 = MM 1 6 + 1) (km : FrJ (fun k j => k = 5 ∨ k = 9 ∨ (k = 1 ∧ (j = 0 ∨ j = 4 ∨ j = 6 ∨ j = 14 ∨ j = 15 ∨ j = 16 ∨ j = 17 ∨ j = 20 ∨ j = 28))) MM MM') (hW : WR (up2 E 1 4 H') r') : STA (up2 E 1 4 H') MX' MM' := by
  obtain ⟨a, b, c, d, e, f⟩ := h
  refine ⟨(a.fr (kx _ _ (by omega)) (kx _ _ (by omega)) (kx _ _ (by omega)) (fun j => kx 159 j (by omega))).e4 (by omega), (b.kx hI (kx _ _ (by omega)) (fun k j q => kx k j (by omega))).e4, by rw [m5]; exact hC, by rw [m5]; exact hW, HIS.nil x2 m28, ?_⟩
  intro i p q
  obtain ⟨u, v⟩ := f i p q
  rw [kx 166 i (by omega), km 29 i (by omega), km 30 i (by omega), m6, kx (29 + 7 * i.toNat) 6 (by omega), kx (29 + 7 * i.toNat) 7 (by omega), up2_s, up2_j (show (5 : Int) ≠ 4 by decide)]
  refine ⟨u, fun w => ?_⟩
  obtain ⟨b1, b2, b3, b4⟩ := v w
  exact ⟨by omega, by omega, fun w2 => by omega, fun _ => Or.inl (by omega)⟩
end
section
/-! READING MOURNERS, the class -/
/-- a line of mourners: the cell (-1: it can't stand), whose, where reading is then -/
def rd2 (f : Int → Int) (t g H m a : Int) : Int × Int × Int := if 8 ≤ m then (-1, 0, a) else if nuZ f t 2 a < 0 then (-1, 0, a) else if g ≤ nuZ f t 2 a then (-1, 0, a + dgC f t 2 a - 1) else if a + dgC f t 2 a < t ∧ 97 ≤ f (a + dgC f t 2 a) ∧ f (a + dgC f t 2 a) < 97 + H then (nuZ f t 2 a, f (a + dgC f t 2 a) - 97, a + dgC f t 2 a + 1) else (-1, 0, a + dgC f t 2 a)
def adM (r : Int → Int) (m v : Int) : Int → Int := up (up (up r (13 + m) v) (21 + m) (-1)) (29 + m) (-1)
def rdM (f : Int → Int) (t g H : Int) : Nat → Int → (Int → Int) → (Int → Int) → Int → Int × Int × Int × (Int → Int) × (Int → Int)
  | 0, m, r, w, a => (0, a, m, r, w)
  | n + 1, m, r, w, a => if (rd2 f t g H m a).1 < 0 then (0, (rd2 f t g H m a).2.2, m, r, w) else if (rd2 f t g H m a).2.2 < t ∧ f (rd2 f t g H m a).2.2 = 59 then rdM f t g H n (m + 1) (adM r m (rd2 f t g H m a).1) (up w m (rd2 f t g H m a).2.1) ((rd2 f t g H m a).2.2 + 1) else (1, (rd2 f t g H m a).2.2, m + 1, adM r m (rd2 f t g H m a).1, up w m (rd2 f t g H m a).2.1)
theorem rd2_b {f : Int → Int} {t g H m a : Int} (ha : 0 ≤ a ∧ a ≤ t) : (0 ≤ (rd2 f t g H m a).2.2 ∧ (rd2 f t g H m a).2.2 ≤ t) ∧ -1 ≤ (rd2 f t g H m a).1 ∧ (0 ≤ (rd2 f t g H m a).1 → m < 8 ∧ (rd2 f t g H m a).1 < g ∧ 0 ≤ (rd2 f t g H m a).2.1 ∧ (rd2 f t g H m a).2.1 < H) := by
  have b := nuZ_b (f := f) (t := t) (a := a)
  have bad : ∀ x : Int, (0 ≤ x ∧ x ≤ t) → (0 ≤ ((-1, 0, x) : Int × Int × Int).2.2 ∧ ((-1, 0, x) : Int × Int × Int).2.2 ≤ t) ∧ -1 ≤ ((-1, 0, x) : Int × Int × Int).1 ∧ (0 ≤ ((-1, 0, x) : Int × Int × Int).1 → m < 8 ∧ ((-1, 0, x) : Int × Int × Int).1 < g ∧ 0 ≤ ((-1, 0, x) : Int × Int × Int).2.1 ∧ ((-1, 0, x) : Int × Int × Int).2.1 < H) := fun x hx => ⟨hx, by show (-1 : Int) ≤ -1; decide, fun h => absurd h (by show ¬ (0 : Int) ≤ -1; decide)⟩
  have b3 := b.2.2.1 ha.2
  unfold rd2
  split
  · exact bad _ ha
  · split
    · exact bad _ ha
    · split
      · exact bad _ ⟨by have := b.2.1 (by omega); omega, by omega⟩
      · split
        · refine ⟨⟨?_, ?_⟩, ?_, fun _ => ?_⟩
          · show 0 ≤ a + dgC f t 2 a + 1
            omega
          · show a + dgC f t 2 a + 1 ≤ t
            omega
          · exact b.1.1
          · show m < 8 ∧ nuZ f t 2 a < g ∧ 0 ≤ f (a + dgC f t 2 a) - 97 ∧ f (a + dgC f t 2 a) - 97 < H
            omega
        · exact bad _ ⟨by omega, b3⟩
/-- with m mourners, whose they are -/
def eM (E : Mem) (w : Int → Int) (m : Int) : Mem := fun k => if k = 3 then w else up2 E 1 5 m k
theorem eM_3 (E : Mem) (w : Int → Int) (m : Int) : eM E w m 3 = w := rfl
theorem eM_5 (E : Mem) (w : Int → Int) (m : Int) : eM E w m 1 5 = m := up2_s E 1 5 m
theorem eM_1 (E : Mem) (w : Int → Int) (m : Int) {j : Int} (h : j ≠ 5) : eM E w m 1 j = E 1 j := by
  show up2 E 1 5 m 1 j = E 1 j
  rw [up2_j h]
theorem eM_k (E : Mem) (w : Int → Int) (m : Int) {k : Nat} (h : k ≠ 1) (h3 : k ≠ 3) : eM E w m k = E k := by
  unfold eM
  rw [if_neg h3, up2_n h]
theorem eM_o (E : Mem) (w : Int → Int) (m : Int) : eO (eM E w m) = m.toNat := by
  show (eM E w m 1 5).toNat = m.toNat
  rw [eM_5]
theorem egF_s {r : Int → Int} {i : Int} (h : 0 ≤ i) : egF r (i + 1).toNat = egF r i.toNat + (if r (29 + i) = -1 then 0 else 1) := by
  rw [show (i + 1).toNat = i.toNat + 1 from by omega]
  show egF r i.toNat + (if r (29 + (i.toNat : Nat)) = -1 then 0 else 1) = _
  rw [show ((i.toNat : Nat) : Int) = i from by omega]
theorem adM_o {r : Int → Int} {m v j : Int} (h : j ≠ 13 + m ∧ j ≠ 21 + m ∧ j ≠ 29 + m) : adM r m v j = r j := by
  unfold adM
  rw [up_j h.2.2, up_j h.2.1, up_j h.1]
theorem SC.addM {E M : Mem} {k : Nat} {r w : Int → Int} {m v o : Int} (hC : SC (eM E w m) M k r) (hm : 0 ≤ m ∧ m < 8) : SC (eM E (up w m o) (m + 1)) (up2 (up2 (up2 (up2 (up2 M (k + 3) m v) (k + 4) m o) (k + 5) m (-1)) (k + 6) m (-1)) k 7 (m + 1)) k (adM r m v) := by
  obtain ⟨a1, a2, a3, a4, a5, a6, a7, a8, a9, a10, a11⟩ := hC
  rw [eM_1 _ _ _ (by decide)] at a1
  rw [eM_3] at a7
  rw [eM_o] at a11
  unfold SC
  rw [eM_1 _ _ _ (by decide), eM_5, eM_3, eM_o]
  refine ⟨by rw [up2_j (by decide), up2_n (by omega), up2_n (by omega), up2_n (by omega), up2_n (by omega)]; exact a1, by rw [up2_s], fun j a q => ?_, fun j a q => ?_, ?_, fun j a q => ?_, fun j a q => ?_, fun j a q => ?_, fun j a q => ?_, ?_, ?_⟩
  · rw [up2_n (by omega), up2_n (by omega), up2_n (by omega), up2_n (by omega), up2_n (by omega), adM_o (by omega)]
    exact a3 j a q
  · rw [up2_n (by omega), up2_n (by omega), up2_n (by omega), up2_n (by omega), up2_n (by omega), adM_o (by omega)]
    exact a4 j a q
  · rw [up2_j (by decide), up2_n (by omega), up2_n (by omega), up2_n (by omega), up2_n (by omega), adM_o (by omega)]
    exact a5
  · rw [up2_n (by omega), up2_n (by omega), up2_n (by omega), up2_n (by omega)]
    unfold adM
    rw [up_j (by omega), up_j (by omega)]
    by_cases cj : j = m
    · rw [cj, up2_s, upS]
    · rw [up2_j cj, up_j (by omega)]; exact a6 j a q
  · rw [up2_n (by omega), up2_n (by omega), up2_n (by omega)]
    by_cases cj : j = m
    · rw [cj, up2_s, upS]
    · rw [up2_j cj, up2_n (by omega), up_j cj]; exact a7 j a q
  · rw [up2_n (by omega), up2_n (by omega)]
    unfold adM
    rw [up_j (by omega)]
    by_cases cj : j = m
    · rw [cj, up2_s, upS]
    · rw [up2_j cj, up2_n (by omega), up2_n (by omega), up_j (by omega), up_j (by omega)]; exact a8 j a q
  · rw [up2_n (by omega)]
    unfold adM
    by_cases cj : j = m
    · rw [cj, up2_s, upS]
    · rw [up2_j cj, up2_n (by omega), up2_n (by omega), up2_n (by omega), up_j (by omega), up_j (by omega), up_j (by omega)]; exact a9 j a q
  · rw [up2_j (by decide), up2_n (by omega), up2_n (by omega), up2_n (by omega), up2_n (by omega), adM_o (by omega)]
    exact a10
  · rw [up2_j (by decide), up2_n (by omega), up2_n (by omega), up2_n (by omega), up2_n (by omega), a11, egF_s hm.1]
    have e : adM r m v (29 + m) = -1 := by unfold adM; rw [upS]
    rw [if_pos e, Int.add_zero]
    exact egF_cg (fun i a q => by rw [adM_o (by omega)])
theorem gX11_readMourner {M E : Mem} {m : Int} {r w : Int → Int} {Q : Int → Mem → Prop} (hI : IX M) (hC : SC (eM E w m) M 8 r) (hm : 0 ≤ m ∧ m ≤ 8) (h4 : 0 ≤ E 1 4 ∧ E 1 4 ≤ 6) (hg : M 158 1 - 1 = eG E) (ha : 0 ≤ M 156 2 ∧ M 156 2 ≤ M 156 3) (hQ : ∀ (z : Int) (M' : Mem), IX M' → Ks kRd M M' → M' 156 2 = (rd2 (M 157) (M 156 3) (eG E) (E 1 4) m (M 156 2)).2.2 → ((rd2 (M 157) (M 156 3) (eG E) (E 1 4) m (M 156 2)).1 < 0 ∧ z = 0 ∨ 0 ≤ (rd2 (M 157) (M 156 3) (eG E) (E 1 4) m (M 156 2)).1 ∧ z = 1 ∧ SC (eM E (up w m (rd2 (M 157) (M 156 3) (eG E) (E 1 4) m (M 156 2)).2.1) (m + 1)) M' 8 (adM r m (rd2 (M 157) (M 156 3) (eG E) (E 1 4) m (M 156 2)).1)) → Q z M') : qX11_readMourner M Q := by
  unfold rd2 at hQ
  have h7 : M 8 7 = m := by rw [hC.2.1]; exact eM_5 E w m
  have h6 : M 8 6 = E 1 4 := by rw [hC.1]; exact eM_1 E w m (by decide)
  have b158 := bx_c158_1.mp (hI.bx 158 1)
  have bn := nuZ_b (f := M 157) (t := M 156 3) (a := M 156 2)
  unfold qX11_readMourner
  intro x1 e1 _
  refine ⟨fun c => ?_, fun c => ?_⟩
  · have c8 : ¬ 8 ≤ m := by omega
    rw [if_neg c8] at hQ
    unfold qX11_readCell
    refine gX9_number (p1 := 2) hI (by decide) ?_
    intro z1 M1 i1 k1 n1 _
    obtain ⟨f1, g1⟩ := NUM.fn (p := 2) (by omega) n1
    have C1 : SC (eM E w m) M1 8 r := hC.fr (fun i j hi => k1 _ j (by omega))
    have g156 : M1 156 3 = M 156 3 := k1 156 3 (by omega)
    have g157 : M1 157 = M 157 := funext fun j => k1 157 j (by omega)
    refine sX8_gate i1 ?_
    intro z2 hz2 _
    have eg : z2 = eG E := by
      have : M1 158 1 = M 158 1 := k1 158 1 (by omega)
      omega
    have K1 : Ks kRd M M1 := k1.mono (fun k j h => Or.inl h)
    refine ⟨fun d => ?_, fun d => ?_⟩
    · intro _
      refine gX9_look i1 ?_
      intro x4 p4 _
      rw [g156, g157, g1] at p4
      refine ⟨fun d2 => ?_, fun d2 => ?_⟩
      · rw [if_pos (by omega)] at hQ
        have := bn.2.2.2 (by omega)
        refine hQ 0 M1 i1 K1 ?_ (Or.inl ⟨by show (-1 : Int) < 0; decide, rfl⟩)
        show M1 156 2 = M 156 2
        omega
      · have cn : ¬ nuZ (M 157) (M 156 3) 2 (M 156 2) < 0 := by omega
        rw [if_neg cn, if_neg (by omega)] at hQ
        have r4 : -1 ≤ x4 ∧ x4 ≤ 255 := by
          rcases p4 with q | q
          · have := bx_c157.mp (hI.bx 157 (M 156 2 + dgC (M 157) (M 156 3) 2 (M 156 2)))
            omega
          · omega
        have NO : ¬ (M 156 2 + dgC (M 157) (M 156 3) 2 (M 156 2) < M 156 3 ∧ 97 ≤ M 157 (M 156 2 + dgC (M 157) (M 156 3) 2 (M 156 2)) ∧ M 157 (M 156 2 + dgC (M 157) (M 156 3) 2 (M 156 2)) < 97 + E 1 4) → Q 0 M1 := by
          intro no
          rw [if_neg no] at hQ
          exact hQ 0 M1 i1 K1 g1 (Or.inl ⟨by show (-1 : Int) < 0; decide, rfl⟩)
        refine ⟨⟨by omega, by omega⟩, ⟨fun d3 => NO ?_, fun d3 => ?_⟩⟩
        · rcases p4 with q | q <;> omega
        · intro x8 e8 _
          have f8 : x8 = E 1 4 := by rw [e8, C1.1]; exact eM_1 E w m (by decide)
          refine ⟨fun d4 => ?_, fun d4 => NO ?_⟩
          · rcases p4 with ⟨q1, q2⟩ | ⟨q1, q2⟩
            · rw [if_pos ⟨q1, by omega, by omega⟩] at hQ
              refine gX9_pass i1 ?_
              intro M10 i10 k10 p10
              have at10 : M10 156 2 = M 156 2 + dgC (M 157) (M 156 3) 2 (M 156 2) + 1 := by
                rcases p10 with u | u <;> omega
              have C10 : SC (eM E w m) M10 8 r := C1.fr (fun i j hi => k10 _ j (by omega))
              have s7 : M10 8 7 = m := by rw [C10.2.1]; exact eM_5 E w m
              unfold qX6_addMourner
              intro y1 w1 _
              refine ⟨by omega, by omega, ?_⟩
              intro M4 h4' y5 w5 _
              have v5 : y5 = m := by rw [w5, h4', up2_n (by decide)]; exact s7
              refine ⟨by omega, by omega, ?_⟩
              intro M8 h8 y9 w9 _
              have v9 : y9 = m := by rw [w9, h8, up2_n (by decide), h4', up2_n (by decide)]; exact s7
              refine ⟨by omega, by omega, ?_⟩
              intro M12 h12 y13 w13 _
              have v13 : y13 = m := by rw [w13, h12, up2_n (by decide), h8, up2_n (by decide), h4', up2_n (by decide)]; exact s7
              refine ⟨by omega, by omega, ?_⟩
              intro M16 h16 y17 w17 _
              have v17 : y17 = m := by rw [w17, h16, up2_n (by decide), h12, up2_n (by decide), h8, up2_n (by decide), h4', up2_n (by decide)]; exact s7
              refine ⟨⟨by omega, by omega⟩, ?_⟩
              intro M19 h19
              have is8 : isS 8 := by decide
              have i4 : IX M4 := by rw [h4']; exact i10.up (is8.nsp 3 (by decide)) ((bx_s3 is8).mpr ⟨by omega, by omega⟩)
              have i8 : IX M8 := by rw [h8]; exact i4.up (is8.nsp 4 (by decide)) ((bx_s4 is8).mpr ⟨by omega, by omega⟩)
              have i12 : IX M12 := by rw [h12]; exact i8.up (is8.nsp 5 (by decide)) ((bx_s5 is8).mpr ⟨by decide, by decide⟩)
              have i16 : IX M16 := by rw [h16]; exact i12.up (is8.nsp 6 (by decide)) (bx_sf6 is8)
              have i19 : IX M19 := by rw [h19]; exact i16.up (is8.nsp 0 (by decide)) ((bx_s0_7 is8).mpr ⟨by omega, by omega⟩)
              refine hQ 1 M19 i19 ?_ ?_ (Or.inr ⟨by show 0 ≤ nuZ _ _ _ _; omega, rfl, ?_⟩)
              · rw [h19, h16, h12, h8, h4']
                exact (((((K1.tr (k10.mono (fun k j h => Or.inl h))).wr (by omega)).wr (by omega)).wr (by omega)).wr (by omega)).wr (by omega)
              · rw [h19, up2_n (by decide), h16, up2_n (by decide), h12, up2_n (by decide), h8, up2_n (by decide), h4', up2_n (by decide)]
                exact at10
              · rw [h19, h16, h12, h8, h4', v17, v13, v9, v5, show y1 = m from by omega, f1, q2]
                exact C10.addM (by omega)
            · omega
          · rcases p4 with q | q <;> omega
    · have cn : ¬ nuZ (M 157) (M 156 3) 2 (M 156 2) < 0 := by omega
      rw [if_neg cn, if_pos (by omega)] at hQ
      refine gX9_back i1 ?_
      intro M4 i4 k4 p4 _
      refine gX9_look i4 ?_
      intro x4 _ _
      refine ⟨fun _ => ?_, fun q => absurd rfl q⟩
      refine hQ 0 M4 i4 (K1.tr (k4.mono (fun k j h => Or.inl h))) ?_ (Or.inl ⟨by show (-1 : Int) < 0; decide, rfl⟩)
      have := p4 (by omega)
      show M4 156 2 = M 156 2 + dgC (M 157) (M 156 3) 2 (M 156 2) - 1
      omega
  · rw [if_pos (by omega)] at hQ
    exact hQ 0 M hI Ks.rf rfl (Or.inl ⟨by show (-1 : Int) < 0; decide, rfl⟩)
theorem rdM_b {f : Int → Int} {t g H : Int} : ∀ (n : Nat) (m : Int) (r w : Int → Int) (a : Int), (0 ≤ a ∧ a ≤ t) → (0 ≤ m ∧ m ≤ 8) → 9 ≤ m + n → (0 ≤ (rdM f t g H n m r w a).2.1 ∧ (rdM f t g H n m r w a).2.1 ≤ t) ∧ ((rdM f t g H n m r w a).1 = 0 ∨ (rdM f t g H n m r w a).1 = 1 ∧ m < (rdM f t g H n m r w a).2.2.1 ∧ (rdM f t g H n m r w a).2.2.1 ≤ 8) := by
  intro n
  induction n with
  | zero => intro m r w a ha hH hn; omega
  | succ n ih =>
    intro m r w a ha hH hn
    have b1 := rd2_b (f := f) (t := t) (g := g) (H := H) (m := m) ha
    unfold rdM
    split
    · exact ⟨b1.1, Or.inl rfl⟩
    · rename_i c
      have h6 := b1.2.2 (by omega)
      split
      · rename_i c2
        have i := ih (m + 1) (adM r m (rd2 f t g H m a).1) (up w m (rd2 f t g H m a).2.1) ((rd2 f t g H m a).2.2 + 1) (by omega) (by omega) (by omega)
        refine ⟨i.1, ?_⟩
        rcases i.2 with q | q
        · exact Or.inl q
        · exact Or.inr ⟨q.1, by omega, q.2.2⟩
      · refine ⟨b1.1, Or.inr ⟨rfl, ?_, ?_⟩⟩
        · show m < m + 1
          omega
        · show m + 1 ≤ 8
          omega
theorem gX11_readLines_L33M {X90 Q : Int → Mem → Prop} {M0 E : Mem} {m0 : Int} {T : Int × Int × Int × (Int → Int) × (Int → Int)} (h4 : 0 ≤ E 1 4 ∧ E 1 4 ≤ 6) (h0 : 0 ≤ m0) (hg : M0 158 1 - 1 = eG E) (ht : M0 156 3 ≤ 80) (hQ : T.1 = 0 → ∀ M' : Mem, IX M' → Ks kRd M0 M' → M' 156 2 = T.2.1 → Q (-1 - T.2.1) M') (hX : T.1 = 1 → ∀ M' : Mem, IX M' → Ks kRd M0 M' → M' 156 2 = T.2.1 → SC (eM E T.2.2.2.2 T.2.2.1) M' 8 T.2.2.2.1 → X90 (T.2.2.1 - m0) M') : ∀ (n : Nat) (v2 : Int) (M : Mem) (m : Int) (r w : Int → Int), IX M → Ks kRd M0 M → SC (eM E w m) M 8 r → rdM (M0 157) (M0 156 3) (eG E) (E 1 4) n m r w (M 156 2) = T → (0 ≤ M 156 2 ∧ M 156 2 ≤ M0 156 3) → (0 ≤ m ∧ m ≤ 8) → (v2 = m - m0 ∧ 0 ≤ v2) → 9 ≤ m + n → qX11_readLines_L33 0 X90 Q (n + 1) v2 1 M := by
  intro n
  induction n with
  | zero => intro v2 M m r w hI hK hC hT ha hm hv hn; omega
  | succ n ih =>
    intro v2 M m r w hI hK hC hT ha hm hv hn
    have e157 : M 157 = M0 157 := funext fun j => hK 157 j (by omega)
    have e3 : M 156 3 = M0 156 3 := hK 156 3 (by omega)
    have e158 : M 158 1 = M0 158 1 := hK 158 1 (by omega)
    rw [qX11_readLines_L33]
    refine ⟨⟨by decide, by decide⟩, ⟨fun c => absurd c (by decide), fun _ => ⟨⟨by omega, by omega⟩, ⟨fun c => by omega, fun _ => ⟨fun _ => ?_, fun c => absurd rfl c⟩⟩⟩⟩⟩
    refine gX11_readMourner hI hC hm h4 (by rw [e158]; exact hg) (by rw [e3]; exact ha) ?_
    intro z M' i' k' a' p' _ _
    rw [e157, e3] at a' p'
    have b1 := rd2_b (f := M0 157) (g := eG E) (H := E 1 4) (m := m) ha
    unfold rdM at hT
    have K' : Ks kRd M0 M' := hK.tr k'
    refine ⟨fun c => ?_, fun c => ?_⟩
    · have c0 : 0 ≤ (rd2 (M0 157) (M0 156 3) (eG E) (E 1 4) m (M 156 2)).1 := by
        rcases p' with q | q
        · exact absurd q.2 c
        · exact q.1
      have C' : SC (eM E (up w m (rd2 (M0 157) (M0 156 3) (eG E) (E 1 4) m (M 156 2)).2.1) (m + 1)) M' 8 (adM r m (rd2 (M0 157) (M0 156 3) (eG E) (E 1 4) m (M 156 2)).1) := by
        rcases p' with q | q
        · exact absurd q.2 c
        · exact q.2.2
      rw [if_neg (by omega)] at hT
      unfold qX11_readLines_J74
      refine gX9_skip i' (by decide) ?_
      intro z12 M12 i12 k12 p12 _ _
      have f157 : M' 157 = M0 157 := funext fun j => K' 157 j (by omega)
      have f3 : M' 156 3 = M0 156 3 := K' 156 3 (by omega)
      rw [f157, f3, a'] at p12
      have K12 : Ks kRd M0 M12 := K'.tr (k12.mono (fun k j h => Or.inl h))
      have C12 := C'.fr (M' := M12) (fun i j hi => k12 _ j (by omega))
      have h6 := b1.2.2 c0
      rcases p12 with ⟨q1, qz, qa⟩ | ⟨q1, qz, qa⟩
      · rw [if_pos q1] at hT
        rw [qz]
        exact ih _ M12 (m + 1) _ _ i12 K12 C12 (by rw [qa]; exact hT) (by omega) (by omega) (by omega) (by omega)
      · rw [if_neg q1] at hT
        rw [qz, qX11_readLines_L33]
        refine ⟨⟨by decide, by decide⟩, ⟨fun _ => ?_, fun c => absurd rfl c⟩⟩
        subst hT
        rw [show v2 + 1 = m + 1 - m0 from by omega]
        exact hX rfl M12 i12 K12 qa C12
    · intro x13 e13 _
      have c1 : (rd2 (M0 157) (M0 156 3) (eG E) (E 1 4) m (M 156 2)).1 < 0 := by
        rcases p' with q | q
        · exact q.1
        · omega
      rw [if_pos c1] at hT
      subst hT
      refine ⟨⟨by omega, by omega⟩, ?_⟩
      rw [e13, a']
      exact hQ rfl M' i' K' a'
/-- mourners told: the answer; whether they come -/
def msT (f : Int → Int) (len g H m : Int) (r w : Int → Int) : Int × Int × Int × (Int → Int) × (Int → Int) := rdM f (min len 39) g H 9 m r w 0
abbrev msOK (f : Int → Int) (len g H m : Int) (r w : Int → Int) : Prop := (msT f len g H m r w).1 = 1 ∧ len ≤ (msT f len g H m r w).2.1
def msA (f : Int → Int) (len g H m : Int) (r w : Int → Int) : Int := if len = 0 then 0 else if msOK f len g H m r w then (msT f len g H m r w).2.2.1 - m else -1 - (msT f len g H m r w).2.1
theorem eM_id (E : Mem) : eM E (E 3) (E 1 5) = E := by
  funext k j
  by_cases c3 : k = 3
  · rw [c3]; rfl
  · show (if k = 3 then E 3 else up2 E 1 5 (E 1 5) k) j = E k j
    rw [if_neg c3, up2_a]
    by_cases ck : k = 1
    · by_cases cj : j = 5
      · rw [if_pos ck, if_pos cj, ck, cj]
      · rw [if_pos ck, if_neg cj]
    · rw [if_neg ck]
theorem gX11_mourners {M E : Mem} {r : Int → Int} {Q : Int → Mem → Prop} (hI : IX M) (hS : STR E M) (hC : SC E M 1 r) (hQ : ∀ M' : Mem, IX M' → M' 156 1 = 0 → (msOK (M 157) (M 156 1) (eG E) (E 1 4) (E 1 5) r (E 3) ∧ M 156 1 ≠ 0 → Ks (fun k j => (1 ≤ k ∧ k ≤ 14) ∨ k = 156 ∨ (k = 163 ∧ j = 2)) M M' ∧ M' 163 2 = 0 ∧ SC (eM E (msT (M 157) (M 156 1) (eG E) (E 1 4) (E 1 5) r (E 3)).2.2.2.2 (msT (M 157) (M 156 1) (eG E) (E 1 4) (E 1 5) r (E 3)).2.2.1) M' 1 (msT (M 157) (M 156 1) (eG E) (E 1 4) (E 1 5) r (E 3)).2.2.2.1) → (¬ (msOK (M 157) (M 156 1) (eG E) (E 1 4) (E 1 5) r (E 3) ∧ M 156 1 ≠ 0) → Ks (fun k j => (8 ≤ k ∧ k ≤ 14) ∨ k = 156) M M') → Q (msA (M 157) (M 156 1) (eG E) (E 1 4) (E 1 5) r (E 3)) M') : qX11_mourners M Q := by
  have bL := bx_c156_1.mp (hI.bx 156 1)
  have b4 := hS.2.2.2.2.2.2.1
  have b5 := hS.2.2.2.2.2.2.2.1
  have ef := hS.eb.f
  unfold msA at hQ
  have CL : ∀ (z : Int) (M1 : Mem), IX M1 → iR z → (∀ M' : Mem, IX M' → M' 156 1 = 0 → Ks (fun k j => k = 156 ∧ j = 1) M1 M' → Q z M') → qX11_mourners_J19 Q z M1 := by
    intro z M1 i1 rz h
    unfold qX11_mourners_J19 qX9_clear
    intro M4 h4
    exact ⟨rz, h M4 (by rw [h4]; exact i1.up (by decide) (bx_c156_1.mpr (by decide))) (by rw [h4, up2_s]) (by rw [h4]; exact Ks.rf.wr ⟨rfl, rfl⟩)⟩
  unfold qX11_mourners qX9_isEmpty
  intro x1 e1 _
  refine ⟨fun c => ?_, fun c => ?_⟩
  · intro _ _
    refine ⟨fun _ => ?_, fun q => absurd rfl q⟩
    unfold qX11_readLines
    refine gX6_copyFrom hI (show isS 8 by decide) (show isS 1 by decide) (by decide) ?_
    intro M1 i1 k1 s1 _
    have C1 : SC E M1 8 r := s1 E r hC
    refine ⟨fun _ => ?_, fun q => absurd rfl q⟩
    unfold qX11_readLines_J26
    refine ⟨⟨by decide, by decide⟩, ?_⟩
    refine gX9_open i1 (by decide) ?_
    intro M4 i4 k4 a4 t4
    have C4 : SC (eM E (E 3) (E 1 5)) M4 8 r := by
      rw [eM_id]
      exact C1.fr (fun i j hi => k4 _ j (by omega))
    have g157 : M4 157 = M 157 := funext fun j => by rw [k4 157 j (by omega), k1 157 j (by omega)]
    have g1 : M1 156 1 = M 156 1 := k1 156 1 (by omega)
    have g158 : M4 158 1 = M 158 1 := by rw [k4 158 1 (by omega), k1 158 1 (by omega)]
    rw [g1] at t4
    have hb := rdM_b (f := M 157) (t := min (M 156 1) 39) (g := eG E) (H := E 1 4) 9 (E 1 5) r (E 3) 0 (by omega) b5 (by omega)
    have hTT : rdM (M 157) (min (M 156 1) 39) (eG E) (E 1 4) 9 (E 1 5) r (E 3) 0 = msT (M 157) (M 156 1) (eG E) (E 1 4) (E 1 5) r (E 3) := rfl
    rw [hTT] at hb
    have KK : ∀ M' : Mem, Ks kRd M4 M' → Ks (fun k j => (8 ≤ k ∧ k ≤ 14) ∨ k = 156) M M' := fun M' h => ((k1.mono (fun k j q => Or.inl q)).tr (k4.mono (fun k j q => Or.inr q.1))).tr (h.mono (by intro k j q; omega))
    refine ⟨10, gX11_readLines_L33M (M0 := M4) (m0 := E 1 5) (T := msT (M 157) (M 156 1) (eG E) (E 1 4) (E 1 5) r (E 3)) b4 b5.1 (by rw [g158]; exact hS.g.1) (by omega) ?_ ?_ 9 0 M4 (E 1 5) r (E 3) i4 Ks.rf C4 (by rw [g157, t4, a4]; exact hTT) (by omega) b5 (by omega) (by omega)⟩
    · intro T0 M' i' k' a' _
      refine CL _ M' i' ⟨by omega, by omega⟩ ?_
      intro M2 i2 z2 k2
      have H := hQ M2 i2 z2 (fun q => by have := q.1.1; omega) (fun _ => (KK M' k').tr (k2.mono (fun k j q => Or.inr q.1)))
      rw [if_neg (by omega), if_neg (fun q => by have := q.1; omega)] at H
      exact H
    · intro T1 M' i' k' a' c'
      have h1 : M' 156 1 = M 156 1 := by rw [k' 156 1 (by omega), k4 156 1 (by omega), g1]
      unfold qX11_readLines_J90 qX9_isWhole
      intro y1 w1 _ y2 w2 _
      refine ⟨fun d => ?_, fun d => ?_⟩
      · intro _ _
        refine ⟨fun q => absurd rfl q, fun _ => ?_⟩
        intro x25 e25 _
        refine ⟨⟨by omega, by omega⟩, ?_⟩
        intro _
        rw [e25, a']
        refine CL _ M' i' ⟨by omega, by omega⟩ ?_
        intro M2 i2 z2 k2
        have H := hQ M2 i2 z2 (fun q => by have := q.1.2; omega) (fun _ => (KK M' k').tr (k2.mono (fun k j q => Or.inr q.1)))
        rw [if_neg (by omega), if_neg (fun q => by have := q.2; omega)] at H
        exact H
      · intro _ _
        refine ⟨fun _ => ?_, fun q => absurd q (by decide)⟩
        refine gX6_copyFrom i' (show isS 1 by decide) (show isS 8 by decide) (by decide) ?_
        intro M22 i22 k22 s22 _
        unfold qX1_clear
        intro M23 h23
        have i23 : IX M23 := by rw [h23]; exact i22.up (by decide) (bx_c163_2.mpr (by decide))
        refine ⟨⟨by omega, by omega⟩, ?_⟩
        intro _
        refine CL _ M23 i23 ⟨by omega, by omega⟩ ?_
        intro M2 i2 z2 k2
        have ok : msOK (M 157) (M 156 1) (eG E) (E 1 4) (E 1 5) r (E 3) := ⟨T1, by omega⟩
        have H := hQ M2 i2 z2 (fun _ => ⟨?_, ?_, ?_⟩) (fun q => absurd ⟨ok, by omega⟩ q)
        · rw [if_neg (by omega), if_pos ok] at H
          exact H
        · have a : Ks (fun k j => (1 ≤ k ∧ k ≤ 14) ∨ k = 156 ∨ (k = 163 ∧ j = 2)) M M' := (KK M' k').mono (by intro k j q; omega)
          have b : Ks (fun k j => (1 ≤ k ∧ k ≤ 14) ∨ k = 156 ∨ (k = 163 ∧ j = 2)) M' M23 := by
            rw [h23]
            exact (k22.mono (by intro k j q; omega)).wr (by omega)
          exact (a.tr b).tr (k2.mono (by intro k j q; omega))
        · rw [k2 163 2 (by omega), h23, up2_s]
        · refine SC.fr (M := M23) ?_ (fun i j hi => k2 _ j (by omega))
          rw [h23]
          exact (s22 _ _ c').fr (fun i j hi => by rw [up2_n (by omega)])
  · intro _ _
    refine ⟨fun q => absurd q (by decide), fun _ => ?_⟩
    refine CL 0 M hI ⟨by decide, by decide⟩ ?_
    intro M' i' z' k'
    have H := hQ M' i' z' (fun q => absurd (by omega) q.2) (fun _ => k'.mono (fun k j q => Or.inr q.1))
    rw [if_pos (by omega)] at H
    exact H
end
section
/-! READING MOURNERS, the reference -/
theorem tkL : ∀ n : Nat, n ≤ 6 → ((bS 2).take n).length = n ∧ ∀ i : Nat, i < n → ((bS 2).take n).getD i 0 = 97 + (i : Int) := by decide
theorem gX12_takesOwn {x b : Int} {M : Mem} {Q : Int → Mem → Prop} (hI : IM b M) (hx : 0 ≤ x ∧ x ≤ 6) (hQ : ∀ (z : Int) (M' : Mem), IM b M' → FrJ (fun k j => k = 1 ∧ j = 15) M M' → ((M 1 15 < M 1 16 ∧ 97 ≤ M 7 (M 1 15) ∧ M 7 (M 1 15) < 97 + x) ∧ z = M 7 (M 1 15) - 97 ∧ M' 1 15 = M 1 15 + 1 ∨ ¬ (M 1 15 < M 1 16 ∧ 97 ≤ M 7 (M 1 15) ∧ M 7 (M 1 15) < 97 + x) ∧ z = -1 ∧ M' 1 15 = M 1 15) → Q z M') : qX12_takesOf ((bS 2).take x.toNat) M Q := by
  obtain ⟨t1, t2⟩ := tkL x.toNat (by omega)
  refine gX12_takesOf hI (by rw [t1]; omega) ?_
  intro z M' i' f' p'
  refine hQ z M' i' f' ?_
  rcases p' with ⟨q1, q2, q3, q4⟩ | ⟨q1, q2, q3⟩
  · rw [t1] at q2
    rw [t2 z.toNat (by omega)] at q3
    exact Or.inl ⟨by omega, by omega, q4⟩
  · refine Or.inr ⟨fun w => ?_, q1, q2⟩
    rcases q3 with u | u
    · omega
    · rw [t1] at u
      have := u (M 7 (M 1 15) - 97) (by omega) (by omega)
      rw [t2 _ (by omega)] at this
      omega
def rc0 (f : Int → Int) (t g a : Int) : Int × Int := if nuZ f t 2 a < 0 then (-1, a) else if g ≤ nuZ f t 2 a then (-1, a + dgC f t 2 a - 1) else (nuZ f t 2 a, a + dgC f t 2 a)
theorem gX12_readsCell0 {b : Int} {M E : Mem} {Q : Int → Mem → Prop} (hI : IM b M) (hE : CE E M) (ha : M 1 15 ≤ M 1 16) (hQ : ∀ (z : Int) (M' : Mem), IM b M' → FrJ (fun k j => k = 1 ∧ j = 15) M M' → M' 1 15 = (rc0 (M 7) (M 1 16) (eG E) (M 1 15)).2 → z = (rc0 (M 7) (M 1 16) (eG E) (M 1 15)).1 → Q z M') : qX12_readsCell 0 M Q := by
  have b15 := bm_c1_15.mp (hI.bx 1 15)
  have b16 := bm_c1_16.mp (hI.bx 1 16)
  have bn := nuZ_b (f := M 7) (t := M 1 16) (a := M 1 15)
  unfold rc0 at hQ
  unfold qX12_readsCell
  refine gX12_number (p1 := 2) hI (by decide) ?_
  intro z1 M1 i1 f1 n1 r1
  obtain ⟨ez, ea⟩ := NUM.fn (p := 2) (by omega) n1
  have E1 : CE E M1 := hE.fr f1 (by intro k j h; rcases h with h | h | h | h | h <;> omega)
  have b20 := bm_c1_20.mp (i1.bx 1 20)
  refine ⟨fun c => ?_, fun c => ?_⟩
  · rw [if_neg (by omega)] at hQ
    have bb := bn.2.1 (by omega)
    have bt := bn.2.2.1 ha
    have J85 : ∀ v3 : Int, (v3 = 0 ∧ eG E ≤ z1 ∨ v3 = 1 ∧ z1 < eG E) → qX12_readsCell_J85 0 Q z1 v3 M1 := by
      intro v3 hv
      unfold qX12_readsCell_J85
      intro x17 e17 _
      refine ⟨by rcases hv with q | q <;> rw [q.1] <;> exact ⟨by decide, by decide⟩, ⟨fun d => ?_, fun d => ?_⟩⟩
      · have v1 : v3 = 1 := by rcases hv with q | q <;> omega
        unfold qX12_readsCell_J99
        refine ⟨⟨by decide, by decide⟩, ?_⟩
        refine gX12_flag (p0 := 0) i1 ?_
        intro _
        rw [if_pos rfl]
        refine ⟨⟨by omega, by omega⟩, ?_⟩
        intro M23 h23
        refine ⟨by rw [v1]; exact ⟨by decide, by decide⟩, ⟨fun c3 => absurd c3 d, fun c3 => ⟨r1, ?_⟩⟩⟩
        rw [if_neg (by rcases hv with q | q <;> omega)] at hQ
        refine hQ _ M23 (by rw [h23]; exact i1.up (by omega) (bm_c1_15.mpr ⟨by omega, by omega⟩)) (by rw [h23]; exact f1.up ⟨rfl, rfl⟩) ?_ ez
        rw [h23, up2_s, e17, ea, Int.sub_zero]
      · unfold qX12_readsCell_J99
        refine ⟨⟨by decide, by decide⟩, ?_⟩
        refine gX12_flag (p0 := 1) i1 ?_
        intro _
        rw [if_neg (by decide)]
        refine ⟨⟨by omega, by omega⟩, ?_⟩
        intro M23 h23
        refine ⟨by rw [d]; exact ⟨by decide, by decide⟩, ⟨fun _ => ?_, fun c3 => absurd d c3⟩⟩
        rw [if_pos (by rcases hv with q | q <;> omega)] at hQ
        refine hQ _ M23 (by rw [h23]; exact i1.up (by omega) (bm_c1_15.mpr ⟨by omega, by omega⟩)) (by rw [h23]; exact f1.up ⟨rfl, rfl⟩) ?_ rfl
        rw [h23, up2_s, e17, ea]
    have L : ∀ v3 : Int, (v3 = 0 ∧ eG E ≤ z1 ∨ v3 = 1 ∧ z1 < eG E) → qX12_readsCell_L45 0 (fun v2 v3 M => qX12_readsCell_J85 0 Q v2 v3 M) Q 1 z1 v3 0 M1 := by
      intro v3 hv
      rw [qX12_readsCell_L45]
      intro x5 e5 _
      exact ⟨⟨by decide, by decide⟩, ⟨fun _ => J85 v3 hv, fun _ => ⟨fun _ => J85 v3 hv, fun q => absurd rfl q⟩⟩⟩
    refine gX12_gate i1 E1 ?_
    intro _
    exact ⟨fun d => ⟨1, L 0 (Or.inl ⟨rfl, d⟩)⟩, fun d => ⟨fun _ => ⟨1, L 1 (Or.inr ⟨rfl, by omega⟩)⟩, fun q => absurd rfl q⟩⟩
  · rw [if_pos (by omega)] at hQ
    have := bn.2.2.2 (by omega)
    refine hQ _ M1 i1 f1 ?_ rfl
    show M1 1 15 = M 1 15
    omega
theorem rd2_rc {f : Int → Int} {t g H m a : Int} (h : m < 8) : rd2 f t g H m a = if (rc0 f t g a).1 < 0 then (-1, 0, (rc0 f t g a).2) else if (rc0 f t g a).2 < t ∧ 97 ≤ f (rc0 f t g a).2 ∧ f (rc0 f t g a).2 < 97 + H then ((rc0 f t g a).1, f (rc0 f t g a).2 - 97, (rc0 f t g a).2 + 1) else (-1, 0, (rc0 f t g a).2) := by
  unfold rd2 rc0
  rw [if_neg (by omega)]
  by_cases c : nuZ f t 2 a < 0
  · rw [if_pos c, if_pos c]
    rfl
  · rw [if_neg c, if_neg c]
    by_cases c2 : g ≤ nuZ f t 2 a
    · rw [if_pos c2, if_pos c2]
      rfl
    · rw [if_neg c2, if_neg c2]
      show _ = if nuZ f t 2 a < 0 then _ else _
      rw [if_neg c]
theorem gX12_readsMourner {b : Int} {M E : Mem} {Q : Int → Mem → Prop} (hI : IM b M) (hE : CE E M) (hm : E 1 5 + M 1 20 ≤ 8) (ha : M 1 15 ≤ M 1 16) (hQ : ∀ (z : Int) (M' : Mem), IM b M' → FrJ kRm M M' → M' 1 15 = (rd2 (M 7) (M 1 16) (eG E) (E 1 4) (E 1 5 + M 1 20) (M 1 15)).2.2 → ((rd2 (M 7) (M 1 16) (eG E) (E 1 4) (E 1 5 + M 1 20) (M 1 15)).1 < 0 ∧ z = 0 ∨ 0 ≤ (rd2 (M 7) (M 1 16) (eG E) (E 1 4) (E 1 5 + M 1 20) (M 1 15)).1 ∧ z = 1 ∧ M' 1 20 = M 1 20 + 1 ∧ (∀ j, 0 ≤ j → j < 2 * M 1 20 → M' 9 j = M 9 j) ∧ M' 9 (2 * M 1 20) = (rd2 (M 7) (M 1 16) (eG E) (E 1 4) (E 1 5 + M 1 20) (M 1 15)).1 ∧ M' 9 (2 * M 1 20 + 1) = (rd2 (M 7) (M 1 16) (eG E) (E 1 4) (E 1 5 + M 1 20) (M 1 15)).2.1) → Q z M') : qX12_readsMourner M Q := by
  have e4 : M 1 4 = E 1 4 := hE 1 4 cE14
  have e5 : M 1 5 = E 1 5 := hE 1 5 cE15
  have b4 := bm_c1_4.mp (hI.bx 1 4)
  have b5 := bm_c1_5.mp (hI.bx 1 5)
  have b20 := bm_c1_20.mp (hI.bx 1 20)
  have b15 := bm_c1_15.mp (hI.bx 1 15)
  have bg := hE.g hI
  unfold qX12_readsMourner
  intro x1 e1 _ x2 e2 _
  refine ⟨⟨by omega, by omega⟩, ⟨fun c => ?_, fun c => ?_⟩⟩
  · rw [rd2_rc (by omega)] at hQ
    refine gX12_readsCell0 hI hE ha ?_
    intro z5 M5 i5 f5 a5 ez _ x6 e6 _
    rw [← ez, ← a5] at hQ
    have bz : -1 ≤ z5 ∧ z5 < eG E := by
      have bn := nuZ_b (f := M 7) (t := M 1 16) (a := M 1 15)
      rw [ez]
      unfold rc0
      split
      · show (-1 : Int) ≤ -1 ∧ (-1 : Int) < eG E
        omega
      · split
        · show (-1 : Int) ≤ -1 ∧ (-1 : Int) < eG E
          omega
        · show -1 ≤ nuZ (M 7) (M 1 16) 2 (M 1 15) ∧ nuZ (M 7) (M 1 16) 2 (M 1 15) < eG E
          omega
    have f6 : x6 = M 1 20 := by rw [e6]; exact f5 1 20 (by omega)
    have h7 : M5 7 = M 7 := funext fun j => f5 7 j (by omega)
    have h16 : M5 1 16 = M 1 16 := f5 1 16 (by omega)
    refine ⟨by omega, by omega, ?_⟩
    intro M9 h9 x10 e10 _
    have i9 : IM b M9 := by rw [h9]; exact i5.up (by omega) (bm_c9.mpr ⟨by omega, by omega⟩)
    have f10 : x10 = M 1 20 := by rw [e10, h9, up2_n (by decide)]; exact f5 1 20 (by omega)
    have F9 : FrJ kRm M M9 := by rw [h9]; exact (f5.mono (by intro k j h; omega)).up (Or.inl rfl)
    have at9 : M9 1 15 = M5 1 15 := by rw [h9, up2_n (by decide)]
    have J68 : ∀ (t0 : Int) (N : Mem), IM b N → FrJ (fun k j => k = 1 ∧ j = 15) M9 N → (-1 ≤ t0 ∧ t0 ≤ 5) → (t0 < 0 → (∀ M' : Mem, IM b M' → FrJ kRm M M' → M' 1 15 = N 1 15 → Q 0 M')) → (0 ≤ t0 → (∀ M' : Mem, IM b M' → FrJ kRm M M' → M' 1 15 = N 1 15 → M' 1 20 = M 1 20 + 1 → (∀ j, 0 ≤ j → j < 2 * M 1 20 → M' 9 j = M 9 j) → M' 9 (2 * M 1 20) = z5 → M' 9 (2 * M 1 20 + 1) = t0 → Q 1 M')) → qX12_readsMourner_J68 Q t0 (2 * x10 + 1) N := by
      intro t0 N iN fN ht hq0 hq1
      have g20 : N 1 20 = M 1 20 := by rw [fN 1 20 (by omega), h9, up2_n (by decide)]; exact f5 1 20 (by omega)
      unfold qX12_readsMourner_J68
      refine ⟨by omega, by omega, ⟨by omega, by omega⟩, ?_⟩
      intro M20 h20 x21 e21 _
      have f21 : x21 = M 1 20 := by rw [e21, h20, up2_n (by decide)]; exact g20
      refine ⟨⟨by omega, by omega⟩, ?_⟩
      intro M23 h23 x24 e24 _
      have f24 : x24 = M 1 20 + 1 := by rw [e24, h23, up2_s, f21]
      refine ⟨by omega, by omega, ?_⟩
      intro x27 e27 _
      have f27 : x27 = t0 := by rw [e27, h23, up2_n (by decide), h20, show 2 * x24 - 1 = 2 * x10 + 1 from by omega, up2_s]
      have i20 : IM b M20 := by rw [h20]; exact iN.up (by omega) (bm_c9.mpr ⟨by omega, by omega⟩)
      have i23 : IM b M23 := by rw [h23]; exact i20.up (by omega) (bm_c1_20.mpr ⟨by omega, by omega⟩)
      have F23 : FrJ kRm M M23 := by
        rw [h23, h20]
        exact ((F9.tr (fN.mono (by intro k j h; omega))).up (Or.inl rfl)).up (Or.inr ⟨rfl, Or.inr rfl⟩)
      have a23 : M23 1 15 = N 1 15 := by rw [h23, up2_j (by decide), h20, up2_n (by decide)]
      refine ⟨fun d => hq0 (by omega) M23 i23 F23 a23, fun d => hq1 (by omega) M23 i23 F23 a23 (by rw [h23, up2_s, f21]) (fun j p q => ?_) ?_ ?_⟩
      · rw [h23, up2_n (by decide), h20, up2_j (by omega), fN 9 j (by omega), h9, up2_j (by omega)]
        exact f5 9 j (by omega)
      · rw [h23, up2_n (by decide), h20, up2_j (by omega), fN 9 _ (by omega), h9, ← f6, up2_s]
      · rw [h23, up2_n (by decide), h20, ← f10, up2_s]
    refine ⟨fun d => ?_, fun d => ?_⟩
    · intro x12 e12 _
      have f12 : x12 = E 1 4 := by rw [e12, h9, up2_n (by decide), f5 1 4 (by omega)]; exact e4
      refine ⟨by omega, by rw [show ((bS 2).length : Int) = 6 from rfl]; omega, ?_⟩
      rw [if_neg (by omega)] at hQ
      refine gX12_takesOwn i9 (by omega) ?_
      intro z16 M16 i16 f16 p16 _
      have k7 : M9 7 = M 7 := by rw [h9, up2_n (by decide)]; exact h7
      have k16 : M9 1 16 = M 1 16 := by rw [h9, up2_n (by decide)]; exact h16
      rw [k7, k16, at9, f12] at p16
      rcases p16 with ⟨q1, q2, q3⟩ | ⟨q1, q2, q3⟩
      · rw [if_pos q1] at hQ
        refine J68 z16 M16 i16 f16 ⟨by omega, by omega⟩ (fun w => by omega) (fun _ M' i' f' a' n' s' c0 c1 => ?_)
        exact hQ 1 M' i' f' (by rw [a', q3]) (Or.inr ⟨by show 0 ≤ z5; omega, rfl, n', s', c0, by rw [c1, q2]⟩)
      · rw [if_neg q1] at hQ
        refine J68 z16 M16 i16 f16 ⟨by omega, by omega⟩ (fun _ M' i' f' a' => ?_) (fun w => by omega)
        exact hQ 0 M' i' f' (by rw [a', q3]) (Or.inl ⟨by show (-1 : Int) < 0; decide, rfl⟩)
    · rw [if_pos (by omega)] at hQ
      refine J68 (-1) M9 i9 FrJ.rf ⟨by decide, by decide⟩ (fun _ M' i' f' a' => ?_) (fun w => absurd w (by decide))
      exact hQ 0 M' i' f' (by rw [a', at9]) (Or.inl ⟨by show (-1 : Int) < 0; decide, rfl⟩)
  · have e : rd2 (M 7) (M 1 16) (eG E) (E 1 4) (E 1 5 + M 1 20) (M 1 15) = (-1, 0, M 1 15) := by
      unfold rd2
      rw [if_pos (by omega)]
    rw [e] at hQ
    exact hQ 0 M hI FrJ.rf rfl (Or.inl ⟨by show (-1 : Int) < 0; decide, rfl⟩)
def cbM (c r0 : Int → Int) (m0 : Int) : Nat → Int → Int
  | 0 => r0
  | i + 1 => adM (cbM c r0 m0 i) (m0 + i) (c (2 * i))
def cow (c w0 : Int → Int) (m0 : Int) : Nat → Int → Int
  | 0 => w0
  | i + 1 => up (cow c w0 m0 i) (m0 + i) (c (2 * i + 1))
theorem cbM_s {c r0 : Int → Int} {m0 i : Int} (h : 0 ≤ i) : cbM c r0 m0 (i + 1).toNat = adM (cbM c r0 m0 i.toNat) (m0 + i) (c (2 * i)) := by
  rw [show (i + 1).toNat = i.toNat + 1 from by omega]
  show adM (cbM c r0 m0 i.toNat) (m0 + (i.toNat : Nat)) (c (2 * (i.toNat : Nat))) = _
  rw [show ((i.toNat : Nat) : Int) = i from by omega]
theorem cow_s {c r0 : Int → Int} {m0 i : Int} (h : 0 ≤ i) : cow c r0 m0 (i + 1).toNat = up (cow c r0 m0 i.toNat) (m0 + i) (c (2 * i + 1)) := by
  rw [show (i + 1).toNat = i.toNat + 1 from by omega]
  show up (cow c r0 m0 i.toNat) (m0 + (i.toNat : Nat)) (c (2 * (i.toNat : Nat) + 1)) = _
  rw [show ((i.toNat : Nat) : Int) = i from by omega]
theorem cbM_cg {c d r0 : Int → Int} {m0 : Int} : ∀ n : Nat, (∀ i : Int, 0 ≤ i → i < 2 * n → c i = d i) → cbM c r0 m0 n = cbM d r0 m0 n := by
  intro n
  induction n with
  | zero => intro _; rfl
  | succ n ih =>
    intro h
    unfold cbM
    rw [ih (fun i a q => h i a (by omega)), h (2 * n) (by omega) (by omega)]
theorem cow_cg {c d r0 : Int → Int} {m0 : Int} : ∀ n : Nat, (∀ i : Int, 0 ≤ i → i < 2 * n → c i = d i) → cow c r0 m0 n = cow d r0 m0 n := by
  intro n
  induction n with
  | zero => intro _; rfl
  | succ n ih =>
    intro h
    unfold cow
    rw [ih (fun i a q => h i a (by omega)), h (2 * n + 1) (by omega) (by omega)]
theorem gX12_mourners_L29 {b v1 : Int} {X60 : Int → Int → Mem → Prop} {Q : Int → Mem → Prop} {M0 E : Mem} {T : Int × Int × Int × (Int → Int) × (Int → Int)} (hE0 : CE E M0) (hX0 : T.1 = 0 → ∀ M' : Mem, IM b M' → FrJ kRm M0 M' → M' 1 15 = T.2.1 → X60 v1 0 M') (hX1 : T.1 = 1 → ∀ M' : Mem, IM b M' → FrJ kRm M0 M' → M' 1 15 = T.2.1 → E 1 5 + M' 1 20 = T.2.2.1 → cbM (M' 9) (M0 5) (E 1 5) (M' 1 20).toNat = T.2.2.2.1 → cow (M' 9) (M0 3) (E 1 5) (M' 1 20).toNat = T.2.2.2.2 → (∀ i, 0 ≤ i → i < M' 1 20 → 0 ≤ M' 9 (2 * i + 1) ∧ M' 9 (2 * i + 1) < E 1 4) → X60 v1 1 M') : ∀ (n : Nat) (v2 : Int) (M : Mem), IM b M → FrJ kRm M0 M → (∀ i, 0 ≤ i → i < M 1 20 → 0 ≤ M 9 (2 * i + 1) ∧ M 9 (2 * i + 1) < E 1 4) → rdM (M0 7) (M0 1 16) (eG E) (E 1 4) n (E 1 5 + M 1 20) (cbM (M 9) (M0 5) (E 1 5) (M 1 20).toNat) (cow (M 9) (M0 3) (E 1 5) (M 1 20).toNat) (M 1 15) = T → M 1 15 ≤ M0 1 16 → E 1 5 + M 1 20 ≤ 8 → 9 ≤ E 1 5 + M 1 20 + n → qX12_mourners_L29 X60 Q (n + 1) v1 v2 1 M := by
  intro n
  induction n with
  | zero => intro v2 M hI hF hw hT ha hm hn; omega
  | succ n ih =>
    intro v2 M hI hF hw hT ha hm hn
    have e7 : M 7 = M0 7 := funext fun j => hF 7 j (by omega)
    have e16 : M 1 16 = M0 1 16 := hF 1 16 (by omega)
    have b20 := bm_c1_20.mp (hI.bx 1 20)
    have b15 := bm_c1_15.mp (hI.bx 1 15)
    have hE : CE E M := hE0.fr hF (by intro k j h; rcases h with h | h | h | h | h <;> omega)
    rw [qX12_mourners_L29]
    refine ⟨⟨by decide, by decide⟩, ⟨fun c => absurd c (by decide), fun _ => ?_⟩⟩
    refine gX12_readsMourner hI hE hm (by rw [e16]; exact ha) ?_
    intro z7 M7 i7 f7 a7 p7 _ _
    rw [e7, e16] at a7 p7
    have rb := rd2_b (f := M0 7) (t := M0 1 16) (g := eG E) (H := E 1 4) (m := E 1 5 + M 1 20) (a := M 1 15) ⟨b15.1, ha⟩
    have F7 : FrJ kRm M0 M7 := hF.tr f7
    unfold rdM at hT
    refine ⟨fun c => ?_, fun c => ?_⟩
    · have c1 : (rd2 (M0 7) (M0 1 16) (eG E) (E 1 4) (E 1 5 + M 1 20) (M 1 15)).1 < 0 := by
        rcases p7 with q | q
        · exact q.1
        · omega
      rw [if_pos c1] at hT
      subst hT
      rw [c, qX12_mourners_L29]
      exact ⟨⟨by decide, by decide⟩, ⟨fun _ => hX0 rfl M7 i7 F7 a7, fun q => absurd rfl q⟩⟩
    · rcases p7 with q | ⟨q0, q1, q2, q3, q4, q5⟩
      · exact absurd q.2 c
      · have h6 := rb.2.2 q0
        rw [if_neg (by omega)] at hT
        refine gX12_takes i7 ?_
        intro z9 M9 i9 f9 p9 _ _
        have g7 : M7 7 = M0 7 := funext fun j => F7 7 j (by omega)
        have g16 : M7 1 16 = M0 1 16 := F7 1 16 (by omega)
        rw [g7, g16, a7] at p9
        have F9 : FrJ kRm M0 M9 := F7.tr (f9.mono (by intro k j h; omega))
        have g20 : M9 1 20 = M 1 20 + 1 := by rw [f9 1 20 (by omega)]; exact q2
        have g9 : M9 9 = M7 9 := funext fun j => f9 9 j (by omega)
        have CB9 : cbM (M9 9) (M0 5) (E 1 5) (M9 1 20).toNat = adM (cbM (M 9) (M0 5) (E 1 5) (M 1 20).toNat) (E 1 5 + M 1 20) (rd2 (M0 7) (M0 1 16) (eG E) (E 1 4) (E 1 5 + M 1 20) (M 1 15)).1 := by
          rw [g9, g20, cbM_s b20.1, q4, cbM_cg (c := M7 9) (d := M 9) _ (fun i a w => q3 i a (by omega))]
        have CO9 : cow (M9 9) (M0 3) (E 1 5) (M9 1 20).toNat = up (cow (M 9) (M0 3) (E 1 5) (M 1 20).toNat) (E 1 5 + M 1 20) (rd2 (M0 7) (M0 1 16) (eG E) (E 1 4) (E 1 5 + M 1 20) (M 1 15)).2.1 := by
          rw [g9, g20, cow_s b20.1, q5, cow_cg (c := M7 9) (d := M 9) _ (fun i a w => q3 i a (by omega))]
        have HW9 : ∀ i, 0 ≤ i → i < M9 1 20 → 0 ≤ M9 9 (2 * i + 1) ∧ M9 9 (2 * i + 1) < E 1 4 := by
          intro i a w
          rw [g9]
          by_cases ci : i = M 1 20
          · rw [ci, q5]
            exact h6.2.2
          · rw [q3 _ (by omega) (by omega)]
            exact hw i a (by omega)
        rw [q1]
        rcases p9 with ⟨w1, w2, w3⟩ | ⟨w1, w2, w3⟩
        · rw [if_pos w1] at hT
          refine ⟨fun d => by omega, fun d => ?_⟩
          refine ih 1 M9 i9 F9 HW9 ?_ (by omega) (by omega) (by omega)
          rw [CB9, CO9, w3, g20, ← Int.add_assoc]
          exact hT
        · rw [if_neg w1] at hT
          refine ⟨fun d => ?_, fun d => by omega⟩
          subst hT
          rw [qX12_mourners_L29]
          refine ⟨⟨by decide, by decide⟩, ⟨fun _ => ?_, fun q => absurd rfl q⟩⟩
          exact hX1 rfl M9 i9 F9 w3 (by show E 1 5 + M9 1 20 = E 1 5 + M 1 20 + 1; omega) CB9 CO9 HW9
theorem gX12_mourners_L81 {b : Int} {X173 : Mem → Prop} {Q : Int → Mem → Prop} {M0 E : Mem} (hE5 : M0 1 5 = E 1 5) (hm : E 1 5 + M0 1 20 ≤ 8 ∧ 0 ≤ M0 1 20 ∧ 0 ≤ E 1 5) (hw : ∀ i, 0 ≤ i → i < M0 1 20 → 0 ≤ M0 9 (2 * i + 1) ∧ M0 9 (2 * i + 1) ≤ 5) (hX : ∀ M' : Mem, IM b M' → FrJ (fun k j => k = 5 ∨ k = 3 ∨ (k = 1 ∧ j = 5)) M0 M' → M' 1 5 = E 1 5 + M0 1 20 → M' 5 = cbM (M0 9) (M0 5) (E 1 5) (M0 1 20).toNat → M' 3 = cow (M0 9) (M0 3) (E 1 5) (M0 1 20).toNat → X173 M') : ∀ (n : Nat) (v5 : Int) (M : Mem), IM b M → FrJ (fun k j => k = 5 ∨ k = 3 ∨ (k = 1 ∧ j = 5)) M0 M → M 1 5 = E 1 5 + v5 → M 5 = cbM (M0 9) (M0 5) (E 1 5) v5.toNat → M 3 = cow (M0 9) (M0 3) (E 1 5) v5.toNat → (0 ≤ v5 ∧ v5 ≤ M0 1 20) → M0 1 20 - v5 < (n : Int) → qX12_mourners_L81 X173 Q n v5 M := by
  intro n
  induction n with
  | zero => intro v5 M hI hF h4 h5 h3 hv hn; exact absurd hn (by omega)
  | succ n ih =>
    intro v5 M hI hF h4 h5 h3 hv hn
    have g20 : M 1 20 = M0 1 20 := hF 1 20 (by omega)
    rw [qX12_mourners_L81]
    intro x16 e16 _
    refine ⟨⟨by omega, by omega⟩, ⟨fun c => ?_, fun c => ?_⟩⟩
    · have ev : v5 = M0 1 20 := by omega
      rw [ev] at h4 h5 h3
      exact hX M hI hF h4 h5 h3
    have w := hw v5 hv.1 (by omega)
    intro x19 e19 _
    refine ⟨by omega, by omega, ?_⟩
    intro x22 e22 _
    have b22 : -1 ≤ x22 ∧ x22 ≤ 29 := by rw [e22]; exact bm_c9.mp (hI.bx _ _)
    have f22 : x22 = M0 9 (2 * v5) := by rw [e22]; exact hF 9 _ (by omega)
    refine ⟨by omega, by omega, ?_⟩
    intro M25 h25 x26 e26 _
    have f26 : x26 = E 1 5 + v5 := by rw [e26, h25, up2_n (by decide)]; exact h4
    refine ⟨by omega, by omega, ?_⟩
    intro x29 e29 _
    have f29 : x29 = M0 9 (2 * v5 + 1) := by rw [e29, h25, up2_n (by decide)]; exact hF 9 _ (by omega)
    refine ⟨by omega, by omega, ?_⟩
    intro M32 h32 x33 e33 _
    have f33 : x33 = E 1 5 + v5 := by rw [e33, h32, up2_n (by decide), h25, up2_n (by decide)]; exact h4
    refine ⟨by omega, by omega, ?_⟩
    intro M36 h36 x37 e37 _
    have f37 : x37 = E 1 5 + v5 := by rw [e37, h36, up2_n (by decide), h32, up2_n (by decide), h25, up2_n (by decide)]; exact h4
    refine ⟨by omega, by omega, ?_⟩
    intro M40 h40 x41 e41 _
    have f41 : x41 = E 1 5 + v5 := by rw [e41, h40, up2_n (by decide), h36, up2_n (by decide), h32, up2_n (by decide), h25, up2_n (by decide)]; exact h4
    refine ⟨⟨by omega, by omega⟩, ?_⟩
    intro M43 h43
    have i25 : IM b M25 := by rw [h25]; exact hI.up (by omega) ((bm_n (Or.inl rfl)).mpr ⟨by omega, by omega, by omega, by omega⟩)
    have i32 : IM b M32 := by rw [h32]; exact i25.up (by omega) (bm_c3.mpr ⟨by omega, by omega⟩)
    have i36 : IM b M36 := by rw [h36]; exact i32.up (by omega) ((bm_n (Or.inl rfl)).mpr ⟨by omega, by omega, by omega, by omega⟩)
    have i40 : IM b M40 := by rw [h40]; exact i36.up (by omega) ((bm_n (Or.inl rfl)).mpr ⟨by omega, by omega, by omega, by omega⟩)
    have i43 : IM b M43 := by rw [h43]; exact i40.up (by omega) (bm_c1_5.mpr ⟨by omega, by omega⟩)
    refine ih _ M43 i43 (by rw [h43, h40, h36, h32, h25]; exact ((((hF.up (Or.inl rfl)).up (Or.inr (Or.inl rfl))).up (Or.inl rfl)).up (Or.inl rfl)).up (Or.inr (Or.inr ⟨rfl, rfl⟩))) (by rw [h43, up2_s]; omega) ?_ ?_ (by omega) (by omega)
    · rw [h43, up2_n (by decide), h40, up2_up, h36, up2_up, h32, up2_n (by decide), h25, up2_up, cbM_s hv.1, h5, f22, f33, f37, show x19 = E 1 5 + v5 from by omega]
      rfl
    · rw [h43, up2_n (by decide), h40, up2_n (by decide), h36, up2_n (by decide), h32, up2_up, h25, up2_n (by decide), cow_s hv.1, h3, f29, f26]
theorem gX12_mourners {b : Int} {M E : Mem} {Q : Int → Mem → Prop} (hI : IM b M) (hE : CE E M) (hb : b + 1 ≤ 2000000000) (hQ : ∀ M' : Mem, IM (b + 1) M' → M' 1 14 = 0 → (msOK (M 7) (M 1 14) (eG E) (E 1 4) (E 1 5) (M 5) (E 3) ∧ M 1 14 ≠ 0 → M' 1 5 = (msT (M 7) (M 1 14) (eG E) (E 1 4) (E 1 5) (M 5) (E 3)).2.2.1 ∧ M' 5 = (msT (M 7) (M 1 14) (eG E) (E 1 4) (E 1 5) (M 5) (E 3)).2.2.2.1 ∧ M' 3 = (msT (M 7) (M 1 14) (eG E) (E 1 4) (E 1 5) (M 5) (E 3)).2.2.2.2 ∧ M' 1 28 = 0 ∧ M' 1 6 = M 1 6 + 1 ∧ FrJ (fun k j => k = 3 ∨ k = 5 ∨ k = 9 ∨ (k = 1 ∧ (j = 0 ∨ j = 5 ∨ j = 6 ∨ j = 14 ∨ j = 15 ∨ j = 16 ∨ j = 17 ∨ j = 20 ∨ j = 28))) M M') → (¬ (msOK (M 7) (M 1 14) (eG E) (E 1 4) (E 1 5) (M 5) (E 3) ∧ M 1 14 ≠ 0) → FrJ (fun k j => k = 9 ∨ (k = 1 ∧ (j = 0 ∨ j = 14 ∨ j = 15 ∨ j = 16 ∨ j = 17 ∨ j = 20))) M M') → Q (msA (M 7) (M 1 14) (eG E) (E 1 4) (E 1 5) (M 5) (E 3)) M') : qX12_mourners M Q := by
  have bL := bm_c1_14.mp (hI.bx 1 14)
  have e5 : M 1 5 = E 1 5 := hE 1 5 cE15
  have e4 : M 1 4 = E 1 4 := hE 1 4 cE14
  have b5 := bm_c1_5.mp (hI.bx 1 5)
  have b4 := bm_c1_4.mp (hI.bx 1 4)
  have e3 : M 3 = E 3 := funext fun j => hE 3 j (cE3 j)
  unfold msA at hQ
  unfold qX12_mourners
  intro M1 h1
  have i1 : IM b M1 := by rw [h1]; exact hI.up (by omega) (by simp [BM])
  have F1 : FrJ (fun k j => k = 9 ∨ (k = 1 ∧ (j = 0 ∨ j = 14 ∨ j = 15 ∨ j = 16 ∨ j = 17 ∨ j = 20))) M M1 := by rw [h1]; exact FrJ.rf.up (by omega)
  have g14 : M1 1 14 = M 1 14 := by rw [h1, up2_j (by decide)]
  refine gX12_begins (p1 := 39) i1 (by decide) ?_
  intro M2 i2 f2 a2 t2 _ l2
  rw [g14] at t2 ⊢
  intro _ M3 h3
  have i3 : IM b M3 := by rw [h3]; exact i2.up (by omega) (bm_c1_20.mpr (by decide))
  have F3 : FrJ (fun k j => k = 9 ∨ (k = 1 ∧ (j = 0 ∨ j = 14 ∨ j = 15 ∨ j = 16 ∨ j = 17 ∨ j = 20))) M M3 := by
    rw [h3]
    exact (F1.tr (f2.mono (by intro k j h; omega))).up (by omega)
  have k20 : M3 1 20 = 0 := by rw [h3, up2_s]
  have k15 : M3 1 15 = 0 := by rw [h3, up2_j (by decide)]; exact a2
  have k16 : M3 1 16 = min (M 1 14) 39 := by rw [h3, up2_j (by decide)]; exact t2
  have k14 : M3 1 14 = 0 := by rw [h3, up2_j (by decide)]; exact l2
  have E3 : CE E M3 := hE.fr F3 (by intro k j h; rcases h with h | h | h | h | h <;> omega)
  have g7 : M3 7 = M 7 := funext fun j => F3 7 j (by omega)
  have g5 : M3 5 = M 5 := funext fun j => F3 5 j (by omega)
  have g3 : M3 3 = E 3 := by rw [← e3]; exact funext fun j => F3 3 j (by omega)
  have FIN : ∀ (is : Int) (M' : Mem), IM b M' → FrJ kRm M3 M' → (is = 0 ∨ is = 1) → M' 1 15 ≤ min (M 1 14) 39 → (is = 1 → E 1 5 + M' 1 20 ≤ 8) → (is = 1 → ∀ i, 0 ≤ i → i < M' 1 20 → 0 ≤ M' 9 (2 * i + 1) ∧ M' 9 (2 * i + 1) ≤ 5) → (is = 1 ∧ M 1 14 ≤ M' 1 15 → (M 1 14 = 0 ∧ M' 1 20 = 0) ∨ (msOK (M 7) (M 1 14) (eG E) (E 1 4) (E 1 5) (M 5) (E 3) ∧ M 1 14 ≠ 0 ∧ 0 < M' 1 20 ∧ E 1 5 + M' 1 20 = (msT (M 7) (M 1 14) (eG E) (E 1 4) (E 1 5) (M 5) (E 3)).2.2.1 ∧ cbM (M' 9) (M 5) (E 1 5) (M' 1 20).toNat = (msT (M 7) (M 1 14) (eG E) (E 1 4) (E 1 5) (M 5) (E 3)).2.2.2.1 ∧ cow (M' 9) (E 3) (E 1 5) (M' 1 20).toNat = (msT (M 7) (M 1 14) (eG E) (E 1 4) (E 1 5) (M 5) (E 3)).2.2.2.2)) → (¬ (is = 1 ∧ M 1 14 ≤ M' 1 15) → M 1 14 ≠ 0 ∧ ¬ msOK (M 7) (M 1 14) (eG E) (E 1 4) (E 1 5) (M 5) (E 3) ∧ M' 1 15 = (msT (M 7) (M 1 14) (eG E) (E 1 4) (E 1 5) (M 5) (E 3)).2.1) → qX12_faultOf (M 1 14) 39 is M' (fun (x14 : Int) (M14 : Mem) => iR x14 → (((0 ≤ x14) → (∃ n44 : Nat, qX12_mourners_L81 (fun (M : Mem) => qX12_isNew M (fun (x45 : Int) (M45 : Mem) => iR x45 → (Q x45 M45))) Q n44 0 M14)) ∧ ((¬ (0 ≤ x14)) → (Q x14 M14)))) := by
    intro is M' i' f' his ha' h6 hw' hok hbad
    have q14 : M' 1 14 = 0 := by rw [f' 1 14 (by omega)]; exact k14
    have q16 : M' 1 16 = min (M 1 14) 39 := by rw [f' 1 16 (by omega)]; exact k16
    have q5' : M' 1 5 = E 1 5 := by rw [f' 1 5 (by omega)]; exact E3 1 5 cE15
    have q5 : M' 5 = M 5 := by rw [← g5]; exact funext fun j => f' 5 j (by omega)
    have q3 : M' 3 = E 3 := by rw [← g3]; exact funext fun j => f' 3 j (by omega)
    have b20 := bm_c1_20.mp (i'.bx 1 20)
    have b15 := bm_c1_15.mp (i'.bx 1 15)
    have F' : FrJ (fun k j => k = 9 ∨ (k = 1 ∧ (j = 0 ∨ j = 14 ∨ j = 15 ∨ j = 16 ∨ j = 17 ∨ j = 20))) M M' := F3.tr (f'.mono (by intro k j h; omega))
    refine gX12_faultOf i' his (by decide) bL q16 (by rw [q16]; exact ha') ?_
    intro _
    by_cases c : is = 1 ∧ M 1 14 ≤ M' 1 15
    · rw [if_pos c]
      refine ⟨fun _ => ⟨10, ?_⟩, fun q => absurd (by decide) q⟩
      refine gX12_mourners_L81 (b := b) (M0 := M') (E := E) q5' ⟨h6 c.1, b20.1, by omega⟩ (hw' c.1) ?_ 10 0 M' i' FrJ.rf (by omega) rfl rfl (by omega) (by omega)
      intro M4 i4 f4 w4 w5 w3
      have q20 : M4 1 20 = M' 1 20 := f4 1 20 (by omega)
      refine gX12_isNew i4 hb ?_
      intro M5 i5 f5 n1 n2 _
      rw [q20] at n1 n2 ⊢
      have q6 : M4 1 6 = M 1 6 := by rw [f4 1 6 (by omega), F' 1 6 (by omega)]
      have z14 : M5 1 14 = 0 := by rw [f5 1 14 (by omega), f4 1 14 (by omega)]; exact q14
      rcases hok c with ⟨u1, u2⟩ | ⟨u1, u2, u3, u4, u5, u6⟩
      · obtain ⟨v1, v2⟩ := n2 (by omega)
        have H := hQ M5 i5 z14 (fun q => absurd u1 q.2) (fun _ => fun k j h => ?_)
        · rw [if_pos u1] at H
          rw [u2]
          exact H
        · by_cases k6 : k = 1 ∧ j = 6
          · rw [k6.1, k6.2, v2, q6]
          · by_cases k28 : k = 1 ∧ j = 28
            · rw [k28.1, k28.2, v1, f4 1 28 (by omega)]
              exact F' 1 28 (by omega)
            · rw [f5 k j (by omega)]
              by_cases kk : k = 5 ∨ k = 3 ∨ (k = 1 ∧ j = 5)
              · rcases kk with kk | kk | kk
                · rw [kk, w5, u2, q5]
                  rfl
                · rw [kk, w3, u2, q3, e3]
                  rfl
                · rw [kk.1, kk.2, w4, u2, e5]
                  omega
              · rw [f4 k j (by omega)]
                exact F' k j h
      · obtain ⟨v1, v2⟩ := n1 u3
        have H := hQ M5 i5 z14 (fun _ => ⟨?_, ?_, ?_, v1, by omega, ?_⟩) (fun q => absurd ⟨u1, u2⟩ q)
        · rw [if_neg u2, if_pos u1, ← u4] at H
          rw [show E 1 5 + M' 1 20 - E 1 5 = M' 1 20 from by omega] at H
          exact H
        · rw [f5 1 5 (by omega), w4, u4]
        · rw [← u5, ← q5, ← w5]
          exact funext fun j => f5 5 j (by omega)
        · rw [← u6, ← q3, ← w3]
          exact funext fun j => f5 3 j (by omega)
        · exact ((F'.mono (by intro k j h; omega)).tr (f4.mono (by intro k j h; omega))).tr (f5.mono (by intro k j h; omega))
    · rw [if_neg c]
      refine ⟨fun q => by omega, fun _ => ?_⟩
      obtain ⟨u1, u2, u3⟩ := hbad c
      have H := hQ M' (i'.mono (by omega)) q14 (fun q => absurd q.1 u2) (fun _ => F')
      rw [if_neg u1, if_neg u2, ← u3] at H
      exact H
  refine ⟨fun c => ⟨1, by decide, ?_⟩, fun c => ⟨10, by decide, ?_⟩⟩
  · rw [qX12_mourners_L29]
    refine ⟨⟨by decide, by decide⟩, ⟨fun _ => ⟨⟨by omega, by omega⟩, ⟨by decide, by decide⟩, ?_⟩, fun q => absurd rfl q⟩⟩
    exact FIN 1 M3 i3 FrJ.rf (Or.inr rfl) (by omega) (fun _ => by omega) (fun _ i a q => by omega) (fun _ => Or.inl ⟨by omega, k20⟩) (fun q => absurd ⟨rfl, by omega⟩ q)
  · have hb7 := rdM_b (f := M 7) (t := min (M 1 14) 39) (g := eG E) (H := E 1 4) 9 (E 1 5) (M 5) (E 3) 0 (by omega) (by omega) (by omega)
    have hTT : rdM (M 7) (min (M 1 14) 39) (eG E) (E 1 4) 9 (E 1 5) (M 5) (E 3) 0 = msT (M 7) (M 1 14) (eG E) (E 1 4) (E 1 5) (M 5) (E 3) := rfl
    rw [hTT] at hb7
    refine gX12_mourners_L29 (b := b) (M0 := M3) (E := E) (T := msT (M 7) (M 1 14) (eG E) (E 1 4) (E 1 5) (M 5) (E 3)) E3 ?_ ?_ 9 1 M3 i3 FrJ.rf (fun i a q => by omega) ?_ (by rw [k15, k16]; omega) (by omega) (by omega)
    · intro T0 M' i' f' a'
      refine ⟨⟨by omega, by omega⟩, ⟨by decide, by decide⟩, ?_⟩
      exact FIN 0 M' i' f' (Or.inl rfl) (by rw [a']; exact hb7.1.2) (fun q => absurd q (by decide)) (fun q => absurd q (by decide)) (fun q => absurd q.1 (by decide)) (fun _ => ⟨by omega, fun q => by have := q.1; omega, a'⟩)
    · intro T1 M' i' f' a' n' cb' co' hw'
      rw [g5] at cb'
      rw [g3] at co'
      have b20 := bm_c1_20.mp (i'.bx 1 20)
      refine ⟨⟨by omega, by omega⟩, ⟨by decide, by decide⟩, ?_⟩
      exact FIN 1 M' i' f' (Or.inr rfl) (by rw [a']; exact hb7.1.2) (fun _ => by omega) (fun _ i a q => by have := hw' i a q; omega) (fun q => Or.inr ⟨⟨T1, by omega⟩, by omega, by omega, n', cb', co'⟩) (fun q => ⟨by omega, fun w => q ⟨rfl, by have := w.2; omega⟩, a'⟩)
    · rw [g7, k16, k20, k15, g5, g3, Int.add_zero]
      exact hTT
-- the state after
theorem WR.addM {E : Mem} {r w : Int → Int} {m v o : Int} (hW : WR (eM E w m) r) (h4 : 0 ≤ E 1 4 ∧ E 1 4 ≤ 6) (hm : 0 ≤ m ∧ m < 8) (hv : 0 ≤ v ∧ v < eG E) : WR (eM E (up w m o) (m + 1)) (adM r m v) := by
  obtain ⟨a, b, c, d, e⟩ := hW
  have g1 : ∀ w' m', eG (eM E w' m') = eG E := fun w' m' => by show eM E w' m' 1 3 - 1 = E 1 3 - 1; rw [eM_1 _ _ _ (by decide)]
  have g2 : ∀ w' m', eH (eM E w' m') = eH E := fun w' m' => by show (eM E w' m' 1 4).toNat = (E 1 4).toNat; rw [eM_1 _ _ _ (by decide)]
  have lo : ∀ j, j ≤ 12 → adM r m v j = r j := fun j q => adM_o (by omega)
  have h37 : adM r m v 37 = r 37 := adM_o (by omega)
  unfold WR DST
  rw [g1, g2, eM_1 _ _ _ (by decide), eM_5]
  rw [g1] at b c
  rw [eM_1 _ _ _ (by decide)] at b
  rw [eM_5, eM_1 _ _ _ (show (4 : Int) ≠ 5 by decide)] at c
  rw [g2] at d
  unfold DST at a
  rw [eM_1 _ _ _ (by decide)] at a
  refine ⟨fun i j i0 i1 j0 j1 q p => ?_, fun i i0 i1 => ?_, fun i i0 i1 => ?_, ?_, by rw [h37]; exact e⟩
  · rw [lo i (by omega), lo j (by omega)] at q
    rw [lo i (by omega)] at p
    exact a i j i0 i1 j0 j1 q p
  · rw [lo i (by omega), lo (6 + i) (by omega)]
    exact b i i0 i1
  · by_cases ci : i = m
    · rw [ci]
      have v1 : adM r m v (21 + m) = -1 := by unfold adM; rw [up_j (by omega), upS]
      have v2 : adM r m v (13 + m) = v := by unfold adM; rw [up_j (by omega), up_j (by omega), upS]
      have v3 : adM r m v (29 + m) = -1 := by unfold adM; rw [upS]
      rw [v1, v2, v3]
      omega
    · rw [adM_o (by omega), adM_o (by omega), adM_o (by omega)]
      exact c i i0 (by omega)
  · rw [lo 12 (by decide), d]
    have eh : ((eH E : Nat) : Int) = E 1 4 := by
      show (((E 1 4).toNat : Nat) : Int) = E 1 4
      omega
    exact arF_cg (fun i i0 i1 => by rw [lo i (by omega)])
theorem WR.rdm {E : Mem} {f : Int → Int} {t : Int} (h4 : 0 ≤ E 1 4 ∧ E 1 4 ≤ 6) : ∀ (n : Nat) (m : Int) (r w : Int → Int) (a : Int), WR (eM E w m) r → (∀ i, 0 ≤ i → i < m → 0 ≤ w i ∧ w i < E 1 4) → (0 ≤ m ∧ m ≤ 8) → (0 ≤ a ∧ a ≤ t) → (rdM f t (eG E) (E 1 4) n m r w a).1 = 1 → WR (eM E (rdM f t (eG E) (E 1 4) n m r w a).2.2.2.2 (rdM f t (eG E) (E 1 4) n m r w a).2.2.1) (rdM f t (eG E) (E 1 4) n m r w a).2.2.2.1 ∧ ∀ i, 0 ≤ i → i < (rdM f t (eG E) (E 1 4) n m r w a).2.2.1 → 0 ≤ (rdM f t (eG E) (E 1 4) n m r w a).2.2.2.2 i ∧ (rdM f t (eG E) (E 1 4) n m r w a).2.2.2.2 i < E 1 4 := by
  intro n
  induction n with
  | zero => intro m r w a hW hw hm ha h; exact absurd h (by show ¬ (0 : Int) = 1; decide)
  | succ n ih =>
    intro m r w a hW hw hm ha h
    have b1 := rd2_b (f := f) (t := t) (g := eG E) (H := E 1 4) (m := m) ha
    unfold rdM at h ⊢
    by_cases c : (rd2 f t (eG E) (E 1 4) m a).1 < 0
    · rw [if_pos c] at h
      exact absurd h (by show ¬ (0 : Int) = 1; decide)
    · rw [if_neg c] at h ⊢
      have h6 := b1.2.2 (by omega)
      have W := hW.addM (o := (rd2 f t (eG E) (E 1 4) m a).2.1) h4 ⟨hm.1, h6.1⟩ (v := (rd2 f t (eG E) (E 1 4) m a).1) ⟨by omega, h6.2.1⟩
      have hw' : ∀ i, 0 ≤ i → i < m + 1 → 0 ≤ up w m (rd2 f t (eG E) (E 1 4) m a).2.1 i ∧ up w m (rd2 f t (eG E) (E 1 4) m a).2.1 i < E 1 4 := by
        intro i p q
        by_cases ci : i = m
        · rw [ci, upS]; exact h6.2.2
        · rw [up_j ci]; exact hw i p (by omega)
      by_cases c2 : (rd2 f t (eG E) (E 1 4) m a).2.2 < t ∧ f (rd2 f t (eG E) (E 1 4) m a).2.2 = 59
      · rw [if_pos c2] at h ⊢
        exact ih _ _ _ _ W hw' (by omega) (by omega) h
      · rw [if_neg c2] at h ⊢
        exact ⟨W, hw'⟩
theorem LAW.em {E M : Mem} {kl : Nat} {w : Int → Int} {m : Int} (h : LAW E M kl) : LAW (eM E w m) M kl := by
  unfold LAW
  rw [eM_1 _ _ _ (by decide), eM_k _ _ _ (by decide) (by decide)]
  exact h
theorem STR.em {E M : Mem} {w : Int → Int} {m : Int} (h : STR E M) (hm : 0 ≤ m ∧ m ≤ 8) (hw : ∀ i, 0 ≤ i → i < m → 0 ≤ w i ∧ w i < E 1 4) : STR (eM E w m) M := by
  obtain ⟨a1, a2, a3, a4, a5, a6, a7, a8, a9⟩ := h
  unfold STR
  rw [eM_1 _ _ _ (show (3 : Int) ≠ 5 by decide), eM_1 _ _ _ (show (4 : Int) ≠ 5 by decide), eM_1 _ _ _ (show (7 : Int) ≠ 5 by decide), eM_5, eM_3, eM_k _ _ _ (show 2 ≠ 1 by decide) (by decide), eM_k _ _ _ (show 4 ≠ 1 by decide) (by decide)]
  exact ⟨a1, a2, a3, a4, a5, a6, a7, hm, hw⟩
theorem STA.mourners {E MX MM MX' MM' : Mem} {m' : Int} {r' w' : Int → Int} (h : STA E MX MM) (hE : EBx E) (hI : IX MX) (hm : E 1 5 < m' ∧ m' ≤ 8) (hw : ∀ i, 0 ≤ i → i < m' → 0 ≤ w' i ∧ w' i < E 1 4) (kx : Ks (fun k j => (1 ≤ k ∧ k ≤ 14) ∨ k = 156 ∨ (k = 163 ∧ j = 2)) MX MX') (x2 : MX' 163 2 = 0) (hC : SC (eM E w' m') MX' 1 r') (m5 : MM' 5 = r') (m28 : MM' 1 28 = 0) (m6 : MM' 1 6 = MM 1 6 + 1) (km : FrJ (fun k j => k = 3 ∨ k = 5 ∨ k = 9 ∨ (k = 1 ∧ (j = 0 ∨ j = 5 ∨ j = 6 ∨ j = 14 ∨ j = 15 ∨ j = 16 ∨ j = 17 ∨ j = 20 ∨ j = 28))) MM MM') (hW : WR (eM E w' m') r') : STA (eM E w' m') MX' MM' := by
  have e5 := hE.2.2
  obtain ⟨a, b, c, d, e, f⟩ := h
  refine ⟨(a.fr (kx _ _ (by omega)) (kx _ _ (by omega)) (kx _ _ (by omega)) (fun j => kx 159 j (by omega))).em (by omega) hw, (b.kx hI (kx _ _ (by omega)) (fun k j q => kx k j (by omega))).em, by rw [m5]; exact hC, by rw [m5]; exact hW, HIS.nil x2 m28, ?_⟩
  intro i p q
  obtain ⟨u, v⟩ := f i p q
  rw [kx 166 i (by omega), km 29 i (by omega), km 30 i (by omega), m6, kx (29 + 7 * i.toNat) 6 (by omega), kx (29 + 7 * i.toNat) 7 (by omega), eM_5, eM_1 _ _ _ (show (4 : Int) ≠ 5 by decide)]
  refine ⟨u, fun w => ?_⟩
  obtain ⟨b1, b2, b3, b4⟩ := v w
  exact ⟨by omega, by omega, fun w2 => by omega, fun _ => Or.inr (by omega)⟩
end
section
/-! AVENUE, WEATHER: what is written -/
theorem gX8_become_L15 {Q : Mem → Prop} {M0 : Mem} (hl : M0 158 1 = M0 156 1 ∧ M0 158 1 ≤ 30) (hQ : ∀ M' : Mem, IX M' → Ks (fun k j => k = 158 ∧ j = 2) M0 M' → (∀ c : Nat, c < 32 → (bt (iI (M' 158 2)) c = true ↔ (c : Int) < M0 158 1 ∧ M0 157 c = 99)) → Q M') : ∀ (n : Nat) (v2 : Int) (M : Mem), IX M → Ks (fun k j => k = 158 ∧ j = 2) M0 M → (∀ c : Nat, c < 32 → (bt (iI (M 158 2)) c = true ↔ (c : Int) < v2 ∧ M0 157 c = 99)) → (0 ≤ v2 ∧ v2 ≤ M0 158 1) → M0 158 1 - v2 < (n : Int) → qX8_become_L15 Q n v2 M := by
  intro n
  induction n with
  | zero => intro v2 M hI hK hs hv hm; exact absurd hm (by omega)
  | succ n ih =>
    intro v2 M hI hK hs hv hm
    have g1 : M 158 1 = M0 158 1 := hK 158 1 (by omega)
    have g156 : M 156 1 = M0 156 1 := hK 156 1 (by omega)
    rw [qX8_become_L15]
    intro x4 e4 _
    refine ⟨⟨by omega, by omega⟩, ⟨fun c => ?_, fun c => ?_⟩⟩
    · have ev : v2 = M0 158 1 := by omega
      rw [ev] at hs
      exact hQ M hI hK hs
    intro x7 e7 _
    unfold qX9_signAt
    refine ⟨fun c2 => by omega, fun _ => ?_⟩
    intro x2 e2 _
    refine ⟨fun c3 => by omega, fun _ => ⟨by omega, by omega, ?_⟩⟩
    intro x6 e6 _ _
    have f6 : x6 = M0 157 v2 := by rw [e6]; exact hK 157 v2 (by omega)
    have J : ∀ t0 : Int, (x6 = 99 ∧ t0 = slI 1 v2 ∨ x6 ≠ 99 ∧ t0 = 0) → qX8_become_J45 (qX8_become_L15 Q n) Q v2 t0 x7 M := by
      intro t0 ht
      unfold qX8_become_J45
      intro x10 e10 _ M11 h11
      refine ih _ M11 (by rw [h11]; exact hI.up (by decide) (by simp [BX])) (by rw [h11]; exact hK.wr ⟨rfl, rfl⟩) (fun c hc => ?_) (by omega) (by omega)
      rw [h11, up2_s, e10, bt_oI, e7]
      have old := hs c hc
      have new : bt (iI t0) c = true ↔ (c : Int) = v2 ∧ M0 157 c = 99 := by
        rcases ht with ⟨q1, q2⟩ | ⟨q1, q2⟩
        · rw [q2, bt_sl1 (by omega) hc, decide_eq_true_iff]
          refine ⟨fun w => ⟨w, ?_⟩, fun w => w.1⟩
          rw [w, ← f6]
          exact q1
        · rw [q2, show iI 0 = (0 : Int32) from rfl, b_0]
          refine ⟨fun w => absurd w (by decide), fun w => ?_⟩
          exfalso
          apply q1
          rw [f6, ← w.1]
          exact w.2
      rw [Bool.or_eq_true, old, new]
      constructor
      · rintro (w | w)
        · exact ⟨by omega, w.2⟩
        · exact ⟨by omega, w.2⟩
      · intro w
        by_cases cc : (c : Int) = v2
        · exact Or.inr ⟨cc, w.2⟩
        · exact Or.inl ⟨by omega, w.2⟩
    refine ⟨fun c4 => J 0 (Or.inr ⟨c4, rfl⟩), fun c4 => ?_⟩
    intro x12 e12 _
    exact J x12 (Or.inl ⟨c4, e12⟩)
theorem gX8_become {M : Mem} {Q : Mem → Prop} (hI : IX M) (hl : 4 ≤ M 156 1 ∧ M 156 1 ≤ 30) (hQ : ∀ M' : Mem, IX M' → Ks (fun k j => k = 158 ∧ (j = 1 ∨ j = 2)) M M' → M' 158 1 = M 156 1 → (∀ c : Nat, c < 32 → (bt (iI (M' 158 2)) c = true ↔ (c : Int) < M 156 1 ∧ M 157 c = 99)) → Q M') : qX8_become M Q := by
  unfold qX8_become
  intro x1 e1 _ M2 h2 M3 h3
  have i2 : IX M2 := by rw [h2]; exact hI.up (by decide) (bx_c158_1.mpr ⟨by omega, by omega⟩)
  have i3 : IX M3 := by rw [h3]; exact i2.up (by decide) (by simp [BX])
  have K3 : Ks (fun k j => k = 158 ∧ (j = 1 ∨ j = 2)) M M3 := by rw [h3, h2]; exact (Ks.rf.wr ⟨rfl, Or.inl rfl⟩).wr ⟨rfl, Or.inr rfl⟩
  have g1 : M3 158 1 = M 156 1 := by rw [h3, up2_j (by decide), h2, up2_s, e1]
  have g156 : M3 156 1 = M 156 1 := K3 156 1 (by omega)
  have g157 : M3 157 = M 157 := funext fun j => K3 157 j (by omega)
  refine ⟨31, gX8_become_L15 (M0 := M3) ⟨by omega, by omega⟩ ?_ _ _ _ i3 Ks.rf (fun c hc => ?_) (by omega) (by omega)⟩
  · intro M' i' k' b'
    rw [g1, g157] at b'
    exact hQ M' i' (K3.tr (k'.mono (fun k j h => ⟨h.1, Or.inr h.2⟩))) (by rw [k' 158 1 (by omega)]; exact g1) b'
  · rw [h3, up2_s, show iI 0 = (0 : Int32) from rfl, b_0]
    exact ⟨fun w => absurd w (by decide), fun w => by omega⟩
theorem gX11_forgetKept_L2 {Q : Mem → Prop} {M0 : Mem} (hQ : ∀ M' : Mem, IX M' → Ks (fun k _ => k = 166) M0 M' → (∀ i, 0 ≤ i → i < 3 → M' 166 i = 0) → Q M') : ∀ (n : Nat) (v1 : Int) (M : Mem), IX M → Ks (fun k _ => k = 166) M0 M → (∀ i, 0 ≤ i → i < v1 → M 166 i = 0) → (0 ≤ v1 ∧ v1 ≤ 3) → 3 - v1 < (n : Int) → qX11_forgetKept_L2 Q n v1 M := by
  intro n
  induction n with
  | zero => intro v1 M hI hK hs hv hm; exact absurd hm (by omega)
  | succ n ih =>
    intro v1 M hI hK hs hv hm
    rw [qX11_forgetKept_L2]
    refine ⟨⟨by omega, by omega⟩, ⟨fun c => hQ M hI hK (fun i a q => hs i a (by omega)), fun c => ⟨by omega, by omega, ?_⟩⟩⟩
    intro M5 h5
    refine ih _ M5 (by rw [h5]; exact hI.up (by decide) (by simp [BX])) (by rw [h5]; exact hK.wr rfl) (fun i a q => ?_) (by omega) (by omega)
    rw [h5]
    by_cases ci : i = v1
    · rw [ci, up2_s]
    · rw [up2_j ci]; exact hs i a (by omega)
abbrev kAv (k : Nat) (j : Int) : Prop := k = 1 ∨ k = 156 ∨ (k = 158 ∧ (j = 1 ∨ j = 2)) ∨ (k = 163 ∧ j = 2) ∨ k = 166
theorem gX11_avenueC {M : Mem} {Q : Int → Mem → Prop} (hI : IX M) (hQ : ∀ (q : Int) (M' : Mem), IX M' → AV (M 157) (M 156 1) q → M' 156 1 = 0 → (q = M 156 1 ∧ 4 ≤ q → Ks kAv M M' ∧ M' 158 1 = M 156 1 ∧ (∀ c : Nat, c < 32 → (bt (iI (M' 158 2)) c = true ↔ (c : Int) < M 156 1 ∧ M 157 c = 99)) ∧ M' 163 2 = 0 ∧ (∀ i, 0 ≤ i → i < 3 → M' 166 i = 0) ∧ M' 1 6 = 0 ∧ M' 1 7 = 0 ∧ M' 1 8 = 0 ∧ M' 1 9 = 0 ∧ M' 1 10 = 0) → (¬ (q = M 156 1 ∧ 4 ≤ q) → Ks (fun k j => k = 156 ∧ j = 1) M M') → Q (avz (M 156 1) q) M') : qX11_avenue M Q := by
  have bL := bx_c156_1.mp (hI.bx 156 1)
  have J47b : ∀ (q x2 : Int), AV (M 157) (M 156 1) q → ¬ (q = M 156 1 ∧ 4 ≤ q) → qX11_avenue_J47 Q q x2 M := by
    intro q x2 hq hn
    have b := hq.1
    unfold qX11_avenue_J47 qX9_clear
    intro M4 h4
    have i4 : IX M4 := by rw [h4]; exact hI.up (by decide) (bx_c156_1.mpr (by decide))
    refine ⟨⟨by omega, by omega⟩, ⟨fun c => ⟨⟨by omega, by omega⟩, ?_⟩, fun c => by omega⟩⟩
    have := hQ q M4 i4 hq (by rw [h4, up2_s]) (fun w => absurd w hn) (fun _ => by rw [h4]; exact Ks.rf.wr ⟨rfl, rfl⟩)
    unfold avz at this
    rw [if_neg hn] at this
    exact this
  unfold qX11_avenue qX11_avenueFault
  refine ⟨31, gX11_avenueFault_L2 hI ?_ ?_ _ _ (by omega) (fun i a q => by omega) (by omega)⟩
  · intro hq
    intro x9 e9 _
    refine ⟨fun c => ?_, fun c => ?_⟩
    · intro _ x2 e2 _
      refine ⟨fun h => absurd rfl h, fun _ => ?_⟩
      have b := hq.1
      refine gX8_become hI ⟨by omega, by omega⟩ ?_
      intro M9 i9 k9 a9 b9
      unfold qX6_clear
      intro N1 g1 N2 g2 N3 g3 N4 g4 N5 g5
      have is1 : isS 1 := by decide
      have j1 : IX N1 := by rw [g1]; exact i9.up (is1.nsp 0 (by decide)) ((bx_s0_6 is1).mpr (by decide))
      have j2 : IX N2 := by rw [g2]; exact j1.up (is1.nsp 0 (by decide)) ((bx_s0_7 is1).mpr (by decide))
      have j3 : IX N3 := by rw [g3]; exact j2.up (is1.nsp 0 (by decide)) (bx_sf0 is1 (by decide) (by decide))
      have j4 : IX N4 := by rw [g4]; exact j3.up (is1.nsp 0 (by decide)) (bx_sf0 is1 (by decide) (by decide))
      have j5 : IX N5 := by rw [g5]; exact j4.up (is1.nsp 0 (by decide)) (bx_sf0 is1 (by decide) (by decide))
      unfold qX1_clear
      intro N6 g6
      have j6 : IX N6 := by rw [g6]; exact j5.up (by decide) (bx_c163_2.mpr (by decide))
      have K6 : Ks kAv M N6 := by
        rw [g6, g5, g4, g3, g2, g1]
        exact ((((((k9.mono (by intro k j h; omega)).wr (by omega)).wr (by omega)).wr (by omega)).wr (by omega)).wr (by omega)).wr (by omega)
      have c6 : N6 1 6 = 0 := by rw [g6, up2_n (by decide), g5, up2_j (by decide), g4, up2_j (by decide), g3, up2_j (by decide), g2, up2_j (by decide), g1, up2_s]
      have c7 : N6 1 7 = 0 := by rw [g6, up2_n (by decide), g5, up2_j (by decide), g4, up2_j (by decide), g3, up2_j (by decide), g2, up2_s]
      have c8 : N6 1 8 = 0 := by rw [g6, up2_n (by decide), g5, up2_j (by decide), g4, up2_j (by decide), g3, up2_s]
      have c9 : N6 1 9 = 0 := by rw [g6, up2_n (by decide), g5, up2_j (by decide), g4, up2_s]
      have c10 : N6 1 10 = 0 := by rw [g6, up2_n (by decide), g5, up2_s]
      have c163 : N6 163 2 = 0 := by rw [g6, up2_s]
      have c158 : ∀ j, N6 158 j = M9 158 j := fun j => by rw [g6, up2_n (by decide), g5, up2_n (by decide), g4, up2_n (by decide), g3, up2_n (by decide), g2, up2_n (by decide), g1, up2_n (by decide)]
      unfold qX11_forgetKept
      refine ⟨4, gX11_forgetKept_L2 (M0 := N6) ?_ _ _ _ j6 Ks.rf (fun i a q => by omega) (by omega) (by omega)⟩
      intro N7 j7 k7 z7
      unfold qX11_avenue_J47 qX9_clear
      intro M4 h4
      have i4 : IX M4 := by rw [h4]; exact j7.up (by decide) (bx_c156_1.mpr (by decide))
      refine ⟨⟨by decide, by decide⟩, ⟨fun h => absurd rfl h, fun _ => ⟨⟨by omega, by omega⟩, ?_⟩⟩⟩
      have H : ∀ (k : Nat) (j : Int), k ≠ 156 → k ≠ 166 → M4 k j = N6 k j := fun k j h1 h2 => by rw [h4, up2_n h1, k7 k j h2]
      have := hQ _ M4 i4 hq (by rw [h4, up2_s]) (fun _ => ⟨?_, by rw [H 158 1 (by decide) (by decide), c158]; exact a9, ?_, by rw [H 163 2 (by decide) (by decide)]; exact c163, fun i a q => by rw [h4, up2_n (by decide)]; exact z7 i a q, by rw [H 1 6 (by decide) (by decide)]; exact c6, by rw [H 1 7 (by decide) (by decide)]; exact c7, by rw [H 1 8 (by decide) (by decide)]; exact c8, by rw [H 1 9 (by decide) (by decide)]; exact c9, by rw [H 1 10 (by decide) (by decide)]; exact c10⟩) (fun w => absurd ⟨rfl, by omega⟩ w)
      · unfold avz at this
        rw [if_pos ⟨rfl, by omega⟩] at this
        rw [e2]
        exact this
      · rw [h4]
        exact (K6.tr (k7.mono (by intro k j h; omega))).wr (by omega)
      · rw [H 158 2 (by decide) (by decide), c158]
        exact b9
    · intro x11 e11 _ _ x2 e2 _
      refine ⟨fun h => J47b _ _ (by rw [e11]; exact hq) (by omega), fun h => by omega⟩
  · intro q hl hq
    have b := hq.1
    intro _ x2 e2 _
    exact ⟨fun h => J47b _ _ hq (by omega), fun h => by omega⟩
abbrev kLa (k : Nat) (j : Int) : Prop := k = 8 ∨ (k = 1 ∧ j = 15)
theorem gX12_avenue_L16C {X69 : Int → Mem → Prop} {Q : Int → Mem → Prop} {b : Int} {M0 : Mem} {len : Int} (hl : 0 ≤ len ∧ len ≤ 80) (hX : ∀ (q : Int) (M' : Mem), IM b M' → FrJ kLa M0 M' → AV (M0 7) len q → M' 1 15 = q → M' 1 16 = len → (∀ i, 0 ≤ i → i < q → (M' 8 i = 0 ↔ M0 7 i ≠ 99)) → X69 q M') : ∀ (n : Nat) (v1 v2 : Int) (M : Mem), IM b M → FrJ kLa M0 M → (∀ i, 0 ≤ i → i < v1 → (M 8 i = 0 ↔ M0 7 i ≠ 99)) → (∀ j, M 7 j = M0 7 j) → M 1 15 = v1 → M 1 16 = len → (0 ≤ v1 ∧ v1 ≤ 30 ∧ v1 ≤ len) → (∀ i, 0 ≤ i → i < v1 → vA (M0 7 i)) → (v2 = 1 ∨ v2 = 0 ∧ (v1 = len ∨ ¬ vA (M0 7 v1))) → 30 - v1 + v2 < (n : Int) → qX12_avenue_L16 X69 Q n v1 v2 M := by
  intro n
  induction n with
  | zero => intro v1 v2 M hI hF h8 h7 h15 h16 hv ha h2 hm; exact absurd hm (by omega)
  | succ n ih =>
    intro v1 v2 M hI hF h8 h7 h15 h16 hv ha h2 hm
    rw [qX12_avenue_L16]
    refine ⟨⟨by omega, by omega⟩, ⟨fun c => ?_, fun c => ⟨⟨by omega, by omega⟩, ⟨fun c2 => ?_, fun c2 => ?_⟩⟩⟩⟩
    · refine hX _ _ hI hF ⟨by omega, ha, ?_⟩ h15 h16 h8
      rcases h2 with h | h
      · omega
      · rcases h.2 with q | q
        · exact Or.inl q
        · exact Or.inr (Or.inr q)
    · exact hX _ _ hI hF ⟨by omega, ha, Or.inr (Or.inl (by omega))⟩ h15 h16 h8
    · have e1 : bS 1 = [46, 99] := rfl
      have hl2 : ((bS 1).length : Int) = 2 := rfl
      refine gX12_takesOf hI (by decide) ?_
      intro x7 M7 i7 f7 p7 _
      have k7 : ∀ j, M7 7 j = M0 7 j := fun j => by rw [f7 7 j (by omega), h7]
      have k16 : M7 1 16 = len := by rw [f7 1 16 (by omega), h16]
      have J : ∀ t0 : Int, (t0 = 1 ∧ 0 ≤ x7 ∨ t0 = 0 ∧ x7 < 0) → qX12_avenue_J42 (qX12_avenue_L16 X69 Q n) X69 Q v1 x7 t0 M7 := by
        intro t0 ht
        unfold qX12_avenue_J42
        have b7 : -1 ≤ x7 ∧ x7 ≤ 1 := by rcases p7 with q | q <;> omega
        have J58 : ∀ s : Int, (s = 0 ∧ x7 ≠ 1 ∨ s = 1 ∧ x7 = 1) → qX12_avenue_J58 (qX12_avenue_L16 X69 Q n) X69 Q v1 t0 s v1 M7 := by
          intro s hs
          unfold qX12_avenue_J58
          refine ⟨by omega, by omega, ⟨by omega, by omega⟩, by omega, ?_⟩
          intro M15 hE
          have i15 : IM b M15 := by rw [hE]; exact i7.up (by omega) (bm_c8.mpr ⟨by omega, by omega⟩)
          refine ⟨⟨by omega, by omega⟩, ?_⟩
          refine sX12_flag (p0 := t0) i15 ?_
          intro x17 p17 _
          have F15 : FrJ kLa M0 M15 := by rw [hE]; exact (hF.tr (f7.mono (fun k j h => Or.inr h))).up (Or.inl rfl)
          have h8' : ∀ i, 0 ≤ i → i < v1 → (M15 8 i = 0 ↔ M0 7 i ≠ 99) := fun i a w => by rw [hE, up2_j (by omega), f7 8 i (by omega)]; exact h8 i a w
          have g7 : ∀ j, M15 7 j = M0 7 j := fun j => by rw [hE, up2_n (by decide), k7]
          have g15 : M15 1 15 = M7 1 15 := by rw [hE, up2_n (by decide)]
          have g16 : M15 1 16 = len := by rw [hE, up2_n (by decide), k16]
          rcases ht with ht | ht
          · rcases p7 with q | q
            · have f17 : x17 = 1 := by omega
              have hv1 : vA (M0 7 v1) := by
                have e := q.2.2.1
                rw [h15, h7] at e
                have : x7 = 0 ∨ x7 = 1 := by omega
                rcases this with c | c
                · rw [c] at e; exact Or.inl e.symm
                · rw [c] at e; exact Or.inr e.symm
              rw [f17, ht.1]
              have e7' := q.2.2.1
              rw [h15, h7] at e7'
              refine ih _ _ _ i15 F15 (fun i a w => ?_) g7 (by omega) g16 (by omega) (fun i a w => ?_) (Or.inl rfl) (by omega)
              · by_cases ci : i = v1
                · rw [ci, hE, up2_s]
                  have : x7 = 0 ∨ x7 = 1 := by omega
                  rcases this with u | u
                  · rw [u] at e7'
                    have e46 : M0 7 v1 = 46 := e7'.symm
                    omega
                  · rw [u] at e7'
                    have e99 : M0 7 v1 = 99 := e7'.symm
                    omega
                · exact h8' i a (by omega)
              by_cases ci : i = v1
              · rw [ci]; exact hv1
              · exact ha i a (by omega)
            · omega
          · rcases p7 with q | q
            · omega
            · have f17 : x17 = 0 := by omega
              rw [f17, ht.1]
              refine ih _ _ _ i15 F15 (fun i a w => h8' i a (by omega)) g7 (by omega) g16 (by omega) (fun i a w => ha i a (by omega)) (Or.inr ⟨rfl, ?_⟩) (by omega)
              rw [show v1 + 0 = v1 from by omega]
              rcases q.2.2 with w | w
              · exact Or.inl (by omega)
              · refine Or.inr (fun hv => ?_)
                rw [← h7, ← h15] at hv
                rcases hv with u | u
                · exact w 0 (by decide) (by decide) (by rw [u]; rfl)
                · exact w 1 (by decide) (by decide) (by rw [u]; rfl)
        exact ⟨⟨by omega, by omega⟩, ⟨fun w => J58 _ (Or.inl ⟨rfl, w⟩), fun w => J58 _ (Or.inr ⟨rfl, w⟩)⟩⟩
      exact ⟨fun c3 => J _ (Or.inr ⟨rfl, c3⟩), fun c3 => J _ (Or.inl ⟨rfl, by omega⟩)⟩
theorem gX12_avenue_L99C {X122 : Int → Mem → Prop} {Q : Int → Mem → Prop} {b v1 : Int} {M0 : Mem} (hv1 : 0 ≤ v1 ∧ v1 ≤ 30) (hX : ∀ M' : Mem, IM b M' → FrJ (fun k _ => k = 2) M0 M' → (∀ i, 0 ≤ i → i < v1 → M' 2 i = M0 8 i) → X122 v1 M') : ∀ (n : Nat) (v3 : Int) (M : Mem), IM b M → FrJ (fun k _ => k = 2) M0 M → (∀ i, 0 ≤ i → i < v3 → M 2 i = M0 8 i) → (0 ≤ v3 ∧ v3 ≤ v1) → 30 - v3 < (n : Int) → qX12_avenue_L99 X122 Q n v1 v3 M := by
  intro n
  induction n with
  | zero => intro v3 M hI hF hs hv hm; exact absurd hm (by omega)
  | succ n ih =>
    intro v3 M hI hF hs hv hm
    rw [qX12_avenue_L99]
    refine ⟨⟨by omega, by omega⟩, ⟨by omega, by omega⟩, ⟨fun c => hX M hI hF (fun i a q => hs i a (by omega)), fun c => ⟨by omega, by omega, ?_⟩⟩⟩
    intro x32 e32 _
    have b32 : 0 ≤ x32 ∧ x32 ≤ 1 := by rw [e32]; exact bm_c8.mp (hI.bx _ _)
    refine ⟨by omega, ?_⟩
    intro M34 h34
    refine ih _ M34 (by rw [h34]; exact hI.up (by omega) (by simp [BM])) (by rw [h34]; exact hF.up rfl) (fun i a q => ?_) (by omega) (by omega)
    rw [h34]
    by_cases ci : i = v3
    · rw [ci, up2_s, e32]
      exact hF 8 v3 (by omega)
    · rw [up2_j ci]; exact hs i a (by omega)
theorem gX12_avenue_L155C {Q : Int → Mem → Prop} {b v1 : Int} {M0 : Mem} (hv1 : 0 ≤ v1 ∧ v1 ≤ 30) (hQ : ∀ M' : Mem, IM b M' → FrJ (fun k _ => k = 29) M0 M' → (∀ i, 0 ≤ i → i < 3 → M' 29 i = 0) → Q v1 M') : ∀ (n : Nat) (v3 : Int) (M : Mem), IM b M → FrJ (fun k _ => k = 29) M0 M → (∀ i, 0 ≤ i → i < v3 → M 29 i = 0) → (0 ≤ v3 ∧ v3 ≤ 3) → 3 - v3 < (n : Int) → qX12_avenue_L155 Q n v1 v3 M := by
  intro n
  induction n with
  | zero => intro v3 M hI hF hs hv hm; exact absurd hm (by omega)
  | succ n ih =>
    intro v3 M hI hF hs hv hm
    rw [qX12_avenue_L155]
    refine ⟨⟨by omega, by omega⟩, ⟨fun c => ⟨⟨by omega, by omega⟩, hQ M hI hF (fun i a q => hs i a (by omega))⟩, fun c => ⟨by omega, by omega, ?_⟩⟩⟩
    intro M46 h46
    refine ih _ M46 (by rw [h46]; exact hI.up (by omega) (by simp [BM])) (by rw [h46]; exact hF.up rfl) (fun i a q => ?_) (by omega) (by omega)
    rw [h46]
    by_cases ci : i = v3
    · rw [ci, up2_s]
    · rw [up2_j ci]; exact hs i a (by omega)
abbrev kAw (k : Nat) (j : Int) : Prop := k = 2 ∨ k = 5 ∨ k = 8 ∨ k = 29 ∨ (k = 1 ∧ (j = 0 ∨ j = 3 ∨ j = 4 ∨ j = 5 ∨ j = 14 ∨ j = 15 ∨ j = 16 ∨ j = 17 ∨ j = 28))
theorem gX12_avenueC {b : Int} {M : Mem} {Q : Int → Mem → Prop} (hI : IM b M) (hb : b + 1 ≤ 2000000000) (hQ : ∀ (q : Int) (M' : Mem), IM (b + 1) M' → AV (M 7) (M 1 14) q → M' 1 14 = 0 → (q = M 1 14 ∧ 4 ≤ q → FrJ kAw M M' ∧ M' 1 3 = M 1 14 ∧ (∀ i, 0 ≤ i → i < M 1 14 → (M' 2 i = 0 ↔ M 7 i ≠ 99)) ∧ M' 1 4 = 0 ∧ M' 1 5 = 0 ∧ M' 5 = up (up (M 5) 12 0) 37 0 ∧ M' 1 28 = 0 ∧ (∀ i, 0 ≤ i → i < 3 → M' 29 i = 0)) → (¬ (q = M 1 14 ∧ 4 ≤ q) → FrJ (fun k j => k = 8 ∨ (k = 1 ∧ (j = 0 ∨ j = 14 ∨ j = 15 ∨ j = 16 ∨ j = 17))) M M') → Q (avz (M 1 14) q) M') : qX12_avenue M Q := by
  have bL := bm_c1_14.mp (hI.bx 1 14)
  have hbn := hI.nn
  unfold qX12_avenue
  intro M1 h1
  have i1 : IM b M1 := by rw [h1]; exact hI.up (by omega) (by simp [BM])
  have l1 : M1 1 14 = M 1 14 := by rw [h1, up2_j (by decide)]
  have F1 : FrJ (fun k j => k = 8 ∨ (k = 1 ∧ (j = 0 ∨ j = 14 ∨ j = 15 ∨ j = 16 ∨ j = 17))) M M1 := by rw [h1]; exact FrJ.rf.up (by omega)
  refine gX12_begins (p1 := 80) i1 (by omega) ?_
  intro M2 i2 f2 a15 a16 _ a14 _
  rw [l1] at a16
  have F2 : FrJ (fun k j => k = 8 ∨ (k = 1 ∧ (j = 0 ∨ j = 14 ∨ j = 15 ∨ j = 16 ∨ j = 17))) M M2 := F1.tr (f2.mono (by intro k j h; omega))
  have g7 : ∀ j, M2 7 j = M 7 j := fun j => F2 7 j (by omega)
  have e7 : M2 7 = M 7 := funext g7
  refine ⟨32, gX12_avenue_L16C (b := b) (M0 := M2) (len := M 1 14) bL ?_ _ _ _ _ i2 FrJ.rf (fun i a w => by omega) (fun j => rfl) a15 (by omega) (by omega) (fun i a w => by omega) (Or.inl rfl) (by omega)⟩
  · intro q M' i' f' hq k15 k16 h8
    rw [e7] at hq h8
    have hb' := hq.1
    have F' : FrJ (fun k j => k = 8 ∨ (k = 1 ∧ (j = 0 ∨ j = 14 ∨ j = 15 ∨ j = 16 ∨ j = 17))) M M' := F2.tr (f'.mono (by intro k j h; omega))
    have m14 : M' 1 14 = 0 := by rw [f' 1 14 (by omega)]; exact a14
    have BAD : ¬ (q = M 1 14 ∧ 4 ≤ q) → Q (-1 - q) M' := by
      intro hn
      have := hQ q M' (i'.mono (by omega)) hq m14 (fun w => absurd w hn) (fun _ => F')
      unfold avz at this
      rw [if_neg hn] at this
      exact this
    show qX12_avenue_J69 Q q M'
    unfold qX12_avenue_J69
    refine ⟨⟨by omega, by omega⟩, ⟨fun c => ?_, fun c => ?_⟩⟩
    · intro x21 e21 _
      refine ⟨⟨by omega, by omega⟩, ?_⟩
      rw [show x21 = q from by omega]
      exact BAD (by omega)
    · intro x23 e23 _ x24 e24 _
      refine ⟨fun c2 => ?_, fun c2 => ?_⟩
      · intro M26 h26
        have i26 : IM (b + 1) M26 := by rw [h26]; exact (i'.mono (by omega)).up (by omega) (bm_c1_3.mpr ⟨by omega, by omega⟩)
        refine ⟨31, gX12_avenue_L99C (b := b + 1) (M0 := M26) (by omega) ?_ _ _ _ i26 FrJ.rf (fun i a w => by omega) (by omega) (by omega)⟩
        intro M35 i35 f35 c35 M36 h36 M37 h37 M38 h38 M39 h39 M40 h40
        have i36 : IM (b + 1) M36 := by rw [h36]; exact i35.up (by omega) (bm_c1_4.mpr (by decide))
        have i37 : IM (b + 1) M37 := by rw [h37]; exact i36.up (by omega) (bm_c1_5.mpr (by decide))
        have i38 : IM (b + 1) M38 := by rw [h38]; exact i37.up (by omega) ((bm_n (Or.inl rfl)).mpr ⟨by omega, by omega, by omega, by omega⟩)
        have i39 : IM (b + 1) M39 := by rw [h39]; exact i38.up (by omega) ((bm_n (Or.inl rfl)).mpr ⟨by omega, by omega, by omega, by omega⟩)
        have i40 : IM (b + 1) M40 := by rw [h40]; exact i39.up (by omega) (bm_c1_28.mpr (by decide))
        refine ⟨4, gX12_avenue_L155C (b := b + 1) (M0 := M40) (by omega) ?_ _ _ _ i40 FrJ.rf (fun i a w => by omega) (by omega) (by omega)⟩
        intro M'' i'' f'' z''
        have G : ∀ (k : Nat) (j : Int), k ≠ 29 → M'' k j = M40 k j := fun k j h => f'' k j h
        have F40 : FrJ kAw M M40 := by
          rw [h40, h39, h38, h37, h36]
          have u26 : FrJ kAw M M26 := by rw [h26]; exact (F'.mono (by intro k j h; omega)).up (by omega)
          exact (((((u26.tr (f35.mono (by intro k j h; omega))).up (by omega)).up (by omega)).up (by omega)).up (by omega)).up (by omega)
        have g5 : M35 5 = M 5 := by
          funext j
          rw [f35 5 j (by omega), h26, up2_n (by decide)]
          exact F' 5 j (by omega)
        have := hQ q M'' i'' hq ?_ (fun _ => ⟨F40.tr (f''.mono (by intro k j h; omega)), ?_, fun i a w => ?_, ?_, ?_, ?_, ?_, z''⟩) (fun w => absurd ⟨by omega, by omega⟩ w)
        · unfold avz at this
          rw [if_pos ⟨by omega, by omega⟩] at this
          exact this
        · rw [G 1 14 (by decide), h40, up2_j (by decide), h39, up2_n (by decide), h38, up2_n (by decide), h37, up2_j (by decide), h36, up2_j (by decide), f35 1 14 (by omega), h26, up2_j (by decide)]
          exact m14
        · rw [G 1 3 (by decide), h40, up2_j (by decide), h39, up2_n (by decide), h38, up2_n (by decide), h37, up2_j (by decide), h36, up2_j (by decide), f35 1 3 (by omega), h26, up2_s]
          omega
        · rw [G 2 i (by decide), h40, up2_n (by decide), h39, up2_n (by decide), h38, up2_n (by decide), h37, up2_n (by decide), h36, up2_n (by decide), c35 i a (by omega), h26, up2_n (by decide)]
          exact h8 i a (by omega)
        · rw [G 1 4 (by decide), h40, up2_j (by decide), h39, up2_n (by decide), h38, up2_n (by decide), h37, up2_j (by decide), h36, up2_s]
        · rw [G 1 5 (by decide), h40, up2_j (by decide), h39, up2_n (by decide), h38, up2_n (by decide), h37, up2_s]
        · have e : M'' 5 = M40 5 := funext fun j => G 5 j (by decide)
          rw [e, h40, up2_n (by decide), h39, up2_up, h38, up2_up, h37, up2_n (by decide), h36, up2_n (by decide), g5]
        · rw [G 1 28 (by decide), h40, up2_s]
      · intro x48 e48 _
        refine ⟨⟨by omega, by omega⟩, ?_⟩
        rw [show x48 = q from by omega]
        exact BAD (by omega)
/-- the street is told anew -/
theorem STA.avenue {E E' MX MM MX' MM' : Mem} {len : Int} {f : Int → Int} (h : STA E MX MM) (hI : IX MX) (hl : 4 ≤ len ∧ len ≤ 30) (e3 : E' 1 3 = len) (e4 : E' 1 4 = 0) (e5 : E' 1 5 = 0) (e7 : E' 1 7 = E 1 7) (e24 : E' 1 24 = E 1 24) (r2 : ∀ i, 0 ≤ i → i < len → (E' 2 i = 0 ↔ f i ≠ 99)) (r3 : E' 3 = E 3) (r4 : E' 4 = E 4) (r11 : E' 11 = E 11) (kx : Ks kAv MX MX') (x1 : MX' 158 1 = len) (x2 : ∀ c : Nat, c < 32 → (bt (iI (MX' 158 2)) c = true ↔ (c : Int) < len ∧ f c = 99)) (x3 : MX' 163 2 = 0) (x4 : ∀ i, 0 ≤ i → i < 3 → MX' 166 i = 0) (c6 : MX' 1 6 = 0) (c7 : MX' 1 7 = 0) (c8 : MX' 1 8 = 0) (c9 : MX' 1 9 = 0) (c10 : MX' 1 10 = 0) (m5 : MM' 5 = up (up (MM 5) 12 0) 37 0) (m28 : MM' 1 28 = 0) (m29 : ∀ i, 0 ≤ i → i < 3 → MM' 29 i = 0) : STA E' MX' MM' := by
  obtain ⟨a, b, c, d, e, g⟩ := h
  have oE : eO E' = 0 := by show (E' 1 5).toNat = 0; rw [e5]; rfl
  have hE' : eH E' = 0 := by show (E' 1 4).toNat = 0; rw [e4]; rfl
  refine ⟨?_, ?_, ?_, ?_, HIS.nil x3 m28, fun i p q => ⟨by rw [x4 i p q, m29 i p q], fun w => absurd (x4 i p q) w⟩⟩
  · obtain ⟨a1, a2, a3, a4, a5, a6, a7, a8, a9⟩ := a
    refine ⟨by rw [x1, e3], by rw [e3]; exact hl, fun cc hc => ?_, ?_, by rw [e7]; exact a5, fun j p q => ?_, by rw [e4]; decide, by rw [e5]; decide, fun m p q => by rw [e5] at q; omega⟩
    · rw [e3] at hc
      rw [x2 cc (by omega), show (E' 2 cc ≠ 0) = ¬ (E' 2 cc = 0) from rfl, r2 cc (by omega) hc]
      constructor
      · intro w u
        exact u w.2
      · intro w
        refine ⟨hc, ?_⟩
        by_cases u : f cc = 99
        · exact u
        · exact absurd u w
    · rw [kx 158 3 (by omega), e7]
      exact a4
    · rw [e7] at q
      rw [r4, kx 159 j (by omega)]
      exact a6 j p q
  · have b' := b.kx (MX' := MX') hI (kx _ _ (by omega)) (fun k j q => kx k j (by omega))
    unfold LAW at b' ⊢
    rw [e24, r11]
    exact b'
  · obtain ⟨a1, a2, a3, a4, a5, a6, a7, a8, a9, a10, a11⟩ := c
    rw [m5]
    refine ⟨by rw [c6, e4], by rw [c7, e5], fun j p q => ?_, fun j p q => ?_, ?_, fun j p q => ?_, fun j p q => ?_, fun j p q => ?_, fun j p q => ?_, ?_, ?_⟩
    · rw [kx _ j (by omega), up_j (by omega), up_j (by omega)]; exact a3 j p q
    · rw [kx _ j (by omega), up_j (by omega), up_j (by omega)]; exact a4 j p q
    · rw [c8, up_j (by decide), upS]
    · rw [kx _ j (by omega), up_j (by omega), up_j (by omega)]; exact a6 j p q
    · rw [kx _ j (by omega), r3]; exact a7 j p q
    · rw [kx _ j (by omega), up_j (by omega), up_j (by omega)]; exact a8 j p q
    · rw [kx _ j (by omega), up_j (by omega), up_j (by omega)]; exact a9 j p q
    · rw [c10, upS]
    · rw [c9, oE]
      rfl
  · rw [m5]
    refine ⟨fun i j i0 i1 => by rw [e4] at i1; omega, fun i i0 i1 => by rw [e4] at i1; omega, fun i i0 i1 => by rw [e5] at i1; omega, ?_, by rw [upS]; decide⟩
    rw [up_j (by decide), upS, hE']
    rfl
end
section
/-! WEATHER: what is written -/
theorem gX8_takeWeather_L10 {Q : Mem → Prop} {M0 : Mem} (hl : M0 158 3 = M0 156 1 ∧ M0 158 3 ≤ 20) (hQ : ∀ M' : Mem, IX M' → Ks (fun k _ => k = 159) M0 M' → (∀ i, 0 ≤ i → i < M0 158 3 → M' 159 i = M0 157 i - 48) → Q M') : ∀ (n : Nat) (v2 : Int) (M : Mem), IX M → Ks (fun k _ => k = 159) M0 M → (∀ i, 0 ≤ i → i < v2 → M 159 i = M0 157 i - 48) → (0 ≤ v2 ∧ v2 ≤ M0 158 3) → M0 158 3 - v2 < (n : Int) → qX8_takeWeather_L10 Q n v2 M := by
  intro n
  induction n with
  | zero => intro v2 M hI hK hs hv hm; exact absurd hm (by omega)
  | succ n ih =>
    intro v2 M hI hK hs hv hm
    have g3 : M 158 3 = M0 158 3 := hK 158 3 (by omega)
    have g1 : M 156 1 = M0 156 1 := hK 156 1 (by omega)
    rw [qX8_takeWeather_L10]
    intro x3 e3 _
    refine ⟨⟨by omega, by omega⟩, ⟨fun c => hQ M hI hK (fun i a q => hs i a (by omega)), fun c => ?_⟩⟩
    unfold qX9_signAt
    refine ⟨fun c2 => by omega, fun _ => ?_⟩
    intro x2 e2 _
    refine ⟨fun c3 => by omega, fun _ => ⟨by omega, by omega, ?_⟩⟩
    intro x6 e6 _ _
    have b6 : 0 ≤ x6 ∧ x6 ≤ 255 := by rw [e6]; exact bx_c157.mp (hI.bx _ _)
    have f6 : x6 = M0 157 v2 := by rw [e6]; exact hK 157 v2 (by omega)
    refine ⟨by omega, by omega, ⟨by omega, by omega⟩, ?_⟩
    intro M10 h10
    refine ih _ M10 (by rw [h10]; exact hI.up (by decide) (by simp [BX])) (by rw [h10]; exact hK.wr rfl) (fun i a q => ?_) (by omega) (by omega)
    rw [h10]
    by_cases ci : i = v2
    · rw [ci, up2_s, f6]
    · rw [up2_j ci]; exact hs i a (by omega)
theorem gX8_takeWeather {M : Mem} {Q : Mem → Prop} (hI : IX M) (hl : 0 ≤ M 156 1 ∧ M 156 1 ≤ 20) (hQ : ∀ M' : Mem, IX M' → Ks (fun k j => k = 159 ∨ (k = 158 ∧ j = 3)) M M' → M' 158 3 = M 156 1 → (∀ i, 0 ≤ i → i < M 156 1 → M' 159 i = M 157 i - 48) → Q M') : qX8_takeWeather M Q := by
  unfold qX8_takeWeather
  intro x1 e1 _ M2 h2
  have i2 : IX M2 := by rw [h2]; exact hI.up (by decide) (bx_c158_3.mpr ⟨by omega, by omega⟩)
  have K2 : Ks (fun k j => k = 159 ∨ (k = 158 ∧ j = 3)) M M2 := by rw [h2]; exact Ks.rf.wr (Or.inr ⟨rfl, rfl⟩)
  have g3 : M2 158 3 = M 156 1 := by rw [h2, up2_s, e1]
  have g1 : M2 156 1 = M 156 1 := K2 156 1 (by omega)
  have g157 : M2 157 = M 157 := funext fun j => K2 157 j (by omega)
  refine ⟨21, gX8_takeWeather_L10 (M0 := M2) ⟨by omega, by omega⟩ ?_ _ _ _ i2 Ks.rf (fun i a q => by omega) (by omega) (by omega)⟩
  intro M' i' k' b'
  rw [g3, g157] at b'
  exact hQ M' i' (K2.tr (k'.mono (fun k j h => Or.inl h))) (by rw [k' 158 3 (by omega)]; exact g3) b'
theorem gX11_weatherC {M : Mem} {Q : Int → Mem → Prop} (hI : IX M) (hQ : ∀ (q : Int) (M' : Mem), IX M' → WV (M 157) (M 156 1) q → M' 156 1 = 0 → (q = M 156 1 ∧ 1 ≤ q → Ks (fun k j => k = 156 ∨ k = 159 ∨ (k = 158 ∧ j = 3)) M M' ∧ M' 158 3 = M 156 1 ∧ ∀ i, 0 ≤ i → i < M 156 1 → M' 159 i = M 157 i - 48) → (¬ (q = M 156 1 ∧ 1 ≤ q) → Ks (fun k j => k = 156 ∧ j = 1) M M') → Q (wvz (M 156 1) q) M') : qX11_weather M Q := by
  have bL := bx_c156_1.mp (hI.bx 156 1)
  have J29b : ∀ (q x2 : Int), WV (M 157) (M 156 1) q → ¬ (q = M 156 1 ∧ 1 ≤ q) → qX11_weather_J29 Q q x2 M := by
    intro q x2 hq hn
    have b := hq.1
    unfold qX11_weather_J29 qX9_clear
    intro M4 h4
    have i4 : IX M4 := by rw [h4]; exact hI.up (by decide) (bx_c156_1.mpr (by decide))
    refine ⟨⟨by omega, by omega⟩, ⟨fun c => ⟨⟨by omega, by omega⟩, ?_⟩, fun c => by omega⟩⟩
    have := hQ q M4 i4 hq (by rw [h4, up2_s]) (fun w => absurd w hn) (fun _ => by rw [h4]; exact Ks.rf.wr ⟨rfl, rfl⟩)
    unfold wvz at this
    rw [if_neg hn] at this
    exact this
  unfold qX11_weather qX11_weatherFault
  refine ⟨21, gX11_weatherFault_L2 hI ?_ ?_ _ _ (by omega) (fun i a q => by omega) (by omega)⟩
  · intro hq
    have b := hq.1
    unfold qX9_isEmpty
    intro x9 e9 _
    refine ⟨fun c => ?_, fun c => ?_⟩
    · intro _ _
      refine ⟨fun _ => ?_, fun h => absurd rfl h⟩
      intro _ x2 e2 _
      refine ⟨fun h => absurd rfl h, fun _ => ?_⟩
      refine gX8_takeWeather hI (by omega) ?_
      intro M9 i9 k9 a9 b9
      unfold qX11_weather_J29 qX9_clear
      intro M4 h4
      have i4 : IX M4 := by rw [h4]; exact i9.up (by decide) (bx_c156_1.mpr (by decide))
      refine ⟨⟨by decide, by decide⟩, ⟨fun h => absurd rfl h, fun _ => ⟨⟨by omega, by omega⟩, ?_⟩⟩⟩
      have := hQ _ M4 i4 hq (by rw [h4, up2_s]) (fun _ => ⟨?_, by rw [h4, up2_n (by decide)]; exact a9, fun i a q => by rw [h4, up2_n (by decide)]; exact b9 i a q⟩) (fun w => absurd ⟨rfl, by omega⟩ w)
      · unfold wvz at this
        rw [if_pos ⟨rfl, by omega⟩] at this
        rw [e2]
        exact this
      · rw [h4]
        exact (k9.mono (by intro k j h; omega)).wr (by omega)
    · intro _ _
      refine ⟨fun h => absurd h (by decide), fun _ => ?_⟩
      intro _ x2 e2 _
      refine ⟨fun h => J29b _ _ (by rw [show (0 : Int) = M 156 1 from by omega]; exact hq) (by omega), fun h => absurd h (by decide)⟩
  · intro q hl hq
    have b := hq.1
    intro _ x2 e2 _
    exact ⟨fun h => J29b _ _ hq (by omega), fun h => by omega⟩
abbrev kLw (k : Nat) (j : Int) : Prop := k = 10 ∨ (k = 1 ∧ j = 15)
theorem gX12_weather_L14C {X44 : Int → Mem → Prop} {Q : Int → Mem → Prop} {b : Int} {M0 : Mem} {len : Int} (hl : 0 ≤ len ∧ len ≤ 80) (hX : ∀ (q : Int) (M' : Mem), IM b M' → FrJ kLw M0 M' → WV (M0 7) len q → M' 1 15 = q → M' 1 16 = len → (∀ i, 0 ≤ i → i < q → M' 10 i = M0 7 i - 48) → X44 q M') : ∀ (n : Nat) (v1 : Int) (M : Mem), IM b M → FrJ kLw M0 M → (∀ i, 0 ≤ i → i < v1 → M 10 i = M0 7 i - 48) → (∀ j, M 7 j = M0 7 j) → M 1 15 = v1 → M 1 16 = len → (0 ≤ v1 ∧ v1 ≤ 20 ∧ v1 ≤ len) → (∀ i, 0 ≤ i → i < v1 → vW (M0 7 i)) → 20 - v1 < (n : Int) → qX12_weather_L14 X44 Q n v1 M := by
  intro n
  induction n with
  | zero => intro v1 M hI hF h10 h7 h15 h16 hv ha hm; exact absurd hm (by omega)
  | succ n ih =>
    intro v1 M hI hF h10 h7 h15 h16 hv ha hm
    rw [qX12_weather_L14]
    refine ⟨⟨by omega, by omega⟩, ⟨fun c => hX _ _ hI hF ⟨by omega, ha, Or.inr (Or.inl (by omega))⟩ h15 h16 h10, fun c => ?_⟩⟩
    refine sX12_isDigit hI ?_
    intro x5 p5 _ _
    have e7 : M 7 (M 1 15) = M0 7 v1 := by rw [h15, h7]
    rw [e7, h15, h16] at p5
    refine ⟨fun c2 => hX _ _ hI hF ⟨by omega, ha, ?_⟩ h15 h16 h10, fun c2 => ?_⟩
    · by_cases cl : v1 = len
      · exact Or.inl cl
      · refine Or.inr (Or.inr (fun w => p5.2.1 c2 ⟨by omega, by omega, w.1, w.2⟩))
    · have d5 := p5.1 (by omega)
      refine gX12_number (p1 := 1) hI (by omega) ?_
      intro x7 M7 i7 f7 p7 _
      refine ⟨by omega, by omega, ?_⟩
      intro M10 hE
      have i10 : IM b M10 := by rw [hE]; exact i7.up (by omega) (by simp [BM])
      have z7 : x7 = M0 7 v1 - 48 := by
        rcases p7 with ⟨_, _, w⟩ | ⟨k, hk, _, _, _, _, w⟩
        · exact absurd ⟨by omega, by rw [h15, h7]; exact ⟨d5.2.2.1, d5.2.2.2⟩⟩ w
        · have k1 : k = 1 := by omega
          rw [w, k1, h15]
          show 10 * 0 + M 7 (v1 + ((0 : Nat) : Int)) - 48 = M0 7 v1 - 48
          rw [h7, show v1 + ((0 : Nat) : Int) = v1 from by omega]
          omega
      have F10 : FrJ kLw M0 M10 := by rw [hE]; exact (hF.tr (f7.mono (fun k j h => Or.inr h))).up (Or.inl rfl)
      have a7 : M7 1 15 = v1 + 1 := by
        rcases p7 with ⟨_, _, w⟩ | ⟨k, hk, w, _⟩
        · exact absurd ⟨by omega, by rw [h15, h7]; exact ⟨d5.2.2.1, d5.2.2.2⟩⟩ w
        · omega
      refine ih _ _ i10 F10 (fun i a q => ?_) (fun j => by rw [hE, up2_n (by decide), f7 7 j (by omega), h7]) (by rw [hE, up2_n (by decide), a7]) (by rw [hE, up2_n (by decide), f7 1 16 (by omega), h16]) (by omega) (fun i a q => ?_) (by omega)
      · rw [hE]
        by_cases ci : i = v1
        · rw [ci, up2_s, z7]
        · rw [up2_j ci, f7 10 i (by omega)]; exact h10 i a (by omega)
      by_cases ci : i = v1
      · rw [ci]; exact ⟨d5.2.2.1, d5.2.2.2⟩
      · exact ha i a (by omega)
theorem gX12_weather_L73C {Q : Int → Mem → Prop} {b v1 : Int} {M0 : Mem} (hv1 : 1 ≤ v1 ∧ v1 ≤ 20) (hQ : ∀ M' : Mem, IM b M' → FrJ (fun k _ => k = 4) M0 M' → (∀ i, 0 ≤ i → i < v1 → M' 4 i = M0 10 i) → Q v1 M') : ∀ (n : Nat) (v2 : Int) (M : Mem), IM b M → FrJ (fun k _ => k = 4) M0 M → (∀ i, 0 ≤ i → i < v2 → M 4 i = M0 10 i) → (0 ≤ v2 ∧ v2 ≤ v1) → 20 - v2 < (n : Int) → qX12_weather_L73 Q n v1 v2 M := by
  intro n
  induction n with
  | zero => intro v2 M hI hF hs hv hm; exact absurd hm (by omega)
  | succ n ih =>
    intro v2 M hI hF hs hv hm
    rw [qX12_weather_L73]
    refine ⟨⟨by omega, by omega⟩, ⟨by omega, by omega⟩, ⟨fun c => hQ M hI hF (fun i a q => hs i a (by omega)), fun c => ⟨by omega, by omega, ?_⟩⟩⟩
    intro x25 e25 _ M26 h26
    refine ih _ M26 (by rw [h26]; exact hI.up (by omega) (by simp [BM])) (by rw [h26]; exact hF.up rfl) (fun i a q => ?_) (by omega) (by omega)
    rw [h26]
    by_cases ci : i = v2
    · rw [ci, up2_s, e25]
      exact hF 10 v2 (by omega)
    · rw [up2_j ci]; exact hs i a (by omega)
theorem gX12_weatherC {b : Int} {M : Mem} {Q : Int → Mem → Prop} (hI : IM b M) (hQ : ∀ (q : Int) (M' : Mem), IM b M' → WV (M 7) (M 1 14) q → M' 1 14 = 0 → (q = M 1 14 ∧ 1 ≤ q → FrJ (fun k j => k = 4 ∨ k = 10 ∨ (k = 1 ∧ (j = 0 ∨ j = 7 ∨ j = 14 ∨ j = 15 ∨ j = 16 ∨ j = 17))) M M' ∧ M' 1 7 = M 1 14 ∧ ∀ i, 0 ≤ i → i < M 1 14 → M' 4 i = M 7 i - 48) → (¬ (q = M 1 14 ∧ 1 ≤ q) → FrJ (fun k j => k = 10 ∨ (k = 1 ∧ (j = 0 ∨ j = 14 ∨ j = 15 ∨ j = 16 ∨ j = 17))) M M') → Q (wvz (M 1 14) q) M') : qX12_weather M Q := by
  have bL := bm_c1_14.mp (hI.bx 1 14)
  unfold qX12_weather
  intro M1 h1
  have i1 : IM b M1 := by rw [h1]; exact hI.up (by omega) (by simp [BM])
  have l1 : M1 1 14 = M 1 14 := by rw [h1, up2_j (by decide)]
  have F1 : FrJ (fun k j => k = 10 ∨ (k = 1 ∧ (j = 0 ∨ j = 14 ∨ j = 15 ∨ j = 16 ∨ j = 17))) M M1 := by rw [h1]; exact FrJ.rf.up (by omega)
  refine gX12_begins (p1 := 80) i1 (by omega) ?_
  intro M2 i2 f2 a15 a16 _ a14 _
  rw [l1] at a16
  have F2 : FrJ (fun k j => k = 10 ∨ (k = 1 ∧ (j = 0 ∨ j = 14 ∨ j = 15 ∨ j = 16 ∨ j = 17))) M M2 := F1.tr (f2.mono (by intro k j h; omega))
  have e7 : M2 7 = M 7 := funext fun j => F2 7 j (by omega)
  refine ⟨21, gX12_weather_L14C (b := b) (M0 := M2) (len := M 1 14) bL ?_ _ _ _ i2 FrJ.rf (fun i a w => by omega) (fun j => rfl) a15 (by omega) (by omega) (fun i a q => by omega) (by omega)⟩
  intro q M' i' f' hq k15 k16 h10
  rw [e7] at hq h10
  have hb' := hq.1
  have F' : FrJ (fun k j => k = 10 ∨ (k = 1 ∧ (j = 0 ∨ j = 14 ∨ j = 15 ∨ j = 16 ∨ j = 17))) M M' := F2.tr (f'.mono (by intro k j h; omega))
  have m14 : M' 1 14 = 0 := by rw [f' 1 14 (by omega)]; exact a14
  have BAD : ¬ (q = M 1 14 ∧ 1 ≤ q) → Q (-1 - q) M' := by
    intro hn
    have := hQ q M' i' hq m14 (fun w => absurd w hn) (fun _ => F')
    unfold wvz at this
    rw [if_neg hn] at this
    exact this
  show qX12_weather_J44 Q q M'
  unfold qX12_weather_J44
  refine ⟨⟨by omega, by omega⟩, ⟨fun c => ?_, fun c => ?_⟩⟩
  · intro x14 e14 _
    refine ⟨⟨by omega, by omega⟩, ?_⟩
    rw [show x14 = q from by omega]
    exact BAD (by omega)
  · intro x16 e16 _ x17 e17 _
    refine ⟨fun c2 => ?_, fun c2 => ?_⟩
    · intro M19 h19
      have i19 : IM b M19 := by rw [h19]; exact i'.up (by omega) (bm_c1_7.mpr ⟨by omega, by omega⟩)
      refine ⟨21, gX12_weather_L73C (b := b) (M0 := M19) (by omega) ?_ _ _ _ i19 FrJ.rf (fun i a w => by omega) (by omega) (by omega)⟩
      intro M'' i'' f'' c''
      have F19 : FrJ (fun k j => k = 4 ∨ k = 10 ∨ (k = 1 ∧ (j = 0 ∨ j = 7 ∨ j = 14 ∨ j = 15 ∨ j = 16 ∨ j = 17))) M M19 := by rw [h19]; exact (F'.mono (by intro k j h; omega)).up (by omega)
      have := hQ q M'' i'' hq ?_ (fun _ => ⟨F19.tr (f''.mono (fun k j h => Or.inl h)), ?_, fun i a w => ?_⟩) (fun w => absurd ⟨by omega, by omega⟩ w)
      · unfold wvz at this
        rw [if_pos ⟨by omega, by omega⟩] at this
        exact this
      · rw [f'' 1 14 (by omega), h19, up2_j (by decide)]
        exact m14
      · rw [f'' 1 7 (by omega), h19, up2_s]
        omega
      · rw [c'' i a (by omega), h19, up2_n (by decide)]
        exact h10 i a (by omega)
    · intro x28 e28 _
      refine ⟨⟨by omega, by omega⟩, ?_⟩
      rw [show x28 = q from by omega]
      exact BAD (by omega)
/-- the weather is told anew -/
theorem STA.weather {E E' MX MM MX' MM' : Mem} {len : Int} {f : Int → Int} (h : STA E MX MM) (hE : EBx E) (hI : IX MX) (hl : 1 ≤ len ∧ len ≤ 20) (e : ∀ (k : Nat) (j : Int), k ≠ 4 → ¬ (k = 1 ∧ j = 7) → E' k j = E k j) (e7 : E' 1 7 = len) (r4 : ∀ i, 0 ≤ i → i < len → E' 4 i = f i - 48) (kx : Ks (fun k j => k = 156 ∨ k = 159 ∨ (k = 158 ∧ j = 3)) MX MX') (x3 : MX' 158 3 = len) (x159 : ∀ i, 0 ≤ i → i < len → MX' 159 i = f i - 48) (km : FrJ (fun k j => k = 4 ∨ k = 10 ∨ (k = 1 ∧ (j = 0 ∨ j = 7 ∨ j = 14 ∨ j = 15 ∨ j = 16 ∨ j = 17))) MM MM') : STA E' MX' MM' := by
  obtain ⟨a, b, c, d, g, k⟩ := h
  have e13 : E' 1 3 = E 1 3 := e 1 3 (by decide) (by omega)
  have e14 : E' 1 4 = E 1 4 := e 1 4 (by decide) (by omega)
  have e15 : E' 1 5 = E 1 5 := e 1 5 (by decide) (by omega)
  have e124 : E' 1 24 = E 1 24 := e 1 24 (by decide) (by omega)
  have r2 : E' 2 = E 2 := funext fun j => e 2 j (by decide) (by omega)
  have r3 : E' 3 = E 3 := funext fun j => e 3 j (by decide) (by omega)
  have r11 : E' 11 = E 11 := funext fun j => e 11 j (by decide) (by omega)
  have eo : eO E' = eO E := by show (E' 1 5).toNat = (E 1 5).toNat; rw [e15]
  have eh : eH E' = eH E := by show (E' 1 4).toNat = (E 1 4).toNat; rw [e14]
  have eg : eG E' = eG E := by show E' 1 3 - 1 = E 1 3 - 1; rw [e13]
  have SCe : ∀ (M : Mem) (k0 : Nat) (r : Int → Int), SC E M k0 r → SC E' M k0 r := by
    intro M k0 r h
    unfold SC at h ⊢
    rw [e14, e15, r3, eo]
    exact h
  have WRe : ∀ r : Int → Int, WR E r → WR E' r := by
    intro r h
    unfold WR at h ⊢
    rw [e14, e15, eg, eh]
    exact h
  have k5 : MM' 5 = MM 5 := funext fun j => km 5 j (by omega)
  refine ⟨?_, ?_, ?_, ?_, ?_, ?_⟩
  · obtain ⟨a1, a2, a3, a4, a5, a6, a7, a8, a9⟩ := a
    unfold STR
    rw [e13, e14, e15, e7, r2, r3, kx 158 1 (by omega), kx 158 2 (by omega)]
    exact ⟨a1, a2, a3, x3, hl, fun j p q => by rw [x159 j p q, r4 j p q], a7, a8, a9⟩
  · have b' := b.kx (MX' := MX') hI (kx _ _ (by omega)) (fun k j q => kx k j (by omega))
    unfold LAW at b' ⊢
    rw [e124, r11]
    exact b'
  · rw [k5]
    exact SCe _ _ _ (c.fr (fun t j ht => kx _ j (by omega)))
  · rw [k5]
    exact WRe _ d
  · have g' := g.fr (MX' := MX') (MM' := MM') hE (fun k j q => kx k j (by omega)) (km 1 28 (by omega)) (fun j _ _ => km 15 j (by omega)) (bx_c163_1.mp (hI.bx 163 1))
    exact ⟨g'.1, fun i p q => ⟨SCe _ _ _ (g'.2 i p q).1, WRe _ (g'.2 i p q).2⟩⟩
  · have k' := k.fr (MX' := MX') (MM' := MM') (fun k j q => kx k j (by omega)) (fun k j q => km k j (by omega))
    intro i p q
    obtain ⟨u, v⟩ := k' i p q
    rw [e14, e15]
    exact ⟨u, fun w => ⟨(v w).1, (v w).2.1, fun w2 => ⟨SCe _ _ _ ((v w).2.2.1 w2).1, WRe _ ((v w).2.2.1 w2).2⟩, (v w).2.2.2⟩⟩
end
section
/-! HOUR: acts -/
abbrev sgn (s : Int) : Prop := s = 110 ∨ s = 116 ∨ s = 112 ∨ s = 98 ∨ s = 120
abbrev dg1 (f : Int → Int) (t a : Int) : Prop := a + 1 < t ∧ 48 ≤ f (a + 1) ∧ f (a + 1) ≤ 57
abbrev dg2 (f : Int → Int) (t a : Int) : Prop := a + 2 < t ∧ (f a = 120 ∨ 49 ≤ f (a + 2)) ∧ 48 ≤ f (a + 2) ∧ f (a + 2) ≤ 57
/-- an act at a: whether it can stand, where reading is then, its sign and its numbers -/
def prA (f : Int → Int) (t a : Int) : Int × Int × Int × Int × Int := if ¬ (a < t ∧ sgn (f a)) then (0, a, 0, 0, 0) else if ¬ dg1 f t a then (0, a + 1, 0, 0, 0) else if f a = 110 ∨ f a = 116 then (1, a + 2, f a, f (a + 1) - 48, 0) else if ¬ dg2 f t a then (0, a + 2, 0, 0, 0) else (1, a + 3, f a, f (a + 1) - 48, f (a + 2) - 48)
theorem prA_0 {f : Int → Int} {t a : Int} (h : ¬ (a < t ∧ sgn (f a))) : prA f t a = (0, a, 0, 0, 0) := by unfold prA; rw [if_pos h]
theorem prA_1 {f : Int → Int} {t a : Int} (h : a < t ∧ sgn (f a)) (h1 : ¬ dg1 f t a) : prA f t a = (0, a + 1, 0, 0, 0) := by unfold prA; rw [if_neg (fun q => q h), if_pos h1]
theorem prA_2 {f : Int → Int} {t a : Int} (h : a < t ∧ sgn (f a)) (h1 : dg1 f t a) (h2 : f a = 110 ∨ f a = 116) : prA f t a = (1, a + 2, f a, f (a + 1) - 48, 0) := by unfold prA; rw [if_neg (fun q => q h), if_neg (fun q => q h1), if_pos h2]
theorem prA_3 {f : Int → Int} {t a : Int} (h : a < t ∧ sgn (f a)) (h1 : dg1 f t a) (h2 : ¬ (f a = 110 ∨ f a = 116)) (h3 : ¬ dg2 f t a) : prA f t a = (0, a + 2, 0, 0, 0) := by unfold prA; rw [if_neg (fun q => q h), if_neg (fun q => q h1), if_neg h2, if_pos h3]
theorem prA_4 {f : Int → Int} {t a : Int} (h : a < t ∧ sgn (f a)) (h1 : dg1 f t a) (h2 : ¬ (f a = 110 ∨ f a = 116)) (h3 : dg2 f t a) : prA f t a = (1, a + 3, f a, f (a + 1) - 48, f (a + 2) - 48) := by unfold prA; rw [if_neg (fun q => q h), if_neg (fun q => q h1), if_neg h2, if_neg (fun q => q h3)]
theorem prA_b {f : Int → Int} {t a : Int} (ha : a ≤ t) : (a ≤ (prA f t a).2.1 ∧ (prA f t a).2.1 ≤ t) ∧ ((prA f t a).1 = 0 ∨ (prA f t a).1 = 1 ∧ a + 2 ≤ (prA f t a).2.1) := by
  by_cases h : a < t ∧ sgn (f a)
  · by_cases h1 : dg1 f t a
    · by_cases h2 : f a = 110 ∨ f a = 116
      · rw [prA_2 h h1 h2]
        refine ⟨⟨?_, ?_⟩, Or.inr ⟨rfl, ?_⟩⟩
        · show a ≤ a + 2; omega
        · show a + 2 ≤ t
          have := h1.1
          omega
        · show a + 2 ≤ a + 2; omega
      · by_cases h3 : dg2 f t a
        · rw [prA_4 h h1 h2 h3]
          refine ⟨⟨?_, ?_⟩, Or.inr ⟨rfl, ?_⟩⟩
          · show a ≤ a + 3; omega
          · show a + 3 ≤ t
            have := h3.1
            omega
          · show a + 2 ≤ a + 3; omega
        · rw [prA_3 h h1 h2 h3]
          refine ⟨⟨?_, ?_⟩, Or.inl rfl⟩
          · show a ≤ a + 2; omega
          · show a + 2 ≤ t
            have := h1.1
            omega
    · rw [prA_1 h h1]
      refine ⟨⟨?_, ?_⟩, Or.inl rfl⟩
      · show a ≤ a + 1; omega
      · show a + 1 ≤ t
        have := h.1
        omega
  · rw [prA_0 h]
    exact ⟨⟨Int.le_refl _, ha⟩, Or.inl rfl⟩
theorem gX11_passAct {M : Mem} {Q : Int → Mem → Prop} (hI : IX M) (hQ : ∀ M' : Mem, IX M' → Ks kA M M' → M' 156 2 = (prA (M 157) (M 156 3) (M 156 2)).2.1 → Q (prA (M 157) (M 156 3) (M 156 2)).1 M') : qX11_passAct M Q := by
  unfold qX11_passAct
  refine gX9_look hI ?_
  intro x1 p1 _
  have NO : ¬ (M 156 2 < M 156 3 ∧ sgn (M 157 (M 156 2))) → Q 0 M := by
    intro h
    have := hQ M hI Ks.rf
    rw [prA_0 h] at this
    exact this rfl
  have J96 : ∀ M6 : Mem, IX M6 → Ks kA M M6 → M6 156 2 = M 156 2 + 2 → (M 156 2 < M 156 3 ∧ sgn (M 157 (M 156 2))) → dg1 (M 157) (M 156 3) (M 156 2) → ¬ (M 157 (M 156 2) = 110 ∨ M 157 (M 156 2) = 116) → (M 156 2 + 2 < M 156 3 → M 157 (M 156 2) = 120 ∨ M 157 (M 156 2 + 2) ≠ 48) → qX11_passAct_J96 Q M6 := by
    intro M6 i6 k6 a6 h h1 h2 h3
    have g157 : M6 157 = M 157 := funext fun j => k6 157 j (by omega)
    have g3 : M6 156 3 = M 156 3 := k6 156 3 (by omega)
    unfold qX11_passAct_J96
    refine gX9_digit i6 ?_
    intro x12 M12 i12 k12 p12 _
    rw [g157, g3, a6] at p12
    have K12 := k6.tr k12
    rcases p12 with ⟨⟨q0, q1, q2⟩, qz, qa⟩ | ⟨q0, qz, qa⟩
    · refine ⟨fun c => by omega, fun _ => ?_⟩
      have := hQ M12 i12 K12
      rw [prA_4 h h1 h2 ⟨q0, by have := h3 q0; omega, q1, q2⟩] at this
      exact this (by rw [qa]; show M 156 2 + 2 + 1 = M 156 2 + 3; omega)
    · refine ⟨fun _ => ?_, fun c => absurd qz c⟩
      have := hQ M12 i12 K12
      rw [prA_3 h h1 h2 (fun w => q0 ⟨w.1, w.2.2⟩)] at this
      exact this qa
  have J50 : ∀ v2 : Int, (M 156 2 < M 156 3 ∧ sgn (M 157 (M 156 2))) → (v2 = 1 ∧ (M 157 (M 156 2) = 112 ∨ M 157 (M 156 2) = 98) ∨ v2 = 0 ∧ (M 157 (M 156 2) = 110 ∨ M 157 (M 156 2) = 116 ∨ M 157 (M 156 2) = 120)) → x1 = M 157 (M 156 2) → qX11_passAct_J50 Q x1 v2 M := by
    intro v2 h hv ex
    unfold qX11_passAct_J50
    refine gX9_pass hI ?_
    intro M5 i5 k5 p5
    have a5 : M5 156 2 = M 156 2 + 1 := by rcases p5 with q | q <;> omega
    have g157 : M5 157 = M 157 := funext fun j => k5 157 j (by omega)
    have g3 : M5 156 3 = M 156 3 := k5 156 3 (by omega)
    refine gX9_digit i5 ?_
    intro x6 M6 i6 k6 p6 _
    rw [g157, g3, a5] at p6
    have K6 := k5.tr k6
    rcases p6 with ⟨q1, qz, qa⟩ | ⟨q0, qz, qa⟩
    · have h1 : dg1 (M 157) (M 156 3) (M 156 2) := ⟨q1.1, q1.2.1, q1.2.2⟩
      have q48 : 48 ≤ M 157 (M 156 2 + 1) := q1.2.1
      have a6 : M6 156 2 = M 156 2 + 2 := by omega
      have J86 : (M 156 2 + 2 < M 156 3 → v2 = 0 ∨ M 157 (M 156 2 + 2) ≠ 48) → qX11_passAct_J86 Q x1 v2 M6 := by
        intro h3
        unfold qX11_passAct_J86
        refine ⟨by rcases hv with q | q <;> rw [q.1] <;> exact ⟨by decide, by decide⟩, ⟨fun c => ?_, fun c => ⟨?_, ⟨fun c2 => ?_, fun c2 => ?_⟩⟩⟩⟩
        · exact J96 M6 i6 K6 a6 h h1 (by omega) (fun w => by have := h3 w; omega)
        · have := bx_c157.mp (hI.bx 157 (M 156 2))
          exact ⟨by omega, by omega⟩
        · have := hQ M6 i6 K6
          rw [prA_2 h h1 (by omega)] at this
          exact this a6
        · exact J96 M6 i6 K6 a6 h h1 (by omega) (fun w => Or.inl (by omega))
      refine ⟨fun c => by omega, fun _ => ⟨by rcases hv with q | q <;> rw [q.1] <;> exact ⟨by decide, by decide⟩, ⟨fun c => J86 (fun _ => Or.inl c), fun c => ?_⟩⟩⟩
      refine gX9_look i6 ?_
      intro x16 p16 _
      have g157' : M6 157 = M 157 := funext fun j => K6 157 j (by omega)
      have g3' : M6 156 3 = M 156 3 := K6 156 3 (by omega)
      rw [g157', g3', a6] at p16
      refine ⟨fun c2 => J86 (fun w => by omega), fun c2 => ?_⟩
      have := hQ M6 i6 K6
      rw [prA_3 h h1 (by omega) (fun w => by have := w.2.1; omega)] at this
      exact this a6
    · refine ⟨fun _ => ?_, fun c => absurd qz c⟩
      have := hQ M6 i6 K6
      rw [prA_1 h (fun w => q0 ⟨w.1, w.2.1, w.2.2⟩)] at this
      exact this (by rw [qa])
  have J25 : ∀ t0 : Int, (t0 = 1 ∧ (x1 = 112 ∨ x1 = 98) ∨ t0 = 0 ∧ x1 ≠ 112 ∧ x1 ≠ 98) → qX11_passAct_J25 Q x1 t0 M := by
    intro t0 ht
    unfold qX11_passAct_J25
    have b1 : -1 ≤ x1 ∧ x1 ≤ 255 := by
      have := bx_c157.mp (hI.bx 157 (M 156 2))
      rcases p1 with q | q <;> omega
    refine ⟨by rcases ht with q | q <;> rw [q.1] <;> exact ⟨by decide, by decide⟩, ⟨fun c => ?_, fun c => ⟨⟨by omega, by omega⟩, ⟨fun c2 => ?_, fun c2 => ⟨fun c3 => ?_, fun c3 => ⟨fun c4 => ?_, fun c4 => ?_⟩⟩⟩⟩⟩⟩
    · rcases p1 with q | q
      · exact J50 t0 ⟨q.1, by omega⟩ (by omega) q.2
      · omega
    · rcases p1 with q | q
      · exact J50 t0 ⟨q.1, by omega⟩ (by omega) q.2
      · omega
    · rcases p1 with q | q
      · exact J50 t0 ⟨q.1, by omega⟩ (by omega) q.2
      · omega
    · rcases p1 with q | q
      · exact J50 t0 ⟨q.1, by omega⟩ (by omega) q.2
      · omega
    · refine NO (fun w => ?_)
      have w1 := w.1
      have w2 := w.2
      rcases p1 with q | q
      · omega
      · omega
  unfold qX11_passAct_J20
  exact ⟨fun c => J25 1 (Or.inl ⟨rfl, Or.inl c⟩), fun c => ⟨fun c2 => J25 0 (Or.inr ⟨rfl, c, c2⟩), fun c2 => J25 1 (Or.inl ⟨rfl, Or.inr c2⟩)⟩⟩
/-- reading acts from a on: whether all can stand, where reading is then -/
def hrd (f : Int → Int) (t : Int) : Nat → Int → Int × Int
  | 0, a => (1, a)
  | n + 1, a => if t ≤ a then (1, a) else if (prA f t a).1 = 0 then (0, (prA f t a).2.1) else hrd f t n (prA f t a).2.1
theorem hrd_b {f : Int → Int} {t : Int} : ∀ (n : Nat) (a : Int), (0 ≤ a ∧ a ≤ t) → (0 ≤ (hrd f t n a).2 ∧ (hrd f t n a).2 ≤ t) ∧ ((hrd f t n a).1 = 0 ∨ (hrd f t n a).1 = 1) := by
  intro n
  induction n with
  | zero => intro a ha; exact ⟨ha, Or.inr rfl⟩
  | succ n ih =>
    intro a ha
    have b := prA_b (f := f) (t := t) ha.2
    unfold hrd
    split
    · exact ⟨ha, Or.inr rfl⟩
    · split
      · refine ⟨⟨?_, b.1.2⟩, Or.inl rfl⟩
        show 0 ≤ (prA f t a).2.1
        omega
      · exact ih _ ⟨by omega, b.1.2⟩
theorem gX11_hourFault_L11 {X48 : Mem → Prop} {Q : Int → Mem → Prop} {M0 : Mem} {T : Int × Int} (ht : M0 156 3 ≤ 60) (hX : T.1 = 1 → ∀ M' : Mem, IX M' → Ks kA M0 M' → M' 156 2 = T.2 → X48 M') (hQ : T.1 = 0 → ∀ M' : Mem, IX M' → Ks kA M0 M' → M' 156 2 = T.2 → Q T.2 M') : ∀ (n : Nat) (v1 : Int) (M : Mem), IX M → Ks kA M0 M → hrd (M0 157) (M0 156 3) n (M 156 2) = T → (0 ≤ M 156 2 ∧ M 156 2 ≤ M0 156 3) → (0 ≤ v1 ∧ 2 * v1 ≤ M 156 2) → M0 156 3 - M 156 2 ≤ 2 * n → qX11_hourFault_L11 X48 Q (n + 1) v1 M := by
  intro n
  induction n with
  | zero =>
    intro v1 M hI hK hT ha hv hn
    rw [qX11_hourFault_L11]
    refine ⟨⟨by omega, by omega⟩, ⟨fun c => by omega, fun _ => ?_⟩⟩
    unfold qX9_isRead
    intro x1 e1 _ x2 e2 _
    have e3 : M 156 3 = M0 156 3 := hK 156 3 (by omega)
    refine ⟨fun c => by omega, fun c => ?_⟩
    intro _ _
    refine ⟨fun _ => ?_, fun c2 => absurd c2 (by decide)⟩
    subst hT
    exact hX rfl M hI hK rfl
  | succ n ih =>
    intro v1 M hI hK hT ha hv hn
    have e157 : M 157 = M0 157 := funext fun j => hK 157 j (by omega)
    have e3 : M 156 3 = M0 156 3 := hK 156 3 (by omega)
    have b := prA_b (f := M0 157) (t := M0 156 3) ha.2
    rw [qX11_hourFault_L11]
    refine ⟨⟨by omega, by omega⟩, ⟨fun c => by omega, fun _ => ?_⟩⟩
    unfold qX9_isRead
    intro x1 e1 _ x2 e2 _
    unfold hrd at hT
    refine ⟨fun c => ?_, fun c => ?_⟩
    · intro _ _
      refine ⟨fun c2 => absurd rfl c2, fun _ => ?_⟩
      rw [if_neg (by omega)] at hT
      refine gX11_passAct hI ?_
      intro M6 i6 k6 a6 _ _
      rw [e157, e3] at a6 ⊢
      have K6 := hK.tr k6
      refine ⟨fun c3 => ?_, fun c3 => ?_⟩
      · rw [if_neg c3] at hT
        exact ih _ M6 i6 K6 (by rw [a6]; exact hT) (by omega) (by omega) (by omega)
      · rw [if_pos c3] at hT
        subst hT
        intro x8 e8 _
        rw [e8, a6]
        exact hQ rfl M6 i6 K6 a6
    · intro _ _
      refine ⟨fun _ => ?_, fun c2 => absurd c2 (by decide)⟩
      rw [if_pos (by omega)] at hT
      subst hT
      exact hX rfl M hI hK rfl
end
section
/-! HOUR: the reference reads acts -/
def sgX (s : Int) : Int := if s = 110 then 0 else if s = 116 then 1 else if s = 112 then 2 else if s = 98 then 3 else 4
theorem b8L : ((bS 8).length : Int) = 5 := rfl
theorem b8g : ∀ i : Nat, i < 5 → sgn ((bS 8).getD i 0) ∧ sgX ((bS 8).getD i 0) = i := by decide
theorem b8c (s : Int) (h : sgn s) : ∃ i : Nat, i < 5 ∧ (bS 8).getD i 0 = s := by
  rcases h with h | h | h | h | h
  · exact ⟨0, by decide, h.symm⟩
  · exact ⟨1, by decide, h.symm⟩
  · exact ⟨2, by decide, h.symm⟩
  · exact ⟨3, by decide, h.symm⟩
  · exact ⟨4, by decide, h.symm⟩
theorem gX12_digitIn {p1 p2 b : Int} {M : Mem} {Q : Int → Mem → Prop} (hI : IM b M) (hQ : ∀ (z : Int) (M' : Mem), IM b M' → FrJ (fun k j => k = 1 ∧ j = 15) M M' → ((M 1 15 < M 1 16 ∧ p1 ≤ M 7 (M 1 15) - 48 ∧ M 7 (M 1 15) - 48 ≤ p2) ∧ z = M 7 (M 1 15) - 48 ∧ M' 1 15 = M 1 15 + 1 ∨ ¬ (M 1 15 < M 1 16 ∧ p1 ≤ M 7 (M 1 15) - 48 ∧ M 7 (M 1 15) - 48 ≤ p2) ∧ z = -1 ∧ M' 1 15 = M 1 15) → Q z M') : qX12_digitIn p1 p2 M Q := by
  have b15 := bm_c1_15.mp (hI.bx 1 15)
  have b16 := bm_c1_16.mp (hI.bx 1 16)
  unfold qX12_digitIn
  intro x1 e1 _ x2 e2 _
  refine ⟨fun c => hQ _ M hI FrJ.rf (Or.inr ⟨by omega, rfl, rfl⟩), fun c => ?_⟩
  intro x4 e4 _
  refine ⟨by omega, by omega, ?_⟩
  intro x7 e7 _
  rw [e4] at e7
  have b7 : 0 ≤ x7 ∧ x7 ≤ 255 := by rw [e7]; exact bm_c7.mp (hI.bx _ _)
  refine ⟨⟨by omega, by omega⟩, ?_⟩
  refine sX12_in (p0 := x7 - 48) (p2 := p1) (p4 := p2) hI ?_
  intro z hz _ _
  refine ⟨fun d => ?_, fun d => ?_⟩
  · have hd := hz.2.1 (by rcases hz.1 with q | q <;> omega)
    intro x11 e11 _
    refine ⟨⟨by omega, by omega⟩, ?_⟩
    intro M13 h13 x14 e14 _
    have f14 : x14 = M 1 15 + 1 := by rw [e14, h13, up2_s, e11]
    refine ⟨by omega, by omega, ?_⟩
    intro x17 e17 _
    have f17 : x17 = x7 := by rw [e17, h13, up2_n (by decide), show x14 - 1 = M 1 15 from by omega, e7]
    refine ⟨⟨by omega, by omega⟩, ?_⟩
    refine hQ _ M13 (by rw [h13]; exact hI.up (by omega) (bm_c1_15.mpr ⟨by omega, by omega⟩)) (by rw [h13]; exact FrJ.rf.up ⟨rfl, rfl⟩) (Or.inl ⟨⟨by omega, by omega, by omega⟩, by omega, by rw [h13, up2_s, e11]⟩)
  · have hd := hz.2.2 d
    exact hQ _ M hI FrJ.rf (Or.inr ⟨by omega, rfl, rfl⟩)
abbrev kAc (k : Nat) (j : Int) : Prop := k = 19 ∨ k = 20 ∨ k = 21 ∨ (k = 1 ∧ (j = 15 ∨ j = 39))
/-- entry k of the acts is the act at a -/
def ENT (M : Mem) (k : Int) (P : Int × Int × Int × Int × Int) : Prop := M 19 k = sgX P.2.2.1 ∧ M 20 k = P.2.2.2.1 ∧ (¬ (P.2.2.1 = 110 ∨ P.2.2.1 = 116) → M 21 k = P.2.2.2.2)
theorem gX12_readsAct {b : Int} {M : Mem} {Q : Int → Mem → Prop} (hI : IM b M) (hk : M 1 39 ≤ 58) (ha : M 1 15 ≤ M 1 16) (hQ : ∀ M' : Mem, IM b M' → FrJ kAc M M' → M' 1 15 = (prA (M 7) (M 1 16) (M 1 15)).2.1 → (∀ (k : Nat) (j : Int), (k = 19 ∨ k = 20 ∨ k = 21) → 0 ≤ j → j < M 1 39 → M' k j = M k j) → M' 1 39 = M 1 39 + 1 → ((prA (M 7) (M 1 16) (M 1 15)).1 = 1 → ENT M' (M 1 39) (prA (M 7) (M 1 16) (M 1 15))) → Q (prA (M 7) (M 1 16) (M 1 15)).1 M') : qX12_readsAct M Q := by
  have b15 := bm_c1_15.mp (hI.bx 1 15)
  have b16 := bm_c1_16.mp (hI.bx 1 16)
  have b39 := bm_c1_39.mp (hI.bx 1 39)
  unfold qX12_readsAct
  intro x1 e1 _
  refine gX12_takesOf hI (by decide) ?_
  intro x2 M2 i2 f2 p2 _
  refine ⟨by omega, by omega, ?_⟩
  intro M5 h5 x6 e6 _
  have f6 : x6 = M 1 39 := by rw [e6, h5, up2_n (by decide)]; exact f2 1 39 (by omega)
  refine ⟨⟨by omega, by omega⟩, ?_⟩
  intro M8 h8 x9 e9 _
  have f9 : x9 = x2 := by rw [e9, h8, up2_n (by decide), h5, up2_s]
  have i5 : IM b M5 := by rw [h5]; exact i2.up (by omega) (by simp [BM])
  have i8 : IM b M8 := by rw [h8]; exact i5.up (by omega) (bm_c1_39.mpr ⟨by omega, by omega⟩)
  have F8 : FrJ kAc M M8 := by rw [h8, h5]; exact ((f2.mono (by intro k j h; omega)).up (by omega)).up (by omega)
  have o8 : ∀ (k : Nat) (j : Int), (k = 19 ∨ k = 20 ∨ k = 21) → 0 ≤ j → j < M 1 39 → M8 k j = M k j := by
    intro k j hk' h0 h1
    rw [h8, up2_n (by omega), h5]
    by_cases c : k = 19
    · rw [c, up2_j (by omega)]; exact f2 19 j (by omega)
    · rw [up2_n c]; exact f2 k j (by omega)
  have n8 : M8 1 39 = M 1 39 + 1 := by rw [h8, up2_s, f6]
  have s8 : M8 19 (M 1 39) = x2 := by rw [h8, up2_n (by decide), h5, e1, up2_s]
  have a8 : M8 1 15 = M2 1 15 := by rw [h8, up2_j (by decide), h5, up2_n (by decide)]
  have g7 : M8 7 = M 7 := funext fun j => F8 7 j (by omega)
  have g16 : M8 1 16 = M 1 16 := F8 1 16 (by omega)
  refine ⟨fun c => ?_, fun c => ?_⟩
  · rcases p2 with ⟨q1, q2, q3, q4⟩ | ⟨q1, _, _⟩
    · rw [b8L] at q2
      obtain ⟨u1, u2⟩ := b8g x2.toNat (by omega)
      rw [q3] at u1 u2
      have hs : M 1 15 < M 1 16 ∧ sgn (M 7 (M 1 15)) := ⟨q1, u1⟩
      have v2 : x2 = sgX (M 7 (M 1 15)) := by omega
      refine gX12_number (p1 := 1) i8 (by decide) ?_
      intro x11 M11 i11 f11 p11 r11 M12 h12
      rw [g7, g16, a8, q4] at p11
      have b11 := p11.b (by decide)
      have i12 : IM b M12 := by rw [h12]; exact i11.up (by omega) (bm_c20.mpr ⟨b11.1, b11.2.2.1 rfl⟩)
      have F12 : FrJ kAc M M12 := by rw [h12]; exact (F8.tr (f11.mono (by intro k j h; omega))).up (by omega)
      have o12 : ∀ (k : Nat) (j : Int), (k = 19 ∨ k = 20 ∨ k = 21) → 0 ≤ j → j < M 1 39 → M12 k j = M k j := by
        intro k j hk' h0 h1
        rw [h12]
        by_cases c2 : k = 20
        · rw [c2, up2_j (by omega), f11 20 j (by omega)]; exact o8 20 j (by omega) h0 h1
        · rw [up2_n c2, f11 k j (by omega)]; exact o8 k j hk' h0 h1
      have n12 : M12 1 39 = M 1 39 + 1 := by rw [h12, up2_n (by decide), f11 1 39 (by omega)]; exact n8
      have s12 : M12 19 (M 1 39) = x2 := by rw [h12, up2_n (by decide), f11 19 _ (by omega)]; exact s8
      have d12 : M12 20 (M 1 39) = x11 := by rw [h12, e1, up2_s]
      have a12 : M12 1 15 = M11 1 15 := by rw [h12, up2_n (by decide)]
      have j7 : M12 7 = M 7 := funext fun j => F12 7 j (by omega)
      have j16 : M12 1 16 = M 1 16 := F12 1 16 (by omega)
      intro x13 e13 _
      have f13 : x13 = x11 := by rw [e13, e1]; exact d12
      have J69 : ∀ (N : Mem) (z : Int), N 20 x1 = x11 → (x11 < 0 → Q 0 N) → (0 ≤ x11 → Q 1 N) → qX12_readsAct_J69 Q x1 N := by
        intro N z hN h0 h1
        unfold qX12_readsAct_J69
        refine ⟨by omega, by omega, ?_⟩
        intro x17 e17 _
        exact ⟨fun c2 => h0 (by omega), fun c2 => h1 (by omega)⟩
      refine ⟨fun c2 => ?_, fun c2 => ?_⟩
      · rcases p11 with ⟨w1, w2, w3⟩ | ⟨k, hk', w2, w3, w4, w5, w6⟩
        · refine J69 M12 0 (by rw [e1]; exact d12) (fun _ => ?_) (fun w => by omega)
          have := hQ M12 i12 F12
          rw [prA_1 hs (fun w => w3 ⟨w.1, w.2.1, w.2.2⟩)] at this
          exact this (by rw [a12]; exact w2) o12 n12 (fun w => absurd w (by show ¬ (0 : Int) = 1; decide))
        · have := b11.1
          have k1 : k = 1 := by omega
          have : 0 ≤ x11 := by
            have hn := nmV_b (f := M 7) (a := M 1 15 + 1) k.toNat (fun i p q => w4 i p (by omega))
            rw [← w6] at hn
            exact hn.1
          omega
      · have hd : dg1 (M 7) (M 1 16) (M 1 15) ∧ x11 = M 7 (M 1 15 + 1) - 48 ∧ M11 1 15 = M 1 15 + 2 := by
          rcases p11 with ⟨w1, w2, w3⟩ | ⟨k, hk', w2, w3, w4, w5, w6⟩
          · omega
          · have k1 : k = 1 := by omega
            have h0 := w4 0 (by decide) (by omega)
            rw [show M 1 15 + 1 + 0 = M 1 15 + 1 from by omega] at h0
            refine ⟨⟨by omega, h0.1, h0.2⟩, ?_, by omega⟩
            rw [w6, k1]
            show 10 * 0 + M 7 (M 1 15 + 1 + ((0 : Nat) : Int)) - 48 = _
            rw [show M 1 15 + 1 + ((0 : Nat) : Int) = M 1 15 + 1 from by omega]
            omega
        obtain ⟨h1, vd, va⟩ := hd
        intro x19 e19 _
        have f19 : x19 = sgX (M 7 (M 1 15)) := by rw [e19, e1, s12]; exact v2
        have sv : (sgX (M 7 (M 1 15)) < 2 ↔ M 7 (M 1 15) = 110 ∨ M 7 (M 1 15) = 116) ∧ (sgX (M 7 (M 1 15)) = 4 ↔ M 7 (M 1 15) = 120) := by
          rcases u1 with h | h | h | h | h <;> rw [h] <;> decide
        refine ⟨fun c3 => ?_, fun c3 => ?_⟩
        · have hp : ¬ (M 7 (M 1 15) = 110 ∨ M 7 (M 1 15) = 116) := fun w => by have := sv.1.mpr w; omega
          intro x21 e21 _
          have f21 : x21 = sgX (M 7 (M 1 15)) := by rw [e21, e1, s12]; exact v2
          have J105 : ∀ t0 : Int, (t0 = 0 ∧ M 7 (M 1 15) = 120 ∨ t0 = 1 ∧ M 7 (M 1 15) ≠ 120) → qX12_readsAct_J105 Q x1 t0 x1 M12 := by
            intro t0 ht
            unfold qX12_readsAct_J105
            refine ⟨by rcases ht with q | q <;> rw [q.1] <;> exact ⟨by decide, by decide⟩, ?_⟩
            refine gX12_digitIn i12 ?_
            intro x24 M24 i24 f24 p24 _
            rw [j7, j16, a12, va] at p24
            refine ⟨by omega, by omega, ?_⟩
            intro M27 h27
            refine ⟨by omega, by omega, ?_⟩
            intro x30 e30 _
            have f30 : x30 = x24 := by rw [e30, h27, up2_s]
            have bx24 : -1 ≤ x24 ∧ x24 ≤ 9 := by rcases p24 with q | q <;> omega
            have i27 : IM b M27 := by rw [h27]; exact i24.up (by omega) (bm_c21.mpr ⟨by omega, by omega⟩)
            have F27 : FrJ kAc M M27 := by rw [h27]; exact (F12.tr (f24.mono (by intro k j h; omega))).up (by omega)
            have o27 : ∀ (k : Nat) (j : Int), (k = 19 ∨ k = 20 ∨ k = 21) → 0 ≤ j → j < M 1 39 → M27 k j = M k j := by
              intro k j hk' h0 h1
              rw [h27]
              by_cases c4 : k = 21
              · rw [c4, up2_j (by omega), f24 21 j (by omega)]; exact o12 21 j (by omega) h0 h1
              · rw [up2_n c4, f24 k j (by omega)]; exact o12 k j hk' h0 h1
            have n27 : M27 1 39 = M 1 39 + 1 := by rw [h27, up2_n (by decide), f24 1 39 (by omega)]; exact n12
            have a27 : M27 1 15 = M24 1 15 := by rw [h27, up2_n (by decide)]
            rcases p24 with ⟨q1', q2', q3'⟩ | ⟨q1', q2', q3'⟩
            · refine ⟨fun c4 => by omega, fun _ => ?_⟩
              have h3 : dg2 (M 7) (M 1 16) (M 1 15) := ⟨by omega, by omega, by omega, by omega⟩
              have := hQ M27 i27 F27
              rw [prA_4 hs h1 hp h3] at this
              refine this (by rw [a27, q3']; show M 1 15 + 2 + 1 = M 1 15 + 3; omega) o27 n27 (fun _ => ⟨?_, ?_, fun _ => ?_⟩)
              · rw [h27, up2_n (by decide), f24 19 _ (by omega), s12]
                exact v2
              · rw [h27, up2_n (by decide), f24 20 _ (by omega), d12]
                exact vd
              · rw [h27, e1, up2_s]
                exact q2'
            · refine ⟨fun _ => ?_, fun c4 => by omega⟩
              have := hQ M27 i27 F27
              rw [prA_3 hs h1 hp (fun w => q1' (by have w1 := w.1; have w2 := w.2.1; have w3 := w.2.2; omega))] at this
              exact this (by rw [a27, q3']) o27 n27 (fun w => absurd w (by show ¬ (0 : Int) = 1; decide))
          refine ⟨fun c4 => J105 1 (Or.inr ⟨rfl, fun w => c4 (by rw [f21]; exact sv.2.mpr w)⟩), fun c4 => J105 0 (Or.inl ⟨rfl, sv.2.mp (by omega)⟩)⟩
        · have hp : M 7 (M 1 15) = 110 ∨ M 7 (M 1 15) = 116 := sv.1.mp (by omega)
          refine J69 M12 0 (by rw [e1]; exact d12) (fun w => by omega) (fun _ => ?_)
          have := hQ M12 i12 F12
          rw [prA_2 hs h1 hp] at this
          exact this (by rw [a12]; exact va) o12 n12 (fun _ => ⟨by rw [s12]; exact v2, by rw [d12]; exact vd, fun w => absurd hp w⟩)
    · omega
  · rcases p2 with ⟨q1, q2, q3, q4⟩ | ⟨q1, q2, q3⟩
    · omega
    · have no : ¬ (M 1 15 < M 1 16 ∧ sgn (M 7 (M 1 15))) := by
        intro w
        obtain ⟨i, hi, e⟩ := b8c _ w.2
        rcases q3 with u | u
        · have := w.1
          omega
        · rw [b8L] at u
          exact u (i : Int) (by omega) (by omega) (by rw [show ((i : Int)).toNat = i from by omega]; exact e)
      have := hQ M8 i8 F8
      rw [prA_0 no] at this
      exact this (by rw [a8]; exact q2) o8 n8 (fun w => absurd w (by show ¬ (0 : Int) = 1; decide))
end
section
/-! HOUR: acts are done -/
noncomputable def doA (E : Mem) (r : Int → Int) (P : Int × Int × Int × Int × Int) : Int := if P.2.2.1 = 110 then itF E P.2.2.2.1.toNat r 12 else if P.2.2.1 = 116 then tnA E r P.2.2.2.1 else if P.2.2.1 = 112 then psA E r P.2.2.2.1 P.2.2.2.2 else if P.2.2.1 = 98 then psA E r P.2.2.2.1 (-P.2.2.2.2) else swA E r P.2.2.2.1 P.2.2.2.2
noncomputable def doR (E : Mem) (r : Int → Int) (P : Int × Int × Int × Int × Int) : Int → Int := if P.2.2.1 = 110 then itF E P.2.2.2.1.toNat r else if P.2.2.1 = 116 then tnR E r P.2.2.2.1 else if P.2.2.1 = 112 then psR E r P.2.2.2.1 P.2.2.2.2 else if P.2.2.1 = 98 then psR E r P.2.2.2.1 (-P.2.2.2.2) else swR E r P.2.2.2.1 P.2.2.2.2
/-- what an act that can stand is -/
theorem prA_ok {f : Int → Int} {t a : Int} (h : (prA f t a).1 = 1) : (a < t ∧ sgn (f a)) ∧ dg1 f t a ∧ ((f a = 110 ∨ f a = 116) ∧ prA f t a = (1, a + 2, f a, f (a + 1) - 48, 0) ∨ ¬ (f a = 110 ∨ f a = 116) ∧ dg2 f t a ∧ prA f t a = (1, a + 3, f a, f (a + 1) - 48, f (a + 2) - 48)) := by
  by_cases c : a < t ∧ sgn (f a)
  · by_cases c1 : dg1 f t a
    · by_cases c2 : f a = 110 ∨ f a = 116
      · exact ⟨c, c1, Or.inl ⟨c2, prA_2 c c1 c2⟩⟩
      · by_cases c3 : dg2 f t a
        · exact ⟨c, c1, Or.inr ⟨c2, c3, prA_4 c c1 c2 c3⟩⟩
        · rw [prA_3 c c1 c2 c3] at h
          exact absurd h (by show ¬ (0 : Int) = 1; decide)
    · rw [prA_1 c c1] at h
      exact absurd h (by show ¬ (0 : Int) = 1; decide)
  · rw [prA_0 c] at h
    exact absurd h (by show ¬ (0 : Int) = 1; decide)
abbrev kDo (kl k : Nat) (j : Int) : Prop := (k = 156 ∧ j = 2) ∨ (1 ≤ k ∧ k ≤ 7) ∨ (160 ≤ k ∧ k ≤ 162) ∨ k = kl + 3 ∨ k = kl + 4
theorem gX11_doAct {M E : Mem} {r : Int → Int} {Q : Int → Mem → Prop} (hI : IX M) (hS : STR E M) (hL : LAW E M (M 155 16).toNat) (hw : WFC (E 11) (E 1 24)) (hC : SC E M 1 r) (hW : WR E r) (h37 : r 37 ≤ 1999999000) (h1 : (prA (M 157) (M 156 3) (M 156 2)).1 = 1) (hQ : ∀ M' : Mem, IX M' → Ks (kDo (M 155 16).toNat) M M' → M' 156 2 = (prA (M 157) (M 156 3) (M 156 2)).2.1 → SC E M' 1 (doR E r (prA (M 157) (M 156 3) (M 156 2))) → WR E (doR E r (prA (M 157) (M 156 3) (M 156 2))) → Q (doA E r (prA (M 157) (M 156 3) (M 156 2))) M') : qX11_doAct M Q := by
  obtain ⟨c0, c1, c2⟩ := prA_ok h1
  have el : (M 155 16).toNat = 187 ∨ (M 155 16).toNat = 192 := hI.l16
  have eb := hS.eb
  have is1 : isS 1 := by decide
  unfold qX11_doAct
  refine gX9_look hI ?_
  intro x1 p1 _
  have f1 : x1 = M 157 (M 156 2) := by rcases p1 with q | q <;> omega
  refine gX9_pass hI ?_
  intro M2 i2 k2 p2
  have a2 : M2 156 2 = M 156 2 + 1 := by rcases p2 with q | q <;> omega
  have g157 : M2 157 = M 157 := funext fun j => k2 157 j (by omega)
  have g3 : M2 156 3 = M 156 3 := k2 156 3 (by omega)
  refine gX9_digit i2 ?_
  intro x3 M3 i3 k3 p3 _
  rw [g157, g3, a2] at p3
  have w1 : M 156 2 + 1 < M 156 3 := c1.1
  have w2 := c1.2.1
  have w3 := c1.2.2
  have v3 : x3 = M 157 (M 156 2 + 1) - 48 ∧ M3 156 2 = M 156 2 + 2 := by
    rcases p3 with q | q
    · exact ⟨q.2.1, by omega⟩
    · exact absurd ⟨w1, w2, w3⟩ q.1
  have K3 : Ks kA M M3 := k2.tr k3
  have h157 : M3 157 = M 157 := funext fun j => K3 157 j (by omega)
  have h3 : M3 156 3 = M 156 3 := K3 156 3 (by omega)
  have S3 : STR E M3 := hS.fr (K3 _ _ (by omega)) (K3 _ _ (by omega)) (K3 _ _ (by omega)) (fun j => K3 159 j (by omega))
  have C3 : SC E M3 1 r := hC.fr (fun i j hi => K3 _ j (by omega))
  have KD : ∀ M' : Mem, Ks (kDo (M 155 16).toNat) M3 M' → Ks (kDo (M 155 16).toNat) M M' := fun M' h => (K3.mono (fun k j q => Or.inl q)).tr h
  have own : ∀ m, 0 ≤ m → m < E 1 5 → 0 ≤ E 3 m ∧ E 3 m < E 1 4 := hS.2.2.2.2.2.2.2.2
  have DIG : ¬ (M 157 (M 156 2) = 110 ∨ M 157 (M 156 2) = 116) → ∀ Q' : Int → Mem → Prop, (∀ M5 : Mem, IX M5 → Ks kA M3 M5 → M5 156 2 = M 156 2 + 3 → Q' (M 157 (M 156 2 + 2) - 48) M5) → qX9_digit M3 Q' := by
    intro hn Q' hq
    have d2 : dg2 (M 157) (M 156 3) (M 156 2) := by
      rcases c2 with q | q
      · exact absurd q.1 hn
      · exact q.2.1
    refine gX9_digit i3 ?_
    intro x5 M5 i5 k5 p5
    rw [h157, h3, v3.2] at p5
    rcases p5 with q | q
    · rw [q.2.1]
      exact hq M5 i5 k5 (by omega)
    · exact absurd ⟨d2.1, d2.2.2.1, d2.2.2.2⟩ q.1
  have E4 : ¬ (M 157 (M 156 2) = 110 ∨ M 157 (M 156 2) = 116) → prA (M 157) (M 156 3) (M 156 2) = (1, M 156 2 + 3, M 157 (M 156 2), M 157 (M 156 2 + 1) - 48, M 157 (M 156 2 + 2) - 48) := by
    intro hn
    rcases c2 with q | q
    · exact absurd q.1 hn
    · exact q.2.2
  have E2 : (M 157 (M 156 2) = 110 ∨ M 157 (M 156 2) = 116) → prA (M 157) (M 156 3) (M 156 2) = (1, M 156 2 + 2, M 157 (M 156 2), M 157 (M 156 2 + 1) - 48, 0) := by
    intro hn
    rcases c2 with q | q
    · exact q.2
    · exact absurd hn q.1
  refine ⟨fun d => ?_, fun d => ?_, fun d => ?_, fun d => ?_, fun d => ?_⟩
  · have hn : ¬ (M 157 (M 156 2) = 110 ∨ M 157 (M 156 2) = 116) := by omega
    rw [E4 hn] at hQ
    refine DIG hn _ ?_
    intro M5 i5 k5 a5 _
    have S5 : STR E M5 := S3.fr (k5 _ _ (by omega)) (k5 _ _ (by omega)) (k5 _ _ (by omega)) (fun j => k5 159 j (by omega))
    have C5 : SC E M5 1 r := C3.fr (fun i j hi => k5 _ j (by omega))
    have b5 := bx_c157.mp (hI.bx 157 (M 156 2 + 2))
    refine ⟨⟨by omega, by omega⟩, ?_⟩
    rw [v3.1]
    refine gX6_shove i5 is1 S5 C5 hW ?_
    intro M7 i7 k7 c7 _
    have v : doA E r (1, M 156 2 + 3, M 157 (M 156 2), M 157 (M 156 2 + 1) - 48, M 157 (M 156 2 + 2) - 48) = psA E r (M 157 (M 156 2 + 1) - 48) (-(M 157 (M 156 2 + 2) - 48)) := by
      show (if M 157 (M 156 2) = 110 then _ else if M 157 (M 156 2) = 116 then _ else if M 157 (M 156 2) = 112 then _ else if M 157 (M 156 2) = 98 then _ else _) = _
      rw [if_neg (by omega), if_neg (by omega), if_neg (by omega), if_pos (by omega)]
    have w : doR E r (1, M 156 2 + 3, M 157 (M 156 2), M 157 (M 156 2 + 1) - 48, M 157 (M 156 2 + 2) - 48) = psR E r (M 157 (M 156 2 + 1) - 48) (-(M 157 (M 156 2 + 2) - 48)) := by
      show (if M 157 (M 156 2) = 110 then _ else if M 157 (M 156 2) = 116 then _ else if M 157 (M 156 2) = 112 then _ else if M 157 (M 156 2) = 98 then _ else _) = _
      rw [if_neg (by omega), if_neg (by omega), if_neg (by omega), if_pos (by omega)]
    rw [v, w] at hQ
    exact hQ M7 i7 (KD M7 ((k5.mono (fun k j q => Or.inl q)).tr (k7.mono (by intro k j q; omega)))) (by rw [k7 156 2 (by omega)]; exact a5) c7 (hW.ps eb)
  · have hn : M 157 (M 156 2) = 110 ∨ M 157 (M 156 2) = 116 := by omega
    rw [E2 hn] at hQ
    have g16 : M3 155 16 = M 155 16 := K3 155 16 (by omega)
    have L3 : LAW E M3 (M 155 16).toNat := hL.fr (K3 _ _ (by omega)) (K3 _ _ (by omega)) (fun j => K3 _ j (by omega)) (fun j => K3 _ j (by omega))
    rw [g16]
    refine ⟨hI.l16, ?_⟩
    refine gX10_walk i3 is1 hI.l16 S3 L3 hw C3 hW h37 (by omega) ?_
    intro M9 i9 k9 c9 w9 x10 e10 _
    have v : doA E r (1, M 156 2 + 2, M 157 (M 156 2), M 157 (M 156 2 + 1) - 48, 0) = itF E x3.toNat r 12 := by
      show (if M 157 (M 156 2) = 110 then itF E (M 157 (M 156 2 + 1) - 48).toNat r 12 else _) = _
      rw [if_pos (by omega), ← v3.1]
    have w : doR E r (1, M 156 2 + 2, M 157 (M 156 2), M 157 (M 156 2 + 1) - 48, 0) = itF E x3.toNat r := by
      show (if M 157 (M 156 2) = 110 then itF E (M 157 (M 156 2 + 1) - 48).toNat r else _) = _
      rw [if_pos (by omega), ← v3.1]
    rw [v, w] at hQ
    have f10 : x10 = itF E x3.toNat r 12 := by rw [e10]; exact c9.2.2.2.2.1
    rw [f10]
    exact hQ M9 i9 (KD M9 (k9.mono (by intro k j q; omega))) (by rw [k9 156 2 (by unfold kAd; omega)]; exact v3.2) c9 w9
  · have hn : ¬ (M 157 (M 156 2) = 110 ∨ M 157 (M 156 2) = 116) := by omega
    rw [E4 hn] at hQ
    refine DIG hn _ ?_
    intro M5 i5 k5 a5 _
    have S5 : STR E M5 := S3.fr (k5 _ _ (by omega)) (k5 _ _ (by omega)) (k5 _ _ (by omega)) (fun j => k5 159 j (by omega))
    have C5 : SC E M5 1 r := C3.fr (fun i j hi => k5 _ j (by omega))
    rw [v3.1]
    refine gX6_shove i5 is1 S5 C5 hW ?_
    intro M7 i7 k7 c7 _
    have v : doA E r (1, M 156 2 + 3, M 157 (M 156 2), M 157 (M 156 2 + 1) - 48, M 157 (M 156 2 + 2) - 48) = psA E r (M 157 (M 156 2 + 1) - 48) (M 157 (M 156 2 + 2) - 48) := by
      show (if M 157 (M 156 2) = 110 then _ else if M 157 (M 156 2) = 116 then _ else if M 157 (M 156 2) = 112 then _ else _) = _
      rw [if_neg (by omega), if_neg (by omega), if_pos (by omega)]
    have w : doR E r (1, M 156 2 + 3, M 157 (M 156 2), M 157 (M 156 2 + 1) - 48, M 157 (M 156 2 + 2) - 48) = psR E r (M 157 (M 156 2 + 1) - 48) (M 157 (M 156 2 + 2) - 48) := by
      show (if M 157 (M 156 2) = 110 then _ else if M 157 (M 156 2) = 116 then _ else if M 157 (M 156 2) = 112 then _ else _) = _
      rw [if_neg (by omega), if_neg (by omega), if_pos (by omega)]
    rw [v, w] at hQ
    exact hQ M7 i7 (KD M7 ((k5.mono (fun k j q => Or.inl q)).tr (k7.mono (by intro k j q; omega)))) (by rw [k7 156 2 (by omega)]; exact a5) c7 (hW.ps eb)
  · have hn : M 157 (M 156 2) = 110 ∨ M 157 (M 156 2) = 116 := by omega
    rw [E2 hn] at hQ
    refine gX6_turn i3 is1 S3 C3 hW ?_
    intro M7 i7 k7 c7 _
    have v : doA E r (1, M 156 2 + 2, M 157 (M 156 2), M 157 (M 156 2 + 1) - 48, 0) = tnA E r x3 := by
      show (if M 157 (M 156 2) = 110 then _ else if M 157 (M 156 2) = 116 then tnA E r (M 157 (M 156 2 + 1) - 48) else _) = _
      rw [if_neg (by omega), if_pos (by omega), ← v3.1]
    have w : doR E r (1, M 156 2 + 2, M 157 (M 156 2), M 157 (M 156 2 + 1) - 48, 0) = tnR E r x3 := by
      show (if M 157 (M 156 2) = 110 then _ else if M 157 (M 156 2) = 116 then tnR E r (M 157 (M 156 2 + 1) - 48) else _) = _
      rw [if_neg (by omega), if_pos (by omega), ← v3.1]
    rw [v, w] at hQ
    exact hQ M7 i7 (KD M7 (k7.mono (by intro k j q; omega))) (by rw [k7 156 2 (by omega)]; exact v3.2) c7 (hW.tn eb own)
  · have hn : ¬ (M 157 (M 156 2) = 110 ∨ M 157 (M 156 2) = 116) := by omega
    rw [E4 hn] at hQ
    refine DIG hn _ ?_
    intro M5 i5 k5 a5 _
    have S5 : STR E M5 := S3.fr (k5 _ _ (by omega)) (k5 _ _ (by omega)) (k5 _ _ (by omega)) (fun j => k5 159 j (by omega))
    have C5 : SC E M5 1 r := C3.fr (fun i j hi => k5 _ j (by omega))
    rw [v3.1]
    refine gX6_exchange i5 is1 S5 C5 hW ?_
    intro M7 i7 k7 c7 _
    have v : doA E r (1, M 156 2 + 3, M 157 (M 156 2), M 157 (M 156 2 + 1) - 48, M 157 (M 156 2 + 2) - 48) = swA E r (M 157 (M 156 2 + 1) - 48) (M 157 (M 156 2 + 2) - 48) := by
      show (if M 157 (M 156 2) = 110 then _ else if M 157 (M 156 2) = 116 then _ else if M 157 (M 156 2) = 112 then _ else if M 157 (M 156 2) = 98 then _ else _) = _
      rw [if_neg (by omega), if_neg (by omega), if_neg (by omega), if_neg (by omega)]
    have w : doR E r (1, M 156 2 + 3, M 157 (M 156 2), M 157 (M 156 2 + 1) - 48, M 157 (M 156 2 + 2) - 48) = swR E r (M 157 (M 156 2 + 1) - 48) (M 157 (M 156 2 + 2) - 48) := by
      show (if M 157 (M 156 2) = 110 then _ else if M 157 (M 156 2) = 116 then _ else if M 157 (M 156 2) = 112 then _ else if M 157 (M 156 2) = 98 then _ else _) = _
      rw [if_neg (by omega), if_neg (by omega), if_neg (by omega), if_neg (by omega)]
    rw [v, w] at hQ
    exact hQ M7 i7 (KD M7 ((k5.mono (fun k j q => Or.inl q)).tr (k7.mono (by intro k j q; omega)))) (by rw [k7 156 2 (by omega)]; exact a5) c7 (hW.sw eb)
end
section
/-! HOUR: the reference does acts -/
theorem gX12_does_L46 {p1 b : Int} {E : Mem} {r : Int → Int} {Q : Int → Mem → Prop} {m : Int} (hm : 0 ≤ m ∧ m ≤ 9) (hb : b + 9 ≤ 2000000000) (hQ : ∀ M' : Mem, IM (b + 9) M' → CE E M' → M' 5 = itF E m.toNat r → Q 1 M') : ∀ (n : Nat) (v3 : Int) (M : Mem), IM (b + v3) M → CE E M → M 5 = itF E v3.toNat r → (0 ≤ v3 ∧ v3 ≤ m) → m - v3 < (n : Int) → qX12_does_L46 p1 Q n m v3 M := by
  intro n
  induction n with
  | zero => intro v3 M hI hE hr hv hn; exact absurd hn (by omega)
  | succ n ih =>
    intro v3 M hI hE hr hv hn
    rw [qX12_does_L46]
    refine ⟨⟨by omega, by omega⟩, ⟨by omega, by omega⟩, ⟨fun c => hQ _ (hI.mono (by omega)) hE (by rw [hr, show v3.toNat = m.toNat from by omega]), fun c => ?_⟩⟩
    refine gX12_stepGoes hI hE (by omega) (Or.inl rfl) ?_
    intro M' i' E' k'
    exact ih _ _ (i'.mono (by omega)) E' (by rw [k', hr, itF_s hv.1]) (by omega) (by omega)
theorem ps_4 {E : Mem} {r : Int → Int} {m v : Int} : psA E r m v ≠ -4 := by
  unfold psA psV
  split
  · decide
  · split
    · decide
    · omega
theorem sw_4 {E : Mem} {r : Int → Int} {a b : Int} : swA E r a b ≠ -4 := by
  unfold swA
  split
  · decide
  · split
    · decide
    · have := (ab_b (r b - r a)).1
      omega
theorem gX12_does {p1 b : Int} {M E : Mem} {P : Int × Int × Int × Int × Int} {Q : Int → Mem → Prop} (hI : IM b M) (hE : CE E M) (hb : b + 9 ≤ 2000000000) (hk : 0 ≤ p1 ∧ p1 < 60) (hP : ENT M p1 P) (hs : sgn P.2.2.1) (hd : 0 ≤ P.2.2.2.1 ∧ P.2.2.2.1 ≤ 9) (hr12 : 0 ≤ itF E P.2.2.2.1.toNat (M 5) 12) (hQ : ∀ (z : Int) (M' : Mem), IM (b + 9) M' → CE E M' → M' 5 = doR E (M 5) P → (z = 1 ∧ isDn (doA E (M 5) P) ∨ z = 0 ∧ ¬ isDn (doA E (M 5) P)) → Q z M') : qX12_does p1 M Q := by
  obtain ⟨e19, e20, e21⟩ := hP
  unfold doA doR at hQ
  unfold qX12_does
  refine ⟨hk.1, hk.2, ?_⟩
  intro x3 w3 _ x4 w4 _
  have f3 : x3 = P.2.2.2.1 := by rw [w3, e20]
  have f4 : x4 = sgX P.2.2.1 := by rw [w4, e19]
  have W : ∀ N : Mem, IM b N → FrJ (fun k _ => k = 5) M N → CE E N := fun N _ f => hE.fr f (by intro k j h; rcases h with h | h | h | h | h <;> omega)
  refine ⟨fun c => ?_, fun c => ?_, fun c => ?_, fun c => ?_, fun c => ?_⟩
  · have s : P.2.2.1 = 110 := by
      rcases hs with h | h | h | h | h
      · exact h
      · rw [h] at f4; have : sgX 116 = 1 := rfl; omega
      · rw [h] at f4; have : sgX 112 = 2 := rfl; omega
      · rw [h] at f4; have : sgX 98 = 3 := rfl; omega
      · rw [h] at f4; have : sgX 120 = 4 := rfl; omega
    rw [if_pos s, if_pos s] at hQ
    refine ⟨10, ?_⟩
    rw [f3]
    refine gX12_does_L46 (b := b) (r := M 5) hd hb ?_ _ _ _ (hI.mono (by omega)) hE rfl (by omega) (by omega)
    intro M' i' E' k'
    exact hQ 1 M' i' E' k' (Or.inl ⟨rfl, Or.inl hr12⟩)
  · have s : P.2.2.1 = 116 := by
      rcases hs with h | h | h | h | h
      · rw [h] at f4; have : sgX 110 = 0 := rfl; omega
      · exact h
      · rw [h] at f4; have : sgX 112 = 2 := rfl; omega
      · rw [h] at f4; have : sgX 98 = 3 := rfl; omega
      · rw [h] at f4; have : sgX 120 = 4 := rfl; omega
    rw [if_neg (by omega), if_pos s, if_neg (by omega), if_pos s] at hQ
    refine gX12_turnsOne hI hE (Or.inl rfl) ?_
    intro M' i' f' k' _
    rw [f3] at k' ⊢
    refine ⟨fun d => hQ 1 M' (i'.mono (by omega)) (W M' i' f') k' (Or.inl ⟨rfl, Or.inl d⟩), fun d => ⟨fun d2 => hQ 0 M' (i'.mono (by omega)) (W M' i' f') k' (Or.inr ⟨rfl, fun u => ?_⟩), fun d2 => hQ 1 M' (i'.mono (by omega)) (W M' i' f') k' (Or.inl ⟨rfl, Or.inr d2⟩)⟩⟩
    rcases u with u | u
    · exact d u
    · exact d2 u
  · have s : P.2.2.1 = 112 := by
      rcases hs with h | h | h | h | h
      · rw [h] at f4; have : sgX 110 = 0 := rfl; omega
      · rw [h] at f4; have : sgX 116 = 1 := rfl; omega
      · exact h
      · rw [h] at f4; have : sgX 98 = 3 := rfl; omega
      · rw [h] at f4; have : sgX 120 = 4 := rfl; omega
    rw [if_neg (by omega), if_neg (by omega), if_pos s, if_neg (by omega), if_neg (by omega), if_pos s] at hQ
    intro x14 w14 _
    have f14 : x14 = P.2.2.2.2 := by rw [w14, e21 (by omega)]
    refine gX12_pushesOne hI hE (Or.inl rfl) ?_
    intro M' i' f' k' _
    rw [f3, f14] at k' ⊢
    have n4 := ps_4 (E := E) (r := M 5) (m := P.2.2.2.1) (v := P.2.2.2.2)
    refine ⟨fun d => hQ 0 M' (i'.mono (by omega)) (W M' i' f') k' (Or.inr ⟨rfl, fun u => ?_⟩), fun d => hQ 1 M' (i'.mono (by omega)) (W M' i' f') k' (Or.inl ⟨rfl, Or.inl (by omega)⟩)⟩
    rcases u with u | u
    · omega
    · exact n4 u
  · have s : P.2.2.1 = 98 := by
      rcases hs with h | h | h | h | h
      · rw [h] at f4; have : sgX 110 = 0 := rfl; omega
      · rw [h] at f4; have : sgX 116 = 1 := rfl; omega
      · rw [h] at f4; have : sgX 112 = 2 := rfl; omega
      · exact h
      · rw [h] at f4; have : sgX 120 = 4 := rfl; omega
    rw [if_neg (by omega), if_neg (by omega), if_neg (by omega), if_pos s, if_neg (by omega), if_neg (by omega), if_neg (by omega), if_pos s] at hQ
    intro x17 w17 _
    have f17 : x17 = P.2.2.2.2 := by rw [w17, e21 (by omega)]
    have b17 : -100 ≤ x17 ∧ x17 ≤ 300 := by rw [w17]; exact bm_c21.mp (hI.bx _ _)
    refine ⟨⟨by omega, by omega⟩, ?_⟩
    refine gX12_pushesOne hI hE (Or.inl rfl) ?_
    intro M' i' f' k' _
    rw [f3, f17] at k' ⊢
    have n4 := ps_4 (E := E) (r := M 5) (m := P.2.2.2.1) (v := -P.2.2.2.2)
    refine ⟨fun d => hQ 0 M' (i'.mono (by omega)) (W M' i' f') k' (Or.inr ⟨rfl, fun u => ?_⟩), fun d => hQ 1 M' (i'.mono (by omega)) (W M' i' f') k' (Or.inl ⟨rfl, Or.inl (by omega)⟩)⟩
    rcases u with u | u
    · omega
    · exact n4 u
  · have s : P.2.2.1 = 120 := by
      rcases hs with h | h | h | h | h
      · rw [h] at f4; have : sgX 110 = 0 := rfl; omega
      · rw [h] at f4; have : sgX 116 = 1 := rfl; omega
      · rw [h] at f4; have : sgX 112 = 2 := rfl; omega
      · rw [h] at f4; have : sgX 98 = 3 := rfl; omega
      · exact h
    rw [if_neg (by omega), if_neg (by omega), if_neg (by omega), if_neg (by omega), if_neg (by omega), if_neg (by omega), if_neg (by omega), if_neg (by omega)] at hQ
    intro x21 w21 _
    have f21 : x21 = P.2.2.2.2 := by rw [w21, e21 (by omega)]
    refine gX12_swapsTwo hI hE ?_
    intro M' i' f' k' _
    rw [f3, f21] at k' ⊢
    have n4 := sw_4 (E := E) (r := M 5) (a := P.2.2.2.1) (b := P.2.2.2.2)
    refine ⟨fun d => hQ 0 M' (i'.mono (by omega)) (W M' i' f') k' (Or.inr ⟨rfl, fun u => ?_⟩), fun d => hQ 1 M' (i'.mono (by omega)) (W M' i' f') k' (Or.inl ⟨rfl, Or.inl (by omega)⟩)⟩
    rcases u with u | u
    · omega
    · exact n4 u
end
section
/-! HOUR: the class does them -/
theorem do_nd {E : Mem} {r : Int → Int} {P : Int × Int × Int × Int × Int} (h0 : 0 ≤ itF E P.2.2.2.1.toNat r 12) (h : ¬ isDn (doA E r P)) : doR E r P = r := by
  unfold doA at h
  unfold doR
  by_cases c1 : P.2.2.1 = 110
  · rw [if_pos c1] at h
    exact absurd (Or.inl h0) h
  · rw [if_neg c1] at h ⊢
    by_cases c2 : P.2.2.1 = 116
    · rw [if_pos c2] at h ⊢
      exact tn_nd h
    · rw [if_neg c2] at h ⊢
      by_cases c3 : P.2.2.1 = 112
      · rw [if_pos c3] at h ⊢
        exact ps_nd h
      · rw [if_neg c3] at h ⊢
        by_cases c4 : P.2.2.1 = 98
        · rw [if_pos c4] at h ⊢
          exact ps_nd h
        · rw [if_neg c4] at h ⊢
          exact sw_nd h
theorem do_37 {E : Mem} {r : Int → Int} {P : Int × Int × Int × Int × Int} (hE : EBx E) (hd : 0 ≤ P.2.2.2.1 ∧ P.2.2.2.1 ≤ 9) : r 37 ≤ doR E r P 37 ∧ doR E r P 37 ≤ r 37 + 9 := by
  have e := hE.2
  have tn : ∀ m, tnR E r m 37 = r 37 := by
    intro m
    unfold tnR
    split
    · rename_i c
      rw [up_j (by have := c.1; omega)]
    · rfl
  have ps : ∀ m v, psR E r m v 37 = r 37 := by
    intro m v
    unfold psR
    split
    · rename_i c
      have c0 : 0 ≤ m ∧ m < E 1 5 := c.1.1
      rw [up_j (by omega)]
    · rfl
  have sw : ∀ a b, swR E r a b 37 = r 37 := by
    intro a b
    unfold swR
    split
    · rename_i c
      have c0 : 0 ≤ a ∧ a < E 1 4 := c.1.1
      have c1 : 0 ≤ b ∧ b < E 1 4 := c.1.2.1
      rw [up_j (by omega), up_j (by omega)]
    · rfl
  unfold doR
  by_cases c1 : P.2.2.1 = 110
  · rw [if_pos c1, itF_37 hE]
    omega
  · rw [if_neg c1]
    by_cases c2 : P.2.2.1 = 116
    · rw [if_pos c2, tn]
      omega
    · rw [if_neg c2]
      by_cases c3 : P.2.2.1 = 112
      · rw [if_pos c3, ps]
        omega
      · rw [if_neg c3]
        by_cases c4 : P.2.2.1 = 98
        · rw [if_pos c4, ps]
          omega
        · rw [if_neg c4, sw]
          omega
/-- from a on: how many acts are done, whether one is refused, the row then -/
noncomputable def hrG (E : Mem) (f : Int → Int) (t : Int) : Nat → Int → (Int → Int) → Int × Int × (Int → Int)
  | 0, _, r => (0, 0, r)
  | n + 1, a, r => if t ≤ a then (0, 0, r) else if 0 ≤ doA E r (prA f t a) ∨ doA E r (prA f t a) = -4 then ((hrG E f t n (prA f t a).2.1 (doR E r (prA f t a))).1 + 1, (hrG E f t n (prA f t a).2.1 (doR E r (prA f t a))).2) else (0, 1, r)
theorem gX11_hour_L32 {X92 : Int → Int → Int → Mem → Prop} {Q : Int → Mem → Prop} {M0 E : Mem} {T : Int × Int × (Int → Int)} (hI0 : IX M0) (hS0 : STR E M0) (hL0 : LAW E M0 (M0 155 16).toNat) (hw : WFC (E 11) (E 1 24)) (ht : M0 156 3 ≤ 60) (hX : ∀ M' : Mem, IX M' → Ks (kDo (M0 155 16).toNat) M0 M' → SC E M' 1 T.2.2 → WR E T.2.2 → X92 (-1) T.1 T.2.1 M') : ∀ (n : Nat) (v2 v4 : Int) (M : Mem) (r : Int → Int), IX M → Ks (kDo (M0 155 16).toNat) M0 M → SC E M 1 r → WR E r → (hrd (M0 157) (M0 156 3) n (M 156 2)).1 = 1 → v2 + (hrG E (M0 157) (M0 156 3) n (M 156 2) r).1 = T.1 → (hrG E (M0 157) (M0 156 3) n (M 156 2) r).2 = T.2 → (0 ≤ M 156 2 ∧ M 156 2 ≤ M0 156 3) → (0 ≤ v4 ∧ 2 * v4 ≤ M 156 2) → (0 ≤ v2 ∧ v2 ≤ v4) → r 37 ≤ 1999990000 + 9 * v4 → M0 156 3 - M 156 2 ≤ 2 * n → qX11_hour_L32 X92 Q (n + 1) (-1) v2 0 v4 M := by
  intro n
  induction n with
  | zero =>
    intro v2 v4 M r hI hK hC hW hp hT1 hT2 ha hv h2 h37 hn
    rw [qX11_hour_L32]
    refine ⟨⟨by omega, by omega⟩, ⟨fun c => by omega, fun _ => ⟨⟨by decide, by decide⟩, ⟨fun c => absurd rfl c, fun _ => ⟨⟨by decide, by decide⟩, ⟨fun c => absurd rfl c, fun _ => ?_⟩⟩⟩⟩⟩⟩
    unfold qX9_isRead
    intro x1 e1 _ x2 e2 _
    have el : (M0 155 16).toNat = 187 ∨ (M0 155 16).toNat = 192 := hI0.l16
    have e3 : M 156 3 = M0 156 3 := hK 156 3 (by omega)
    refine ⟨fun c => by omega, fun c => ?_⟩
    intro _ _
    refine ⟨fun _ => ?_, fun c2 => absurd c2 (by decide)⟩
    have t1 : v2 = T.1 := by rw [← hT1]; show v2 = v2 + 0; omega
    have t2 : ((0, r) : Int × (Int → Int)) = T.2 := hT2
    have H := hX M hI hK
    rw [← t2, ← t1] at H
    exact H hC hW
  | succ n ih =>
    intro v2 v4 M r hI hK hC hW hp hT1 hT2 ha hv h2 h37 hn
    have el : (M0 155 16).toNat = 187 ∨ (M0 155 16).toNat = 192 := hI0.l16
    have e157 : M 157 = M0 157 := funext fun j => hK 157 j (by omega)
    have e3 : M 156 3 = M0 156 3 := hK 156 3 (by omega)
    have e16 : M 155 16 = M0 155 16 := hK 155 16 (by omega)
    have b := prA_b (f := M0 157) (t := M0 156 3) ha.2
    have S1 : STR E M := hS0.fr (hK _ _ (by omega)) (hK _ _ (by omega)) (hK _ _ (by omega)) (fun j => hK 159 j (by omega))
    have L1 : LAW E M (M0 155 16).toNat := hL0.fr (hK _ _ (by omega)) (hK _ _ (by omega)) (fun j => hK _ j (by omega)) (fun j => hK _ j (by omega))
    rw [qX11_hour_L32]
    refine ⟨⟨by omega, by omega⟩, ⟨fun c => by omega, fun _ => ⟨⟨by decide, by decide⟩, ⟨fun c => absurd rfl c, fun _ => ⟨⟨by decide, by decide⟩, ⟨fun c => absurd rfl c, fun _ => ?_⟩⟩⟩⟩⟩⟩
    unfold qX9_isRead
    intro x1 e1 _ x2 e2 _
    unfold hrd at hp
    unfold hrG at hT1 hT2
    refine ⟨fun c => ?_, fun c => ?_⟩
    · intro _ _
      refine ⟨fun c2 => absurd rfl c2, fun _ => ?_⟩
      have na : ¬ M0 156 3 ≤ M 156 2 := by omega
      rw [if_neg na] at hp hT1 hT2
      have p1 : (prA (M0 157) (M0 156 3) (M 156 2)).1 = 1 := by
        rcases b.2 with q | q
        · rw [if_pos q] at hp
          exact absurd hp (by show ¬ (0 : Int) = 1; decide)
        · exact q.1
      rw [if_neg (by omega)] at hp
      refine gX11_doAct (r := r) hI S1 (by rw [e16]; exact L1) hw hC hW (by omega) (by rw [e157, e3]; exact p1) ?_
      intro M6 i6 k6 a6 c6 w6
      rw [e16] at k6
      rw [e157, e3] at a6 c6 w6 ⊢
      intro _
      have K6 := hK.tr k6
      have dd : 0 ≤ (prA (M0 157) (M0 156 3) (M 156 2)).2.2.2.1 ∧ (prA (M0 157) (M0 156 3) (M 156 2)).2.2.2.1 ≤ 9 := by
        obtain ⟨_, d1, d2⟩ := prA_ok p1
        have y1 := d1.2.1
        have y2 := d1.2.2
        rcases d2 with q | q
        · rw [q.2]
          show 0 ≤ M0 157 (M 156 2 + 1) - 48 ∧ M0 157 (M 156 2 + 1) - 48 ≤ 9
          omega
        · rw [q.2.2]
          show 0 ≤ M0 157 (M 156 2 + 1) - 48 ∧ M0 157 (M 156 2 + 1) - 48 ≤ 9
          omega
      have d37 := do_37 (r := r) (P := prA (M0 157) (M0 156 3) (M 156 2)) hS0.eb dd
      have h12 : (prA (M0 157) (M0 156 3) (M 156 2)).2.2.1 = 110 → 0 ≤ itF E (prA (M0 157) (M0 156 3) (M 156 2)).2.2.2.1.toNat r 12 := by
        intro s
        unfold doR at w6
        rw [if_pos s] at w6
        have := arF_b (itF E (prA (M0 157) (M0 156 3) (M 156 2)).2.2.2.1.toNat r) (eH E)
        have := w6.2.2.2.1
        omega
      have DONE : isDn (doA E r (prA (M0 157) (M0 156 3) (M 156 2))) → qX11_hour_J73 (qX11_hour_L32 X92 Q (n + 1)) X92 Q (-1) v2 v4 0 M6 := by
        intro dn
        rw [if_pos (show 0 ≤ doA E r (prA (M0 157) (M0 156 3) (M 156 2)) ∨ doA E r (prA (M0 157) (M0 156 3) (M 156 2)) = -4 from dn)] at hT1 hT2
        unfold qX11_hour_J73
        refine ⟨⟨by decide, by decide⟩, ⟨fun _ => ?_, fun c3 => absurd rfl c3⟩⟩
        refine ih (v2 + 1) (v4 + 1) M6 _ i6 K6 c6 w6 (by rw [a6]; exact hp) ?_ (by rw [a6]; exact hT2) (by omega) (by omega) (by omega) (by omega) (by omega)
        rw [a6, ← hT1]
        show v2 + 1 + _ = v2 + (_ + 1)
        omega
      have FAIL : ¬ isDn (doA E r (prA (M0 157) (M0 156 3) (M 156 2))) → qX11_hour_J73 (qX11_hour_L32 X92 Q (n + 1)) X92 Q (-1) v2 v4 1 M6 := by
        intro dn
        rw [if_neg (show ¬ (0 ≤ doA E r (prA (M0 157) (M0 156 3) (M 156 2)) ∨ doA E r (prA (M0 157) (M0 156 3) (M 156 2)) = -4) from dn)] at hT1 hT2
        have same : doR E r (prA (M0 157) (M0 156 3) (M 156 2)) = r := by
          by_cases s : (prA (M0 157) (M0 156 3) (M 156 2)).2.2.1 = 110
          · exact do_nd (h12 s) dn
          · unfold doA at dn
            unfold doR
            rw [if_neg s] at dn ⊢
            by_cases c2 : (prA (M0 157) (M0 156 3) (M 156 2)).2.2.1 = 116
            · rw [if_pos c2] at dn ⊢; exact tn_nd dn
            · rw [if_neg c2] at dn ⊢
              by_cases c3 : (prA (M0 157) (M0 156 3) (M 156 2)).2.2.1 = 112
              · rw [if_pos c3] at dn ⊢; exact ps_nd dn
              · rw [if_neg c3] at dn ⊢
                by_cases c4 : (prA (M0 157) (M0 156 3) (M 156 2)).2.2.1 = 98
                · rw [if_pos c4] at dn ⊢; exact ps_nd dn
                · rw [if_neg c4] at dn ⊢; exact sw_nd dn
        rw [same] at c6 w6
        unfold qX11_hour_J73
        refine ⟨⟨by decide, by decide⟩, ⟨fun c3 => absurd c3 (by decide), fun _ => ?_⟩⟩
        rw [qX11_hour_L32]
        have t1 : v2 + 0 = T.1 := hT1
        have t2 : ((1, r) : Int × (Int → Int)) = T.2 := hT2
        have H := hX M6 i6 K6
        rw [← t2, ← t1] at H
        have HH := H c6 w6
        refine ⟨⟨by omega, by omega⟩, ⟨fun _ => HH, fun _ => ⟨⟨by decide, by decide⟩, ⟨fun c3 => absurd rfl c3, fun _ => ⟨⟨by decide, by decide⟩, ⟨fun _ => HH, fun c3 => absurd c3 (by decide)⟩⟩⟩⟩⟩⟩
      unfold qX11_isDone
      refine ⟨fun d => ?_, fun d => ⟨fun d2 => ?_, fun d2 => ?_⟩⟩
      · intro _ _
        exact ⟨fun _ => DONE (Or.inl d), fun q => absurd q (by decide)⟩
      · intro _ _
        refine ⟨fun q => absurd rfl q, fun _ => FAIL (fun u => ?_)⟩
        rcases u with u | u
        · exact d u
        · exact d2 u
      · intro _ _
        exact ⟨fun _ => DONE (Or.inr d2), fun q => absurd q (by decide)⟩
    · intro _ _
      refine ⟨fun _ => ?_, fun c2 => absurd c2 (by decide)⟩
      rw [if_pos (show M0 156 3 ≤ M 156 2 by omega)] at hT1 hT2
      have t1 : v2 + 0 = T.1 := hT1
      have t2 : ((0, r) : Int × (Int → Int)) = T.2 := hT2
      have H := hX M hI hK
      rw [← t2, ← t1, Int.add_zero] at H
      exact H hC hW
end
