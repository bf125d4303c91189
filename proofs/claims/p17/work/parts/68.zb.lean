/-! SHEET -/
theorem w32_l (a b : Int) : w32 (w32 a + b) = w32 (a + b) := by
  unfold w32
  have e : iI ((iI a).toInt + b) = iI (a + b) := by
    show Int32.ofInt ((iI a).toInt + b) = Int32.ofInt (a + b)
    rw [Int32.ofInt_add, Int32.ofInt_add, Int32.ofInt_toInt]
    rfl
  rw [e]
theorem w32_r (a b : Int) : w32 (a + w32 b) = w32 (a + b) := by
  rw [Int.add_comm, w32_l, Int.add_comm]
def cvF (kd v : Int) : Int := if kd = 0 then b8I v else if kd = 1 then s16I v else v
def shE (E : Mem) (kd n f st m : Int) : Int := if kd = 3 ∨ n ≤ m then 0 else max 0 (min (cvF kd (w32 (f + w32 (m * st)))) (eG E - 1))
def shR (E : Mem) (kd n f st : Int) (r : Int → Int) : Nat → Int → Int
  | 0 => r
  | m + 1 => if r (29 + m) < 0 then up (shR E kd n f st r m) (13 + m) (shE E kd n f st m) else shR E kd n f st r m
def shS (E : Mem) (kd n f st : Int) (r : Int → Int) : Nat → Int
  | 0 => 0
  | m + 1 => w32 (shS E kd n f st r m + shR E kd n f st r (m + 1) (13 + m))
theorem shR_s {E : Mem} {kd n f st : Int} {r : Int → Int} {m : Int} (h : 0 ≤ m) : shR E kd n f st r (m + 1).toNat = if r (29 + m) < 0 then up (shR E kd n f st r m.toNat) (13 + m) (shE E kd n f st m) else shR E kd n f st r m.toNat := by
  rw [show (m + 1).toNat = m.toNat + 1 from by omega]
  show (if r (29 + (m.toNat : Nat)) < 0 then up (shR E kd n f st r m.toNat) (13 + (m.toNat : Nat)) (shE E kd n f st (m.toNat : Nat)) else shR E kd n f st r m.toNat) = _
  rw [show ((m.toNat : Nat) : Int) = m from by omega]
theorem shS_s {E : Mem} {kd n f st : Int} {r : Int → Int} {m : Int} (h : 0 ≤ m) : shS E kd n f st r (m + 1).toNat = w32 (shS E kd n f st r m.toNat + shR E kd n f st r (m + 1).toNat (13 + m)) := by
  rw [show (m + 1).toNat = m.toNat + 1 from by omega]
  show w32 (shS E kd n f st r m.toNat + shR E kd n f st r (m.toNat + 1) (13 + (m.toNat : Nat))) = _
  rw [show ((m.toNat : Nat) : Int) = m from by omega]
theorem shR_o {E : Mem} {kd n f st : Int} {r : Int → Int} {j : Int} (hj : 21 ≤ j) : ∀ m : Nat, m ≤ 8 → shR E kd n f st r m j = r j := by
  intro m
  induction m with
  | zero => intro _; rfl
  | succ m ih =>
    intro hm
    unfold shR
    split
    · rw [up_j (by omega)]; exact ih (by omega)
    · exact ih (by omega)
theorem shE_b {E : Mem} {kd n f st m : Int} (hE : EBx E) : 0 ≤ shE E kd n f st m ∧ shE E kd n f st m < eG E := by
  have f := hE.f
  have g := hE.1
  unfold shE
  split <;> omega
theorem WR.place {E : Mem} {r : Int → Int} {m v : Int} (hW : WR E r) (hE : EBx E) (hm : 0 ≤ m ∧ m < E 1 5) (o : 0 ≤ v ∧ v < eG E) : WR E (up r (13 + m) v) := by
  have f := hE.f
  obtain ⟨g1, g2, g3⟩ := hE
  have low : ∀ j, j ≤ 12 → up r (13 + m) v j = r j := fun j a => up_j (by omega)
  refine ⟨fun i j i0 i1 j0 j1 q p => ?_, fun i i0 i1 => ?_, fun i i0 i1 => ?_, ?_, by rw [up_j (by omega)]; exact hW.2.2.2.2⟩
  · rw [low i (by omega), low j (by omega)] at q
    rw [low i (by omega)] at p
    exact hW.1 i j i0 i1 j0 j1 q p
  · rw [low i (by omega), low (6 + i) (by omega)]
    exact hW.2.1 i i0 i1
  · have w := hW.2.2.1 i i0 i1
    rw [up_j (j := 13 + m) (i := 21 + i) (by omega), up_j (j := 13 + m) (i := 29 + i) (by omega)]
    by_cases ci : i = m
    · rw [ci, upS]
      rw [ci] at w
      exact ⟨w.1, o, w.2.2⟩
    · rw [up_j (by omega)]
      exact w
  · rw [low 12 (by decide), hW.2.2.2.1]
    exact arF_cg (fun i i0 i1 => by rw [low i (by omega)])
theorem WR.sh {E : Mem} {kd n f st : Int} {r : Int → Int} (hW : WR E r) (hE : EBx E) : ∀ m : Nat, (m : Int) ≤ E 1 5 → WR E (shR E kd n f st r m) := by
  intro m
  induction m with
  | zero => intro _; exact hW
  | succ m ih =>
    intro hm
    unfold shR
    split
    · exact (ih (by omega)).place hE (by omega) (shE_b hE)
    · exact ih (by omega)
abbrev shOK (kd n : Int) : Prop := (0 ≤ kd ∧ kd ≤ 3) ∧ n ≤ 8
def shA (E : Mem) (kd n f st : Int) (r : Int → Int) : Int := if ¬ shOK kd n then -1 else if kd ≠ 3 ∧ n < 0 then -2 else if kd = 3 then -3 else shS E kd n f st r (eO E)
def shRR (E : Mem) (kd n f st : Int) (r : Int → Int) : Int → Int := if shOK kd n ∧ (kd = 3 ∨ 0 ≤ n) then shR E kd n f st r (eO E) else r
theorem WR.shAll {E : Mem} {kd n f st : Int} {r : Int → Int} (hW : WR E r) (hE : EBx E) : WR E (shRR E kd n f st r) := by
  have f' := hE.f
  show WR E (if shOK kd n ∧ (kd = 3 ∨ 0 ≤ n) then shR E kd n f st r (eO E) else r)
  split
  · exact hW.sh hE _ (by omega)
  · exact hW
theorem gX11_cellOfEntry {p1 p2 : Int} {M E : Mem} {Q : Int → Mem → Prop} (hI : IX M) (hS : STR E M) (hp : iR p2) (hQ : Q (max 0 (min (cvF p1 p2) (eG E - 1))) M) : qX11_cellOfEntry p1 p2 M Q := by
  unfold cvF at hQ
  unfold qX11_cellOfEntry qX11_cellOfEntry_J20
  refine ⟨fun c => ⟨fun c2 => ?_, fun c2 => ?_⟩, fun c => ?_⟩
  · refine ⟨hp, gX8_putOnStreet hI hS ?_⟩
    intro _
    rw [if_neg c, if_neg c2] at hQ
    exact hQ
  · intro x5 e5 r5
    refine ⟨r5, gX8_putOnStreet hI hS ?_⟩
    intro _
    rw [if_neg c, if_pos c2, ← e5] at hQ
    exact hQ
  · intro x6 e6 r6
    refine ⟨r6, gX8_putOnStreet hI hS ?_⟩
    intro _
    rw [if_pos c, ← e6] at hQ
    exact hQ
theorem gX11_sheet_L47 {p1 p2 p3 p4 e : Int} {X125 : Int → Mem → Prop} {Q : Int → Mem → Prop} {M0 E : Mem} {r : Int → Int} (he : e = if p1 = 3 then 0 else p2) (he8 : e ≤ 8 ∧ 0 ≤ e) (hS : STR E M0) (hX : ∀ M' : Mem, IX M' → Ks (fun k _ => k = 4) M0 M' → SC E M' 1 (shR E p1 p2 p3 p4 r (eO E)) → X125 (shS E p1 p2 p3 p4 r (eO E)) M') (hW : WR E r) : ∀ (n : Nat) (v6 v7 : Int) (M : Mem), IX M → Ks (fun k _ => k = 4) M0 M → SC E M 1 (shR E p1 p2 p3 p4 r v7.toNat) → v6 = shS E p1 p2 p3 p4 r v7.toNat → (0 ≤ v7 ∧ v7 ≤ E 1 5) → E 1 5 - v7 < (n : Int) → qX11_sheet_L47 p1 p2 p3 p4 X125 Q n e v6 v7 M := by
  intro n
  induction n with
  | zero => intro v6 v7 M hI hK hC h6 hv hm; exact absurd hm (by omega)
  | succ n ih =>
    intro v6 v7 M hI hK hC h6 hv hm
    have ef := hS.eb.f
    have b5 := hS.2.2.2.2.2.2.2.1
    have b3 := hS.2.1
    have S1 : STR E M := hS.fr (hK 158 1 (by omega)) (hK 158 2 (by omega)) (hK 158 3 (by omega)) (fun j => hK 159 j (by omega))
    rw [qX11_sheet_L47]
    intro x6 e6 _
    have f6 : x6 = E 1 5 := by rw [e6]; exact hC.2.1
    refine ⟨⟨by omega, by omega⟩, ⟨fun c => ?_, fun c => ?_⟩⟩
    · rw [show v7.toNat = eO E from by omega] at hC h6
      rw [h6]
      exact hX _ hI hK hC
    have g7 : M 7 v7 = r (29 + v7) := by
      have := hC.2.2.2.2.2.2.2.2.1 v7 hv.1 (by omega)
      rw [shR_o (by omega) _ (by omega)] at this
      exact this
    have hs := shR_s (E := E) (kd := p1) (n := p2) (f := p3) (st := p4) (r := r) hv.1
    have hss := shS_s (E := E) (kd := p1) (n := p2) (f := p3) (st := p4) (r := r) hv.1
    have w := hW.2.2.1 v7 hv.1 (by omega)
    have J104 : ∀ M' : Mem, IX M' → Ks (fun k _ => k = 4) M0 M' → SC E M' 1 (shR E p1 p2 p3 p4 r (v7 + 1).toNat) → qX11_sheet_J104 p1 p2 p3 p4 (qX11_sheet_L47 p1 p2 p3 p4 X125 Q n) X125 Q e v6 v7 M' := by
      intro M' i' k' c'
      unfold qX11_sheet_J104
      refine ⟨by omega, by omega, ?_⟩
      intro x13 e13 _ x14 e14 _
      refine ih _ _ _ i' k' c' ?_ (by omega) (by omega)
      rw [hss, e14, h6, e13]
      congr 2
      exact c'.2.2.2.2.2.1 v7 hv.1 (by omega)
    have J103 : r (29 + v7) < 0 → qX11_sheet_J103 p1 p2 p3 p4 (qX11_sheet_L47 p1 p2 p3 p4 X125 Q n) X125 Q e v6 v7 (shE E p1 p2 p3 p4 v7) v7 M := by
      intro hr
      have bE := shE_b (E := E) (kd := p1) (n := p2) (f := p3) (st := p4) (m := v7) hS.eb
      unfold qX11_sheet_J103
      refine ⟨by omega, by omega, ⟨by omega, by omega⟩, ?_⟩
      intro M20 h20
      refine J104 M20 (by rw [h20]; exact hI.up (by decide) ((bx_s3 (show isS 1 by decide)).mpr ⟨by omega, by omega⟩)) (by rw [h20]; exact hK.wr rfl) ?_
      rw [hs, if_pos hr, h20]
      exact hC.place (by omega)
    refine gX6_hasEnded (k0 := 1) (p1 := v7) ⟨by omega, by omega⟩ ?_
    intro z9 c9 _ _
    rw [g7] at c9
    refine ⟨fun c2 => J104 M hI hK (by rw [hs, if_neg (by omega)]; exact hC), fun c2 => ⟨⟨by omega, by omega⟩, ⟨fun c3 => ?_, fun c3 => ?_⟩⟩⟩
    · have v : shE E p1 p2 p3 p4 v7 = 0 := by
        unfold shE
        rw [if_pos]
        by_cases c4 : p1 = 3
        · exact Or.inl c4
        · rw [if_neg c4] at he
          exact Or.inr (by omega)
      have := J103 (by omega)
      rw [v] at this
      exact this
    · intro x21 e21 _ x22 e22 r22
      have n3 : p1 ≠ 3 := by
        intro c4
        rw [if_pos c4] at he
        omega
      rw [if_neg n3] at he
      refine gX11_cellOfEntry hI S1 r22 ?_
      intro _
      have v : max 0 (min (cvF p1 x22) (eG E - 1)) = shE E p1 p2 p3 p4 v7 := by
        unfold shE
        rw [if_neg (by omega), e22, e21]
      rw [v]
      exact J103 (by omega)
theorem gX11_sheet {p1 p2 p3 p4 : Int} {M E : Mem} {r : Int → Int} {Q : Int → Mem → Prop} (hI : IX M) (hS : STR E M) (hC : SC E M 1 r) (hW : WR E r) (hQ : ∀ M' : Mem, IX M' → Ks (fun k _ => k = 4) M M' → SC E M' 1 (shRR E p1 p2 p3 p4 r) → Q (shA E p1 p2 p3 p4 r) M') : qX11_sheet p1 p2 p3 p4 M Q := by
  have b5 := hS.2.2.2.2.2.2.2.1
  have ef := hS.eb.f
  unfold shA shRR at hQ
  have BAD : ¬ shOK p1 p2 → Q (-1) M := fun q => by
    have := hQ M hI Ks.rf (by rw [if_neg (fun u => q u.1)]; exact hC)
    rw [if_pos q] at this
    exact this
  have GO : shOK p1 p2 → (p1 = 3 ∨ 0 ≤ p2) → qX11_sheet_J29 p1 p2 p3 p4 Q M := by
    intro ok hn
    have FIN : ∀ M' : Mem, IX M' → Ks (fun k _ => k = 4) M M' → SC E M' 1 (shR E p1 p2 p3 p4 r (eO E)) → (((¬ p1 = 3) → (iR (shS E p1 p2 p3 p4 r (eO E)) ∧ Q (shS E p1 p2 p3 p4 r (eO E)) M')) ∧ ((p1 = 3) → Q (-3) M')) := by
      intro M' i' k' c'
      have H := hQ M' i' k' (by rw [if_pos ⟨ok, hn⟩]; exact c')
      rw [if_neg (fun q => q ok), if_neg (by omega)] at H
      refine ⟨fun c => ⟨?_, ?_⟩, fun c => ?_⟩
      · cases h : eO E with
        | zero => exact ⟨by show -2147483648 ≤ (0 : Int); decide, by show (0 : Int) ≤ 2147483647; decide⟩
        | succ m => exact w32_R _
      · rw [if_neg c] at H
        exact H
      · rw [if_pos c] at H
        exact H
    unfold qX11_sheet_J29
    refine ⟨fun c => ⟨9, ?_⟩, fun c => ⟨9, ?_⟩⟩
    · exact gX11_sheet_L47 (M0 := M) (r := r) (by rw [if_neg c]) (by omega) hS FIN hW _ _ _ _ hI Ks.rf hC rfl (by omega) (by omega)
    · exact gX11_sheet_L47 (M0 := M) (r := r) (by rw [if_pos c]) (by omega) hS FIN hW _ _ _ _ hI Ks.rf hC rfl (by omega) (by omega)
  unfold qX11_sheet
  refine ⟨fun c => BAD (by unfold shOK; omega), fun c => ⟨fun c2 => BAD (by unfold shOK; omega), fun c2 => ⟨fun c3 => ⟨fun c4 => GO ⟨by omega, by omega⟩ (by omega), fun c4 => ⟨fun c5 => GO ⟨by omega, by omega⟩ (by omega), fun c5 => ?_⟩⟩, fun c3 => BAD (by unfold shOK; omega)⟩⟩⟩
  have := hQ M hI Ks.rf (by rw [if_neg (by unfold shOK; omega)]; exact hC)
  rw [if_neg (by unfold shOK; omega), if_pos (by omega)] at this
  exact this
theorem gX12_sheet_L46 {p1 p2 p3 p4 b : Int} {X177 : Int → Mem → Prop} {Q : Int → Mem → Prop} {M0 E : Mem} {r : Int → Int} (h3 : iR p3) (hEb : EBx E) (hX : ∀ M' : Mem, IM b M' → FrJ (fun k _ => k = 5) M0 M' → M' 5 = shR E p1 p2 p3 p4 r (eO E) → X177 (shS E p1 p2 p3 p4 r (eO E)) M') : ∀ (n : Nat) (v5 v6 v7 : Int) (M : Mem), IM b M → CE E M → FrJ (fun k _ => k = 5) M0 M → M 5 = shR E p1 p2 p3 p4 r v7.toNat → v5 = shS E p1 p2 p3 p4 r v7.toNat → v6 = w32 (p3 + w32 (v7 * p4)) → (0 ≤ v7 ∧ v7 ≤ E 1 5) → E 1 5 - v7 < (n : Int) → qX12_sheet_L46 p1 p2 p3 p4 X177 Q n v5 v6 v7 M := by
  intro n
  induction n with
  | zero => intro v5 v6 v7 M hI hE hF h5 hv5 hv6 hv hm; exact absurd hm (by omega)
  | succ n ih =>
    intro v5 v6 v7 M hI hE hF h5 hv5 hv6 hv hm
    have ef := hEb.f
    have b5 := hEb.2.2
    have bg := hE.g hI
    have e5 : M 1 5 = E 1 5 := hE 1 5 cE15
    rw [qX12_sheet_L46]
    intro x6 e6 _
    refine ⟨⟨by omega, by omega⟩, ⟨fun c => ?_, fun c => ?_⟩⟩
    · rw [show v7.toNat = eO E from by omega] at h5 hv5
      rw [hv5]
      exact hX _ hI hF h5
    have g29 : M 5 (29 + v7) = r (29 + v7) := by rw [h5]; exact shR_o (by omega) _ (by omega)
    have hs := shR_s (E := E) (kd := p1) (n := p2) (f := p3) (st := p4) (r := r) hv.1
    have hss := shS_s (E := E) (kd := p1) (n := p2) (f := p3) (st := p4) (r := r) hv.1
    have w13 : w32 (13 + v7) = 13 + v7 := w32_id ⟨by omega, by omega⟩
    have J148 : ∀ t0 : Int, (-1 ≤ t0 ∧ t0 ≤ 29) → up (M 5) (13 + v7) t0 = shR E p1 p2 p3 p4 r (v7 + 1).toNat → qX12_sheet_J148 p1 p2 p3 p4 (qX12_sheet_L46 p1 p2 p3 p4 X177 Q n) X177 Q v5 v6 v7 t0 (13 + v7) M := by
      intro t0 ht hr
      unfold qX12_sheet_J148
      refine ⟨by omega, by omega, ⟨by omega, by omega⟩, ?_⟩
      intro M19 h19 x20 e20 _
      have f20 : x20 = 13 + v7 := by rw [e20]; exact w13
      refine ⟨by omega, by omega, ?_⟩
      intro x23 e23 _ x24 e24 _ x25 e25 _
      have k19 : M19 5 = shR E p1 p2 p3 p4 r (v7 + 1).toNat := by rw [h19, up2_up]; exact hr
      refine ih _ _ _ _ (by rw [h19]; exact hI.up (by omega) ((bm_n (Or.inl rfl)).mpr ⟨by omega, by omega, by omega, by omega⟩)) (by rw [h19]; exact hE.up (by intro h; rcases h with h | h | h | h | h <;> omega)) (by rw [h19]; exact hF.up rfl) k19 ?_ ?_ (by omega) (by omega)
      · rw [hss, e24, hv5, e23, k19, f20]
      · rw [e25, hv6, w32_l, w32_r, show (v7 + 1) * p4 = v7 * p4 + p4 from by rw [Int.add_mul, Int.one_mul], show p3 + w32 (v7 * p4) + p4 = (p3 + p4) + w32 (v7 * p4) from by omega, w32_r]
        congr 1
        omega
    have J110 : qX12_sheet_J110 p1 p2 p3 p4 (qX12_sheet_L46 p1 p2 p3 p4 X177 Q n) X177 Q v5 v6 v7 (shE E p1 p2 p3 p4 v7) M := by
      have bE := shE_b (E := E) (kd := p1) (n := p2) (f := p3) (st := p4) (m := v7) hEb
      unfold qX12_sheet_J110
      intro x12 e12 _
      rw [w13] at e12
      subst e12
      refine ⟨⟨by omega, by omega⟩, ?_⟩
      refine gX12_isEnded (k0 := 5) (p1 := v7) ⟨by omega, by omega⟩ ?_
      intro z14 c14 _ _
      rw [g29] at c14
      refine ⟨fun c2 => ?_, fun c2 => ?_⟩
      · exact J148 _ ⟨by omega, by omega⟩ (by rw [hs, if_pos (by omega), h5])
      · intro x26 e26 _
        rw [w13] at e26
        refine ⟨by omega, by omega, ?_⟩
        intro x29 e29 _
        have b29 : -1 ≤ x29 ∧ x29 ≤ 29 := by rw [e29]; exact ((bm_n (Or.inl rfl)).mp (hI.bx _ _)).2.1 ⟨by omega, by omega⟩
        refine J148 _ b29 ?_
        rw [hs, if_neg (by omega), e29, e26, up_id, h5]
    have Z : (p1 = 3 ∨ p2 ≤ v7) → qX12_sheet_J91 p1 p2 p3 p4 (qX12_sheet_L46 p1 p2 p3 p4 X177 Q n) X177 Q v5 v6 v7 M := by
      intro h
      have v : shE E p1 p2 p3 p4 v7 = 0 := by unfold shE; rw [if_pos h]
      rw [v] at J110
      exact J110
    have J78 : ∀ t0 : Int, iR t0 → t0 = cvF p1 v6 → qX12_sheet_J78 p1 p2 p3 p4 (qX12_sheet_L46 p1 p2 p3 p4 X177 Q n) X177 Q v5 v6 v7 t0 M := by
      intro t0 rt ht
      unfold qX12_sheet_J78
      refine ⟨fun c2 => Z (Or.inl c2), fun c2 => ⟨⟨by omega, by omega⟩, ⟨fun c3 => ?_, fun c3 => Z (Or.inr (by omega))⟩⟩⟩
      refine gX12_gate hI hE ?_
      intro _ x33 e33 _
      have f33 : x33 = eG E - 1 := by rw [e33]; exact w32_id ⟨by omega, by omega⟩
      refine ⟨rt, ?_⟩
      intro x35 e35 _ x36 e36 _
      have v : x36 = shE E p1 p2 p3 p4 v7 := by
        unfold shE
        rw [if_neg (by omega), e36, e35, f33, ht, hv6, Int.min_comm]
      rw [v]
      exact J110
    have r6 : iR v6 := by rw [hv6]; exact w32_R _
    refine ⟨fun c2 => ⟨fun c3 => J78 _ r6 (by unfold cvF; rw [if_neg c2, if_neg c3]), fun c3 => ?_⟩, fun c2 => ?_⟩
    · intro x37 e37 r37
      exact J78 _ r37 (by unfold cvF; rw [if_neg c2, if_pos c3]; exact e37)
    · intro x38 e38 r38
      exact J78 _ r38 (by unfold cvF; rw [if_pos c2]; exact e38)
theorem gX12_sheet {p1 p2 p3 p4 b : Int} {M E : Mem} {Q : Int → Mem → Prop} (hI : IM b M) (hE : CE E M) (hEb : EBx E) (h3 : iR p3) (hQ : ∀ M' : Mem, IM b M' → FrJ (fun k j => k = 5 ∨ (k = 1 ∧ j = 0)) M M' → M' 5 = shRR E p1 p2 p3 p4 (M 5) → Q (shA E p1 p2 p3 p4 (M 5)) M') : qX12_sheet p1 p2 p3 p4 M Q := by
  have ef := hEb.f
  have b5 := hEb.2.2
  unfold shA shRR at hQ
  unfold qX12_sheet
  intro M1 h1
  have i1 : IM b M1 := by rw [h1]; exact hI.up (by omega) (by simp [BM])
  have F1 : FrJ (fun k j => k = 5 ∨ (k = 1 ∧ j = 0)) M M1 := by rw [h1]; exact FrJ.rf.up (Or.inr ⟨rfl, rfl⟩)
  have K1 : M1 5 = M 5 := by rw [h1, up2_n (by decide)]
  have E1 : CE E M1 := by rw [h1]; exact hE.up (by intro h; rcases h with h | h | h | h | h <;> omega)
  have BAD : ¬ shOK p1 p2 → Q (-1) M1 := fun q => by
    have := hQ M1 i1 F1 (by rw [if_neg (fun u => q u.1)]; exact K1)
    rw [if_pos q] at this
    exact this
  have GO : shOK p1 p2 → (p1 = 3 ∨ 0 ≤ p2) → qX12_sheet_J37 p1 p2 p3 p4 Q M1 := by
    intro ok hn
    unfold qX12_sheet_J37
    refine ⟨9, gX12_sheet_L46 (b := b) (M0 := M1) (r := M 5) h3 hEb ?_ _ _ _ _ _ i1 E1 FrJ.rf K1 rfl ?_ (by omega) (by omega)⟩
    · intro M' i' f' c'
      have H := hQ M' i' (F1.tr (f'.mono (fun _ _ q => Or.inl q))) (by rw [if_pos ⟨ok, hn⟩]; exact c')
      rw [if_neg (fun q => q ok), if_neg (by omega)] at H
      refine ⟨fun c => ⟨?_, ?_⟩, fun c => ?_⟩
      · cases h : eO E with
        | zero => exact ⟨by show -2147483648 ≤ (0 : Int); decide, by show (0 : Int) ≤ 2147483647; decide⟩
        | succ m => exact w32_R _
      · rw [if_neg c] at H
        exact H
      · rw [if_pos c] at H
        exact H
    · rw [Int.zero_mul, w32_r, Int.add_zero, w32_id h3]
  refine sX12_in (p0 := p1) (p2 := 0) (p4 := 3) i1 ?_
  intro z hz _ _
  refine ⟨fun c => BAD (by have := hz.2.2 c; unfold shOK; omega), fun c => ?_⟩
  have cp := hz.2.1 (by rcases hz.1 with q | q <;> omega)
  refine ⟨fun c3 => ⟨fun c4 => GO ⟨by omega, by omega⟩ (by omega), fun c4 => ⟨fun c5 => GO ⟨by omega, by omega⟩ (by omega), fun c5 => ?_⟩⟩, fun c3 => BAD (by unfold shOK; omega)⟩
  have := hQ M1 i1 F1 (by rw [if_neg (by unfold shOK; omega)]; exact K1)
  rw [if_neg (by unfold shOK; omega), if_pos (by omega)] at this
  exact this
/-- only now changes -/
theorem STA.now {E MX MM MX' MM' : Mem} {r' : Int → Int} (h : STA E MX MM) (hE : EBx E) (hI : IX MX) (kx : Ks (fun k _ => 1 ≤ k ∧ k ≤ 7) MX MX') (hC : SC E MX' 1 r') (km : FrJ (fun k j => k = 5 ∨ (k = 1 ∧ j = 0)) MM MM') (m5 : MM' 5 = r') (hW : WR E r') : STA E MX' MM' := by
  obtain ⟨a, b, c, d, e, f⟩ := h
  exact ⟨a.fr (kx _ _ (by omega)) (kx _ _ (by omega)) (kx _ _ (by omega)) (fun j => kx 159 j (by omega)), b.kx hI (kx _ _ (by omega)) (fun k j q => kx k j (by omega)), by rw [m5]; exact hC, by rw [m5]; exact hW, e.fr hE (fun k j q => kx k j (by omega)) (km 1 28 (by omega)) (fun j _ _ => km 15 j (by omega)) (bx_c163_1.mp (hI.bx 163 1)), f.fr (fun k j q => kx k j (by omega)) (fun k j q => km k j (by omega))⟩
