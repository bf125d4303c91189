/-! ACTS: turned, pushed, swapped, steps; undone -/
def tnA (E : Mem) (r : Int → Int) (m : Int) : Int := if ¬ (0 ≤ m ∧ m < E 1 5) then -1 else if 0 ≤ r (29 + m) then -2 else if r (E 3 m) < 0 ∨ r (21 + m) = E 3 m then -3 else if 0 ≤ r (21 + m) then r (21 + m) else -4
def tnR (E : Mem) (r : Int → Int) (m : Int) : Int → Int := if (0 ≤ m ∧ m < E 1 5) ∧ r (29 + m) < 0 ∧ 0 ≤ r (E 3 m) ∧ r (21 + m) ≠ E 3 m then up r (21 + m) (E 3 m) else r
def psV (E : Mem) (r : Int → Int) (m v : Int) : Int := max 0 (min (eG E - 1) (r (13 + m) + v))
abbrev psOK (E : Mem) (m v : Int) : Prop := (0 ≤ m ∧ m < E 1 5) ∧ (-9 ≤ v ∧ v ≤ 9) ∧ v ≠ 0
def psA (E : Mem) (r : Int → Int) (m v : Int) : Int := if ¬ psOK E m v then -1 else if 0 ≤ r (29 + m) then -2 else psV E r m v
def psR (E : Mem) (r : Int → Int) (m v : Int) : Int → Int := if psOK E m v ∧ r (29 + m) < 0 then up r (13 + m) (psV E r m v) else r
abbrev swOK (E : Mem) (a b : Int) : Prop := (0 ≤ a ∧ a < E 1 4) ∧ (0 ≤ b ∧ b < E 1 4) ∧ a ≠ b
def swA (E : Mem) (r : Int → Int) (a b : Int) : Int := if ¬ swOK E a b then -1 else if r a < 0 ∨ r b < 0 then -2 else ab (r b - r a)
def swR (E : Mem) (r : Int → Int) (a b : Int) : Int → Int := if swOK E a b ∧ 0 ≤ r a ∧ 0 ≤ r b then up (up r a (r b)) b (r a) else r
/-- n steps -/
noncomputable def itF (E : Mem) : Nat → (Int → Int) → Int → Int
  | 0, r => r
  | n + 1, r => stF E (itF E n r)
theorem itF_s {E : Mem} {r : Int → Int} {i : Int} (h : 0 ≤ i) : itF E (i + 1).toNat r = stF E (itF E i.toNat r) := by
  rw [show (i + 1).toNat = i.toNat + 1 from by omega]
  rfl
def isDn (z : Int) : Prop := 0 ≤ z ∨ z = -4
theorem tn_nd {E : Mem} {r : Int → Int} {m : Int} (h : ¬ isDn (tnA E r m)) : tnR E r m = r := by
  unfold tnR
  split
  · rename_i c
    exfalso
    apply h
    unfold tnA isDn
    rw [if_neg (by omega), if_neg (by omega), if_neg (by omega)]
    split
    · exact Or.inl (by omega)
    · exact Or.inr rfl
  · rfl
theorem ps_nd {E : Mem} {r : Int → Int} {m v : Int} (h : ¬ isDn (psA E r m v)) : psR E r m v = r := by
  unfold psR
  split
  · rename_i c
    exfalso
    apply h
    unfold psA isDn
    rw [if_neg (fun q => q c.1), if_neg (by omega)]
    unfold psV
    exact Or.inl (by omega)
  · rfl
theorem sw_nd {E : Mem} {r : Int → Int} {a b : Int} (h : ¬ isDn (swA E r a b)) : swR E r a b = r := by
  unfold swR
  split
  · rename_i c
    exfalso
    apply h
    unfold swA isDn
    rw [if_neg (fun q => q c.1), if_neg (by omega)]
    exact Or.inl (ab_b _).1
  · rfl
theorem WR.tn {E : Mem} {r : Int → Int} {m : Int} (hW : WR E r) (hE : EBx E) (ho : ∀ m, 0 ≤ m → m < E 1 5 → 0 ≤ E 3 m ∧ E 3 m < E 1 4) : WR E (tnR E r m) := by
  unfold tnR
  split
  · rename_i c
    have f := hE.f
    obtain ⟨g1, g2, g3⟩ := hE
    have o := ho m c.1.1 c.1.2
    have low : ∀ j, j ≤ 20 → up r (21 + m) (E 3 m) j = r j := fun j a => up_j (by omega)
    refine ⟨fun i j i0 i1 j0 j1 q p => ?_, fun i i0 i1 => ?_, fun i i0 i1 => ?_, ?_, by rw [up_j (by omega)]; exact hW.2.2.2.2⟩
    · rw [low i (by omega), low j (by omega)] at q
      rw [low i (by omega)] at p
      exact hW.1 i j i0 i1 j0 j1 q p
    · rw [low i (by omega), low (6 + i) (by omega)]
      exact hW.2.1 i i0 i1
    · have w := hW.2.2.1 i i0 i1
      rw [up_j (j := 21 + m) (i := 13 + i) (by omega), up_j (j := 21 + m) (i := 29 + i) (by omega)]
      by_cases ci : i = m
      · rw [ci, upS]
        rw [ci] at w
        exact ⟨⟨by omega, o.2⟩, w.2⟩
      · rw [up_j (by omega)]
        exact w
    · rw [low 12 (by decide), hW.2.2.2.1]
      exact arF_cg (fun i i0 i1 => by rw [low i (by omega)])
  · exact hW
theorem WR.ps {E : Mem} {r : Int → Int} {m v : Int} (hW : WR E r) (hE : EBx E) : WR E (psR E r m v) := by
  unfold psR
  split
  · rename_i c
    have f := hE.f
    obtain ⟨g1, g2, g3⟩ := hE
    have o : 0 ≤ psV E r m v ∧ psV E r m v < eG E := by
      unfold psV
      omega
    have c0 : 0 ≤ m ∧ m < E 1 5 := c.1.1
    have low : ∀ j, j ≤ 12 → up r (13 + m) (psV E r m v) j = r j := fun j a => up_j (by omega)
    refine ⟨fun i j i0 i1 j0 j1 q p => ?_, fun i i0 i1 => ?_, fun i i0 i1 => ?_, ?_, by rw [up_j (by omega)]; exact hW.2.2.2.2⟩
    · rw [low i (by omega), low j (by omega)] at q
      rw [low i (by omega)] at p
      exact hW.1 i j i0 i1 j0 j1 q p
    · rw [low i (by omega), low (6 + i) (by omega)]
      exact hW.2.1 i i0 i1
    · have w := hW.2.2.1 i i0 i1
      rw [up_j (j := 13 + m) (i := 21 + i) (by omega), up_j (j := 13 + m) (i := 29 + i) (by omega)]
      by_cases ci : i = m
      · rw [ci, upS]
        rw [ci] at w
        exact ⟨w.1, o, w.2.2⟩
      · rw [up_j (by omega)]
        exact w
    · rw [low 12 (by decide), hW.2.2.2.1]
      exact arF_cg (fun i i0 i1 => by rw [low i (by omega)])
  · exact hW
theorem sw_v {r : Int → Int} {a b i : Int} : up (up r a (r b)) b (r a) i = if i = b then r a else if i = a then r b else r i := by
  by_cases c : i = b
  · rw [if_pos c, c, upS]
  · rw [if_neg c, up_j c]
    by_cases c2 : i = a
    · rw [if_pos c2, c2, upS]
    · rw [if_neg c2, up_j c2]
theorem WR.sw {E : Mem} {r : Int → Int} {a b : Int} (hW : WR E r) (hE : EBx E) : WR E (swR E r a b) := by
  unfold swR
  split
  · rename_i c
    have f := hE.f
    obtain ⟨g1, g2, g3⟩ := hE
    obtain ⟨⟨ha, hb, hn⟩, ra, rb⟩ := c
    have wa := hW.2.1 a ha.1 ha.2
    have wb := hW.2.1 b hb.1 hb.2
    have hi : ∀ j, 6 ≤ j → up (up r a (r b)) b (r a) j = r j := fun j q => by rw [up_j (by omega), up_j (by omega)]
    refine ⟨fun i j i0 i1 j0 j1 q p => ?_, fun i i0 i1 => ?_, fun i i0 i1 => ?_, ?_, by rw [hi 37 (by decide)]; exact hW.2.2.2.2⟩
    · rw [sw_v, sw_v] at q
      rw [sw_v] at p
      have U := fun x y x0 x1 y0 y1 e z => hW.1 x y x0 x1 y0 y1 e z
      by_cases i1' : i = b
      · rw [if_pos i1'] at q p
        by_cases j1' : j = b
        · omega
        · rw [if_neg j1'] at q
          by_cases j2' : j = a
          · rw [if_pos j2'] at q
            have := U a b ha.1 ha.2 hb.1 hb.2 q ra
            omega
          · rw [if_neg j2'] at q
            have := U a j ha.1 ha.2 j0 j1 q ra
            omega
      · rw [if_neg i1'] at q p
        by_cases i2' : i = a
        · rw [if_pos i2'] at q p
          by_cases j1' : j = b
          · rw [if_pos j1'] at q
            have := U b a hb.1 hb.2 ha.1 ha.2 q rb
            omega
          · rw [if_neg j1'] at q
            by_cases j2' : j = a
            · omega
            · rw [if_neg j2'] at q
              have := U b j hb.1 hb.2 j0 j1 q rb
              omega
        · rw [if_neg i2'] at q p
          by_cases j1' : j = b
          · rw [if_pos j1'] at q
            have := U i a i0 i1 ha.1 ha.2 q p
            omega
          · rw [if_neg j1'] at q
            by_cases j2' : j = a
            · rw [if_pos j2'] at q
              have := U i b i0 i1 hb.1 hb.2 q p
              omega
            · rw [if_neg j2'] at q
              exact U i j i0 i1 j0 j1 q p
    · have w := hW.2.1 i i0 i1
      rw [hi (6 + i) (by omega), sw_v]
      by_cases c1 : i = b
      · rw [if_pos c1, c1]
        exact Or.inr ⟨ra, by omega, by omega⟩
      · rw [if_neg c1]
        by_cases c2 : i = a
        · rw [if_pos c2, c2]
          exact Or.inr ⟨rb, by omega, by omega⟩
        · rw [if_neg c2]
          exact w
    · rw [hi (21 + i) (by omega), hi (13 + i) (by omega), hi (29 + i) (by omega)]
      exact hW.2.2.1 i i0 i1
    · rw [hi 12 (by decide), hW.2.2.2.1]
      refine arF_cg (fun i i0 i1 => ?_)
      rw [sw_v]
      by_cases c1 : i = b
      · rw [if_pos c1, c1]; omega
      · rw [if_neg c1]
        by_cases c2 : i = a
        · rw [if_pos c2, c2]; omega
        · rw [if_neg c2]
  · exact hW
-- the step's number
theorem mhF_37 {E : Mem} {r : Int → Int} {h : Int} (hh : 0 ≤ h ∧ h < 6) : mhF E r h 37 = r 37 := by
  unfold mhF
  split
  · rfl
  · split
    · rw [up_j (by omega), up_j (by omega), up_j (by omega)]
    · rw [up_j (by omega)]
theorem lnL_mem {r : Int → Int} {H : Nat} : ∀ (c : Nat) (x : Int), x ∈ lnL r H c → 0 ≤ x ∧ x < H := by
  intro c
  induction c with
  | zero => intro x h; exact absurd h (by unfold lnL; exact List.not_mem_nil)
  | succ c ih =>
    intro x h
    unfold lnL at h
    split at h
    · rename_i q
      rcases List.mem_cons.mp h with e | e
      · have := onF_b r H c
        rw [e]
        exact ⟨q, this.2⟩
      · exact ih x e
    · exact ih x h
theorem hsF_37 {E : Mem} : ∀ (l : List Int) (r : Int → Int), (∀ x, x ∈ l → 0 ≤ x ∧ x < 6) → hsF E l r 37 = r 37 := by
  intro l
  induction l with
  | nil => intro r h; rfl
  | cons h t ih =>
    intro r hl
    show hsF E t (mhF E r h) 37 = r 37
    rw [ih _ (fun x q => hl x (List.mem_cons_of_mem _ q)), mhF_37 (hl h List.mem_cons_self)]
theorem msF_37 {E : Mem} {r : Int → Int} : ∀ n : Nat, n ≤ 8 → msF E n r 37 = r 37 := by
  intro n
  induction n with
  | zero => intro _; rfl
  | succ n ih =>
    intro h
    have i := ih (by omega)
    show (if 0 ≤ msF E n r (29 + n) then msF E n r else mmF E (msF E n r) n) 37 = r 37
    split
    · exact i
    · rw [mmF_o ⟨by omega, by omega, by omega⟩]; exact i
theorem stF_37 {E : Mem} {r : Int → Int} (hE : EBx E) : stF E r 37 = r 37 + 1 := by
  have f := hE.f
  have g := hE.2
  unfold stF
  rw [upS, msF_37 _ (by omega), hsF_37 _ _ (fun x q => by have := lnL_mem _ x q; omega)]
theorem itF_37 {E : Mem} {r : Int → Int} (hE : EBx E) (n : Nat) : itF E n r 37 = r 37 + n := by
  induction n with
  | zero => show r 37 = r 37 + ((0 : Nat) : Int); omega
  | succ n ih =>
    show stF E (itF E n r) 37 = _
    rw [stF_37 hE, ih]
    omega
-- the reference
theorem gX12_isMourner {p1 b : Int} {M E : Mem} {Q : Int → Mem → Prop} (hI : IM b M) (hE : CE E M) (hQ : ∀ z : Int, (z = 1 ∧ (0 ≤ p1 ∧ p1 < E 1 5) ∨ z = 0 ∧ ¬ (0 ≤ p1 ∧ p1 < E 1 5)) → Q z M) : qX12_isMourner p1 M Q := by
  have e5 : M 1 5 = E 1 5 := hE 1 5 cE15
  have b5 := bm_c1_5.mp (hI.bx 1 5)
  unfold qX12_isMourner
  intro x1 e1 _
  refine ⟨⟨by omega, by omega⟩, ?_⟩
  refine sX12_in (p0 := p1) (p2 := 0) (p4 := x1 - 1) hI ?_
  intro z hz _ _
  refine ⟨hz.1, hQ _ ?_⟩
  rcases hz.1 with c | c
  · have := hz.2.2 c
    exact Or.inr ⟨c, by omega⟩
  · have := hz.2.1 c
    exact Or.inl ⟨c, by omega, by omega⟩
theorem gX12_isHearse {p1 b : Int} {M E : Mem} {Q : Int → Mem → Prop} (hI : IM b M) (hE : CE E M) (hQ : ∀ z : Int, (z = 1 ∧ (0 ≤ p1 ∧ p1 < E 1 4) ∨ z = 0 ∧ ¬ (0 ≤ p1 ∧ p1 < E 1 4)) → Q z M) : qX12_isHearse p1 M Q := by
  have e5 : M 1 4 = E 1 4 := hE 1 4 cE14
  have b5 := bm_c1_4.mp (hI.bx 1 4)
  unfold qX12_isHearse
  intro x1 e1 _
  refine ⟨⟨by omega, by omega⟩, ?_⟩
  refine sX12_in (p0 := p1) (p2 := 0) (p4 := x1 - 1) hI ?_
  intro z hz _ _
  refine ⟨hz.1, hQ _ ?_⟩
  rcases hz.1 with c | c
  · have := hz.2.2 c
    exact Or.inr ⟨c, by omega⟩
  · have := hz.2.1 c
    exact Or.inl ⟨c, by omega, by omega⟩
theorem gX12_turnsOne {k1 : Nat} {p2 b : Int} {M E : Mem} {Q : Int → Mem → Prop} (hI : IM b M) (hE : CE E M) (hk1 : isN k1) (hQ : ∀ M' : Mem, IM b M' → FrJ (fun k _ => k = k1) M M' → M' k1 = tnR E (M k1) p2 → Q (tnA E (M k1) p2) M') : qX12_turnsOne k1 p2 M Q := by
  have hk : k1 = 5 ∨ k1 = 6 := hk1
  have bo := (hE.o hI).2
  have e5 : M 1 5 = E 1 5 := hE 1 5 cE15
  have SAME : ∀ z, tnA E (M k1) p2 = z → tnR E (M k1) p2 = M k1 → Q z M := by
    intro z hz hr
    have := hQ M hI FrJ.rf hr.symm
    rw [hz] at this
    exact this
  unfold qX12_turnsOne
  refine gX12_isMourner hI hE ?_
  intro z1 c1 _ _
  refine ⟨fun d => ?_, fun d => SAME _ (by unfold tnA; rw [if_pos (by omega)]) (by unfold tnR; rw [if_neg (by omega)])⟩
  have c : 0 ≤ p2 ∧ p2 < E 1 5 := by omega
  refine gX12_isEnded (p1 := p2) ⟨by omega, by omega⟩ ?_
  intro z2 c2 _ _
  refine ⟨fun d2 => ?_, fun d2 => SAME _ (by unfold tnA; rw [if_neg (by omega), if_pos (by omega)]) (by unfold tnR; rw [if_neg (by omega)])⟩
  refine ⟨by omega, by omega, ?_⟩
  intro x7 e7 _
  refine ⟨by omega, by omega, ?_⟩
  intro x10 e10 _
  have b10 : 0 ≤ x10 ∧ x10 ≤ 5 := by rw [e10]; exact bm_c3.mp (hI.bx _ _)
  have f10 : x10 = E 3 p2 := by rw [e10]; exact hE 3 p2 (cE3 p2)
  refine gX12_isOn (p1 := x10) ⟨by omega, by omega⟩ ?_
  intro z3 c3 _ _
  rw [f10] at c3
  refine ⟨fun d3 => SAME _ (by unfold tnA; rw [if_neg (by omega), if_neg (by omega), if_pos (by omega)]) (by unfold tnR; rw [if_neg (by omega)]), fun d3 => ?_⟩
  intro x13 e13 _
  have f13 : x13 = E 3 p2 := by rw [e13]; exact hE 3 p2 (cE3 p2)
  refine ⟨fun d4 => ?_, fun d4 => SAME _ (by unfold tnA; rw [if_neg (by omega), if_neg (by omega), if_pos (by omega)]) (by unfold tnR; rw [if_neg (by omega)])⟩
  intro x15 e15 _ M16 h16
  have f15 : x15 = E 3 p2 := by rw [e15]; exact hE 3 p2 (cE3 p2)
  have i16 : IM b M16 := by rw [h16]; exact hI.up (by omega) ((bm_n hk1).mpr ⟨by omega, by omega, by omega, by omega⟩)
  have H := hQ M16 i16 (by rw [h16]; exact FrJ.rf.up rfl) (by rw [h16, up2_up, f15]; unfold tnR; rw [if_pos (by omega)])
  unfold tnA at H
  rw [if_neg (by omega), if_neg (by omega), if_neg (by omega)] at H
  refine ⟨fun d5 => ?_, fun d5 => ?_⟩
  · rw [if_pos (by omega), ← e7] at H
    exact H
  · rw [if_neg (by omega)] at H
    exact H
theorem gX12_pushesOne {k1 : Nat} {p2 p3 b : Int} {M E : Mem} {Q : Int → Mem → Prop} (hI : IM b M) (hE : CE E M) (hk1 : isN k1) (hQ : ∀ M' : Mem, IM b M' → FrJ (fun k _ => k = k1) M M' → M' k1 = psR E (M k1) p2 p3 → Q (psA E (M k1) p2 p3) M') : qX12_pushesOne k1 p2 p3 M Q := by
  have hk : k1 = 5 ∨ k1 = 6 := hk1
  have bo := (hE.o hI).2
  have bg := hE.g hI
  have e5 : M 1 5 = E 1 5 := hE 1 5 cE15
  have SAME : ∀ z, psA E (M k1) p2 p3 = z → psR E (M k1) p2 p3 = M k1 → Q z M := by
    intro z hz hr
    have := hQ M hI FrJ.rf hr.symm
    rw [hz] at this
    exact this
  unfold qX12_pushesOne
  refine gX12_isMourner hI hE ?_
  intro z1 c1 _ _
  refine ⟨fun d => SAME _ (by unfold psA; rw [if_pos (by unfold psOK; omega)]) (by unfold psR; rw [if_neg (by unfold psOK; omega)]), fun d => ?_⟩
  refine sX12_in (p0 := p3) (p2 := (-9)) (p4 := 9) hI ?_
  intro z2 c2 _ _
  refine ⟨fun d2 => SAME _ (by unfold psA; rw [if_pos (by have := c2.2.2 d2; unfold psOK; omega)]) (by unfold psR; rw [if_neg (by have := c2.2.2 d2; unfold psOK; omega)]), fun d2 => ?_⟩
  have c9 := c2.2.1 (by rcases c2.1 with q | q <;> omega)
  refine ⟨fun d3 => ?_, fun d3 => SAME _ (by unfold psA; rw [if_pos (by unfold psOK; omega)]) (by unfold psR; rw [if_neg (by unfold psOK; omega)])⟩
  have ok : psOK E p2 p3 := ⟨by omega, by omega, d3⟩
  refine gX12_isEnded (p1 := p2) ⟨by omega, by omega⟩ ?_
  intro z3 c3 _ _
  refine ⟨fun d4 => ?_, fun d4 => SAME _ (by unfold psA; rw [if_neg (fun q => q ok), if_pos (by omega)]) (by unfold psR; rw [if_neg (by omega)])⟩
  refine gX12_gate hI hE ?_
  intro _
  refine ⟨by omega, by omega, ?_⟩
  intro x11 e11 _
  have b11 : -1 ≤ x11 ∧ x11 ≤ 29 := by rw [e11]; exact ((bm_n hk1).mp (hI.bx _ _)).2.1 ⟨by omega, by omega⟩
  refine ⟨⟨by omega, by omega⟩, ⟨by omega, by omega⟩, ?_⟩
  intro x14 e14 _ x15 e15 _ M16 h16 x17 e17 _
  have v15 : x15 = psV E (M k1) p2 p3 := by rw [e15, e14, e11]; rfl
  have i16 : IM b M16 := by rw [h16]; exact hI.up (by omega) ((bm_n hk1).mpr ⟨by omega, by omega, by omega, by omega⟩)
  have H := hQ M16 i16 (by rw [h16]; exact FrJ.rf.up rfl) (by rw [h16, up2_up, v15]; unfold psR; rw [if_pos ⟨ok, by omega⟩])
  unfold psA at H
  rw [if_neg (fun q => q ok), if_neg (by omega), ← v15] at H
  rw [e17, h16, up2_s]
  rw [h16] at H
  exact H
theorem gX12_swapsTwo {p1 p2 b : Int} {M E : Mem} {Q : Int → Mem → Prop} (hI : IM b M) (hE : CE E M) (hQ : ∀ M' : Mem, IM b M' → FrJ (fun k _ => k = 5) M M' → M' 5 = swR E (M 5) p1 p2 → Q (swA E (M 5) p1 p2) M') : qX12_swapsTwo p1 p2 M Q := by
  have bo := (hE.h hI).2
  have e4 : M 1 4 = E 1 4 := hE 1 4 cE14
  have SAME : ∀ z, swA E (M 5) p1 p2 = z → swR E (M 5) p1 p2 = M 5 → Q z M := by
    intro z hz hr
    have := hQ M hI FrJ.rf hr.symm
    rw [hz] at this
    exact this
  unfold qX12_swapsTwo
  refine gX12_isHearse hI hE ?_
  intro z1 c1 _ _
  refine ⟨fun d => SAME _ (by unfold swA; rw [if_pos (by unfold swOK; omega)]) (by unfold swR; rw [if_neg (by unfold swOK; omega)]), fun d => ?_⟩
  refine gX12_isHearse hI hE ?_
  intro z2 c2 _ _
  refine ⟨fun d2 => SAME _ (by unfold swA; rw [if_pos (by unfold swOK; omega)]) (by unfold swR; rw [if_neg (by unfold swOK; omega)]), fun d2 => ?_⟩
  refine ⟨fun d3 => ?_, fun d3 => SAME _ (by unfold swA; rw [if_pos (by unfold swOK; omega)]) (by unfold swR; rw [if_neg (by unfold swOK; omega)])⟩
  have ok : swOK E p1 p2 := ⟨by omega, by omega, d3⟩
  refine gX12_isOn (p1 := p1) ⟨by omega, by omega⟩ ?_
  intro z3 c3 _ _
  refine ⟨fun d4 => SAME _ (by unfold swA; rw [if_neg (fun q => q ok), if_pos (by omega)]) (by unfold swR; rw [if_neg (by omega)]), fun d4 => ?_⟩
  refine gX12_isOn (p1 := p2) ⟨by omega, by omega⟩ ?_
  intro z4 c4 _ _
  refine ⟨fun d5 => ?_, fun d5 => SAME _ (by unfold swA; rw [if_neg (fun q => q ok), if_pos (by omega)]) (by unfold swR; rw [if_neg (by omega)])⟩
  refine ⟨by omega, by omega, ?_⟩
  intro x12 e12 _
  refine ⟨by omega, by omega, ?_⟩
  intro x15 e15 _ M16 h16 M17 h17 x18 e18 _ x19 e19 _
  have b12 : -1 ≤ x12 ∧ x12 ≤ 29 := by rw [e12]; exact ((bm_n (Or.inl rfl)).mp (hI.bx _ _)).1 ⟨by omega, by omega⟩
  have b15 : -1 ≤ x15 ∧ x15 ≤ 29 := by rw [e15]; exact ((bm_n (Or.inl rfl)).mp (hI.bx _ _)).1 ⟨by omega, by omega⟩
  have i16 : IM b M16 := by rw [h16]; exact hI.up (by omega) ((bm_n (Or.inl rfl)).mpr ⟨by omega, by omega, by omega, by omega⟩)
  have i17 : IM b M17 := by rw [h17]; exact i16.up (by omega) ((bm_n (Or.inl rfl)).mpr ⟨by omega, by omega, by omega, by omega⟩)
  have f19 : x19 = x12 := by rw [e19, h17, up2_s]
  have f18 : x18 = x15 := by rw [e18, h17, up2_j (by omega), h16, up2_s]
  refine ⟨⟨by omega, by omega⟩, ?_⟩
  intro x21 p21 n21
  have f21 : x21 = ab (M 5 p2 - M 5 p1) := by
    have := ab_e p21 n21
    rw [this, f18, f19, e15, e12]
  have bb := ab_b (M 5 p2 - M 5 p1)
  refine ⟨⟨by omega, by omega⟩, ?_⟩
  have H := hQ M17 i17 (by rw [h17, h16]; exact (FrJ.rf.up rfl).up rfl) (by rw [h17, up2_up, h16, up2_up, e15, e12]; unfold swR; rw [if_pos ⟨ok, by omega, by omega⟩])
  unfold swA at H
  rw [if_neg (fun q => q ok), if_neg (by omega), ← f21] at H
  exact H
theorem gX12_goesOn_L12 {k1 : Nat} {p2 b : Int} {X31 Q : Mem → Prop} {M0 : Mem} (hX : ∀ M' : Mem, IM b M' → FrJ (fun k j => (k = 1 ∧ (j = 30 ∨ j = 31)) ∨ k = 16 ∨ k = 17) M0 M' → X31 M') : ∀ (n : Nat) (v3 : Int) (M : Mem), IM b M → FrJ (fun k j => (k = 1 ∧ (j = 30 ∨ j = 31)) ∨ k = 16 ∨ k = 17) M0 M → (0 ≤ v3 ∧ v3 ≤ 30) → 30 - v3 < (n : Int) → qX12_goesOn_L12 k1 p2 X31 Q n v3 M := by
  intro n
  induction n with
  | zero => intro v3 M hI hF hv hm; exact absurd hm (by omega)
  | succ n ih =>
    intro v3 M hI hF hv hm
    rw [qX12_goesOn_L12]
    refine ⟨⟨by omega, by omega⟩, ⟨fun c => hX _ hI hF, fun c => ⟨by omega, by omega, ?_⟩⟩⟩
    intro M7 h7
    exact ih _ _ (by rw [h7]; exact hI.up (by omega) (by simp [BM])) (by rw [h7]; exact hF.up (by omega)) (by omega) (by omega)
theorem gX12_goesOn_L33 {k1 : Nat} {p2 b : Int} {X52 Q : Mem → Prop} {M0 : Mem} (hX : ∀ M' : Mem, IM b M' → FrJ (fun k j => (k = 1 ∧ (j = 30 ∨ j = 31)) ∨ k = 16 ∨ k = 17) M0 M' → X52 M') : ∀ (n : Nat) (v3 : Int) (M : Mem), IM b M → FrJ (fun k j => (k = 1 ∧ (j = 30 ∨ j = 31)) ∨ k = 16 ∨ k = 17) M0 M → (0 ≤ v3 ∧ v3 ≤ 8) → 8 - v3 < (n : Int) → qX12_goesOn_L33 k1 p2 X52 Q n v3 M := by
  intro n
  induction n with
  | zero => intro v3 M hI hF hv hm; exact absurd hm (by omega)
  | succ n ih =>
    intro v3 M hI hF hv hm
    rw [qX12_goesOn_L33]
    refine ⟨⟨by omega, by omega⟩, ⟨fun c => hX _ hI hF, fun c => ⟨by omega, by omega, ?_⟩⟩⟩
    intro M13 h13
    exact ih _ _ (by rw [h13]; exact hI.up (by omega) (by simp [BM])) (by rw [h13]; exact hF.up (by omega)) (by omega) (by omega)
theorem gX12_goesOn_L54 {k1 : Nat} {p2 b : Int} {E : Mem} {r : Int → Int} {Q : Mem → Prop} (hk1 : isN k1) (hb : b + 200 ≤ 2000000000) (hp : p2 ≤ 200) (hQ : ∀ M' : Mem, IM (b + 200) M' → CE E M' → M' k1 = itF E p2.toNat r → Q M') : ∀ (n : Nat) (v3 : Int) (M : Mem), IM (b + v3) M → CE E M → M k1 = itF E v3.toNat r → (0 ≤ v3 ∧ (v3 ≤ p2 ∨ v3 = 0)) → 200 - v3 < (n : Int) → qX12_goesOn_L54 k1 p2 Q n v3 M := by
  intro n
  induction n with
  | zero => intro v3 M hI hE hr hv hm; exact absurd hm (by omega)
  | succ n ih =>
    intro v3 M hI hE hr hv hm
    rw [qX12_goesOn_L54]
    refine ⟨⟨by omega, by omega⟩, ⟨fun c => hQ _ (hI.mono (by omega)) hE (by rw [hr, show v3.toNat = p2.toNat from by omega]), fun c => ?_⟩⟩
    refine gX12_stepGoes hI hE (by omega) hk1 ?_
    intro M' i' E' k'
    exact ih _ _ (i'.mono (by omega)) E' (by rw [k', hr, itF_s hv.1]) (by omega) (by omega)
theorem gX12_goesOn {k1 : Nat} {p2 b : Int} {M E : Mem} {Q : Mem → Prop} (hI : IM b M) (hE : CE E M) (hb : b + 200 ≤ 2000000000) (hk1 : isN k1) (hp : p2 ≤ 200) (hQ : ∀ M' : Mem, IM (b + 200) M' → CE E M' → M' k1 = itF E p2.toNat (M k1) → Q M') : qX12_goesOn k1 p2 M Q := by
  have hk : k1 = 5 ∨ k1 = 6 := hk1
  unfold qX12_goesOn
  intro M1 h1 M2 h2
  have i1 : IM b M1 := by rw [h1]; exact hI.up (by omega) (by simp [BM])
  have i2 : IM b M2 := by rw [h2]; exact i1.up (by omega) (by simp [BM])
  have F2 : FrJ (fun k j => (k = 1 ∧ (j = 30 ∨ j = 31)) ∨ k = 16 ∨ k = 17) M M2 := by rw [h2, h1]; exact (FrJ.rf.up (by omega)).up (by omega)
  refine ⟨31, gX12_goesOn_L12 (b := b) (M0 := M) ?_ _ _ _ i2 F2 (by omega) (by omega)⟩
  intro M3 i3 F3
  refine ⟨9, gX12_goesOn_L33 (b := b) (M0 := M) ?_ _ _ _ i3 F3 (by omega) (by omega)⟩
  intro M4 i4 F4
  have E4 : CE E M4 := hE.fr F4 (by intro k j h; rcases h with h | h | h | h | h <;> omega)
  have K4 : M4 k1 = M k1 := funext fun j => F4 k1 j (by omega)
  exact ⟨201, gX12_goesOn_L54 (b := b) (r := M k1) hk1 hb hp hQ _ _ _ (i4.mono (by omega)) E4 (by rw [K4]; rfl) (by omega) (by omega)⟩
-- the class
theorem gX6_isMourner {k0 : Nat} {p1 : Int} {M E : Mem} {r : Int → Int} {Q : Int → Mem → Prop} (hC : SC E M k0 r) (hQ : ∀ z : Int, (z = 1 ∧ (0 ≤ p1 ∧ p1 < E 1 5) ∨ z = 0 ∧ ¬ (0 ≤ p1 ∧ p1 < E 1 5)) → Q z M) : qX6_isMourner k0 p1 M Q := by
  have h7 : M k0 7 = E 1 5 := hC.2.1
  unfold qX6_isMourner
  refine ⟨fun c => hQ _ (Or.inr ⟨rfl, by omega⟩), fun c => ?_⟩
  intro x2 e2 _
  exact ⟨fun c2 => hQ _ (Or.inr ⟨rfl, by omega⟩), fun c2 => hQ _ (Or.inl ⟨rfl, by omega, by omega⟩)⟩
theorem gX6_isHearse {k0 : Nat} {p1 : Int} {M E : Mem} {r : Int → Int} {Q : Int → Mem → Prop} (hC : SC E M k0 r) (hQ : ∀ z : Int, (z = 1 ∧ (0 ≤ p1 ∧ p1 < E 1 4) ∨ z = 0 ∧ ¬ (0 ≤ p1 ∧ p1 < E 1 4)) → Q z M) : qX6_isHearse k0 p1 M Q := by
  have h6 : M k0 6 = E 1 4 := hC.1
  unfold qX6_isHearse
  refine ⟨fun c => hQ _ (Or.inr ⟨rfl, by omega⟩), fun c => ?_⟩
  intro x2 e2 _
  exact ⟨fun c2 => hQ _ (Or.inr ⟨rfl, by omega⟩), fun c2 => hQ _ (Or.inl ⟨rfl, by omega, by omega⟩)⟩
theorem gX6_turn {k0 : Nat} {p1 : Int} {M E : Mem} {r : Int → Int} {Q : Int → Mem → Prop} (hI : IX M) (hk0 : isS k0) (hS : STR E M) (hC : SC E M k0 r) (hW : WR E r) (hQ : ∀ M' : Mem, IX M' → Ks (fun k _ => k = k0 + 5) M M' → SC E M' k0 (tnR E r p1) → Q (tnA E r p1) M') : qX6_turn k0 p1 M Q := by
  have b4 := hS.2.2.2.2.2.2.1
  have b5 := hS.2.2.2.2.2.2.2.1
  have SAME : ∀ z, tnA E r p1 = z → tnR E r p1 = r → Q z M := by
    intro z hz hr
    have := hQ M hI Ks.rf (by rw [hr]; exact hC)
    rw [hz] at this
    exact this
  unfold qX6_turn
  refine gX6_isMourner hC ?_
  intro z1 c1 _ _
  refine ⟨fun d => ?_, fun d => SAME _ (by unfold tnA; rw [if_pos (by omega)]) (by unfold tnR; rw [if_neg (by omega)])⟩
  have c : 0 ≤ p1 ∧ p1 < E 1 5 := by omega
  have w := hW.2.2.1 p1 c.1 c.2
  have o := hS.2.2.2.2.2.2.2.2 p1 c.1 c.2
  have wo := hW.2.1 (E 3 p1) o.1 o.2
  have g6 : M (k0 + 6) p1 = r (29 + p1) := hC.2.2.2.2.2.2.2.2.1 p1 (by omega) (by omega)
  refine gX6_hasEnded (p1 := p1) ⟨by omega, by omega⟩ ?_
  intro z2 c2 _ _
  rw [g6] at c2
  refine ⟨fun d2 => ?_, fun d2 => SAME _ (by unfold tnA; rw [if_neg (by omega), if_pos (by omega)]) (by unfold tnR; rw [if_neg (by omega)])⟩
  refine ⟨by omega, by omega, ?_⟩
  intro x7 e7 _ x8 e8 _
  have f7 : x7 = r (21 + p1) := by rw [e7]; exact hC.2.2.2.2.2.2.2.1 p1 (by omega) (by omega)
  have f8 : x8 = E 3 p1 := by rw [e8]; exact hC.2.2.2.2.2.2.1 p1 (by omega) (by omega)
  have g2 : M (k0 + 2) x8 = r (6 + E 3 p1) := by rw [f8]; exact hC.2.2.2.1 _ (by omega) (by omega)
  refine gX6_hasArrived (p1 := x8) ⟨by omega, by omega⟩ ?_
  intro z3 c3 _ _
  rw [g2] at c3
  refine ⟨fun d3 => SAME _ (by unfold tnA; rw [if_neg (by omega), if_neg (by omega), if_pos (by omega)]) (by unfold tnR; rw [if_neg (by omega)]), fun d3 => ?_⟩
  intro x11 e11 _
  have f11 : x11 = E 3 p1 := by rw [e11]; exact hC.2.2.2.2.2.2.1 p1 (by omega) (by omega)
  refine ⟨fun d4 => ?_, fun d4 => SAME _ (by unfold tnA; rw [if_neg (by omega), if_neg (by omega), if_pos (by omega)]) (by unfold tnR; rw [if_neg (by omega)])⟩
  intro x13 e13 _ M14 h14
  have f13 : x13 = E 3 p1 := by rw [e13]; exact hC.2.2.2.2.2.2.1 p1 (by omega) (by omega)
  have i14 : IX M14 := by rw [h14]; exact hI.up (hk0.nsp 5 (by decide)) ((bx_s5 hk0).mpr ⟨by omega, by omega⟩)
  have H := hQ M14 i14 (by rw [h14]; exact Ks.rf.wr rfl) (by rw [h14, f13]; unfold tnR; rw [if_pos (by omega)]; exact hC.foll (by omega))
  unfold tnA at H
  rw [if_neg (by omega), if_neg (by omega), if_neg (by omega)] at H
  refine ⟨fun d5 => ?_, fun d5 => ?_⟩
  · rw [if_pos (by omega), ← f7] at H
    exact H
  · rw [if_neg (by omega)] at H
    exact H
theorem gX8_putOnStreet {p1 : Int} {M E : Mem} {Q : Int → Mem → Prop} (hI : IX M) (hS : STR E M) (hQ : Q (max 0 (min p1 (eG E - 1))) M) : qX8_putOnStreet p1 M Q := by
  have bg := hS.g
  unfold qX8_putOnStreet
  refine gX8_gate hI hS ?_
  intro _
  refine ⟨⟨by omega, by omega⟩, ?_⟩
  intro x3 e3 _ x4 e4 _
  rw [e4, e3]
  exact hQ
theorem gX6_shove {k0 : Nat} {p1 p2 : Int} {M E : Mem} {r : Int → Int} {Q : Int → Mem → Prop} (hI : IX M) (hk0 : isS k0) (hS : STR E M) (hC : SC E M k0 r) (hW : WR E r) (hQ : ∀ M' : Mem, IX M' → Ks (fun k _ => k = k0 + 3) M M' → SC E M' k0 (psR E r p1 p2) → Q (psA E r p1 p2) M') : qX6_shove k0 p1 p2 M Q := by
  have b5 := hS.2.2.2.2.2.2.2.1
  have bg := hS.g
  have SAME : ∀ z, psA E r p1 p2 = z → psR E r p1 p2 = r → Q z M := by
    intro z hz hr
    have := hQ M hI Ks.rf (by rw [hr]; exact hC)
    rw [hz] at this
    exact this
  have BAD : ¬ psOK E p1 p2 → Q (-1) M := fun q => SAME _ (by unfold psA; rw [if_pos q]) (by unfold psR; rw [if_neg (fun u => q u.1)])
  unfold qX6_shove
  refine gX6_isMourner hC ?_
  intro z1 c1 _ _
  refine ⟨fun d => BAD (by unfold psOK; omega), fun d => ⟨fun d2 => BAD (by unfold psOK; omega), fun d2 => ⟨fun d3 => BAD (by unfold psOK; omega), fun d3 => ⟨fun d4 => ?_, fun d4 => BAD (by unfold psOK; omega)⟩⟩⟩⟩
  have c : 0 ≤ p1 ∧ p1 < E 1 5 := by omega
  have ok : psOK E p1 p2 := ⟨c, by omega, d4⟩
  have w := hW.2.2.1 p1 c.1 c.2
  have g6 : M (k0 + 6) p1 = r (29 + p1) := hC.2.2.2.2.2.2.2.2.1 p1 (by omega) (by omega)
  refine gX6_hasEnded (p1 := p1) ⟨by omega, by omega⟩ ?_
  intro z2 c2 _ _
  rw [g6] at c2
  refine ⟨fun d5 => ?_, fun d5 => SAME _ (by unfold psA; rw [if_neg (fun q => q ok), if_pos (by omega)]) (by unfold psR; rw [if_neg (by omega)])⟩
  refine ⟨by omega, by omega, ?_⟩
  intro x10 e10 _
  have f10 : x10 = r (13 + p1) := by rw [e10]; exact hC.2.2.2.2.2.1 p1 (by omega) (by omega)
  refine ⟨⟨by omega, by omega⟩, ?_⟩
  refine gX8_putOnStreet hI hS ?_
  intro _ M13 h13 x14 e14 _
  have v : max 0 (min (x10 + p2) (eG E - 1)) = psV E r p1 p2 := by
    unfold psV
    rw [f10, Int.min_comm]
  rw [v] at h13
  have bv : 0 ≤ psV E r p1 p2 ∧ psV E r p1 p2 < eG E := by unfold psV; omega
  have i13 : IX M13 := by rw [h13]; exact hI.up (hk0.nsp 3 (by decide)) ((bx_s3 hk0).mpr ⟨by omega, by omega⟩)
  have H := hQ M13 i13 (by rw [h13]; exact Ks.rf.wr rfl) (by rw [h13]; unfold psR; rw [if_pos ⟨ok, by omega⟩]; exact hC.place (by omega))
  unfold psA at H
  rw [if_neg (fun q => q ok), if_neg (by omega)] at H
  rw [e14, h13, up2_s]
  rw [h13] at H
  exact H
theorem gX6_exchange {k0 : Nat} {p1 p2 : Int} {M E : Mem} {r : Int → Int} {Q : Int → Mem → Prop} (hI : IX M) (hk0 : isS k0) (hS : STR E M) (hC : SC E M k0 r) (hW : WR E r) (hQ : ∀ M' : Mem, IX M' → Ks (fun k _ => k = k0 + 1) M M' → SC E M' k0 (swR E r p1 p2) → Q (swA E r p1 p2) M') : qX6_exchange k0 p1 p2 M Q := by
  have b4 := hS.2.2.2.2.2.2.1
  have bg := hS.g
  have SAME : ∀ z, swA E r p1 p2 = z → swR E r p1 p2 = r → Q z M := by
    intro z hz hr
    have := hQ M hI Ks.rf (by rw [hr]; exact hC)
    rw [hz] at this
    exact this
  have BAD : ¬ swOK E p1 p2 → Q (-1) M := fun q => SAME _ (by unfold swA; rw [if_pos q]) (by unfold swR; rw [if_neg (fun u => q u.1)])
  unfold qX6_exchange
  refine gX6_isHearse hC ?_
  intro z1 c1 _ _
  refine ⟨fun d => BAD (by unfold swOK; omega), fun d => ?_⟩
  refine gX6_isHearse hC ?_
  intro z2 c2 _ _
  refine ⟨fun d2 => BAD (by unfold swOK; omega), fun d2 => ⟨fun d3 => ?_, fun d3 => BAD (by unfold swOK; omega)⟩⟩
  have ok : swOK E p1 p2 := ⟨by omega, by omega, d3⟩
  have ca := ok.1
  have cb := ok.2.1
  have wa := hW.2.1 p1 ca.1 ca.2
  have wb := hW.2.1 p2 cb.1 cb.2
  have ga : M (k0 + 2) p1 = r (6 + p1) := hC.2.2.2.1 p1 (by omega) (by omega)
  have gb : M (k0 + 2) p2 = r (6 + p2) := hC.2.2.2.1 p2 (by omega) (by omega)
  refine gX6_hasArrived (p1 := p1) ⟨by omega, by omega⟩ ?_
  intro z3 c3 _ _
  rw [ga] at c3
  refine ⟨fun d4 => SAME _ (by unfold swA; rw [if_neg (fun q => q ok), if_pos (by omega)]) (by unfold swR; rw [if_neg (by omega)]), fun d4 => ?_⟩
  refine gX6_hasArrived (p1 := p2) ⟨by omega, by omega⟩ ?_
  intro z4 c4 _ _
  rw [gb] at c4
  refine ⟨fun d5 => ?_, fun d5 => SAME _ (by unfold swA; rw [if_neg (fun q => q ok), if_pos (by omega)]) (by unfold swR; rw [if_neg (by omega)])⟩
  refine ⟨by omega, by omega, ?_⟩
  intro x12 e12 _
  refine ⟨by omega, by omega, ?_⟩
  intro x15 e15 _ M16 h16 M17 h17 x18 e18 _ x19 e19 _
  have f12 : x12 = r p1 := by rw [e12]; exact hC.2.2.1 p1 (by omega) (by omega)
  have f15 : x15 = r p2 := by rw [e15]; exact hC.2.2.1 p2 (by omega) (by omega)
  have i16 : IX M16 := by rw [h16]; exact hI.up (hk0.nsp 1 (by decide)) ((bx_s1 hk0).mpr ⟨by omega, by omega⟩)
  have i17 : IX M17 := by rw [h17]; exact i16.up (hk0.nsp 1 (by decide)) ((bx_s1 hk0).mpr ⟨by omega, by omega⟩)
  have f19 : x19 = r p1 := by rw [e19, h17, up2_s, f12]
  have f18 : x18 = r p2 := by rw [e18, h17, up2_j (by omega), h16, up2_s, f15]
  refine ⟨⟨by omega, by omega⟩, ?_⟩
  intro x21 p21 n21
  have f21 : x21 = ab (r p2 - r p1) := by
    have := ab_e p21 n21
    rw [this, f18, f19]
  have bb := ab_b (r p2 - r p1)
  refine ⟨⟨by omega, by omega⟩, ?_⟩
  have H := hQ M17 i17 (by rw [h17, h16]; exact (Ks.rf.wr rfl).wr rfl) (by
    rw [h17, h16, f12, f15]
    unfold swR
    rw [if_pos ⟨ok, by omega, by omega⟩]
    exact (hC.cell (by omega)).cell (by omega))
  unfold swA at H
  rw [if_neg (fun q => q ok), if_neg (by omega), ← f21] at H
  exact H
theorem gX10_walk_L7 {k1 k2 : Nat} {p3 : Int} {Q : Mem → Prop} {M0 E : Mem} {r : Int → Int} (hk1 : isS k1) (hk2 : isL k2) (hS : STR E M0) (hL : LAW E M0 k2) (hw : WFC (E 11) (E 1 24)) (h37 : r 37 ≤ 1999999000) (hp : p3 ≤ 200) (hQ : ∀ M' : Mem, IX M' → Ks (kAd k1 k2) M0 M' → SC E M' k1 (itF E p3.toNat r) → WR E (itF E p3.toNat r) → Q M') : ∀ (n : Nat) (v4 : Int) (M : Mem), IX M → Ks (kAd k1 k2) M0 M → SC E M k1 (itF E v4.toNat r) → WR E (itF E v4.toNat r) → (0 ≤ v4 ∧ (v4 ≤ p3 ∨ v4 = 0)) → 200 - v4 < (n : Int) → qX10_walk_L7 k1 k2 p3 Q n v4 M := by
  intro n
  induction n with
  | zero => intro v4 M hI hK hC hW hv hm; exact absurd hm (by omega)
  | succ n ih =>
    intro v4 M hI hK hC hW hv hm
    have el : k2 = 187 ∨ k2 = 192 := hk2
    have es : 0 < k1 ∧ k1 < 155 ∧ (k1 - 1) % 7 = 0 := hk1
    rw [qX10_walk_L7]
    refine ⟨⟨by omega, by omega⟩, ⟨fun c => ?_, fun c => ?_⟩⟩
    · rw [show v4.toNat = p3.toNat from by omega] at hC hW
      exact hQ _ hI hK hC hW
    have S1 : STR E M := hS.fr (hK 158 1 (by unfold kAd; omega)) (hK 158 2 (by unfold kAd; omega)) (hK 158 3 (by unfold kAd; omega)) (fun j => hK 159 j (by unfold kAd; omega))
    have L1 : LAW E M k2 := hL.fr (hK k2 4 (by unfold kAd; omega)) (hK k2 5 (by unfold kAd; omega)) (fun j => hK _ j (by unfold kAd; omega)) (fun j => hK _ j (by unfold kAd; omega))
    have q37 := itF_37 (r := r) hS.eb v4.toNat
    refine gX10_advance hI hk1 hk2 S1 L1 hw hC hW (by omega) ?_
    intro M' i' k' c' w' _
    rw [← itF_s hv.1] at c' w'
    exact ih _ _ i' (hK.tr k') c' w' (by omega) (by omega)
theorem gX10_walk {k1 k2 : Nat} {p3 : Int} {Q : Mem → Prop} {M E : Mem} {r : Int → Int} (hI : IX M) (hk1 : isS k1) (hk2 : isL k2) (hS : STR E M) (hL : LAW E M k2) (hw : WFC (E 11) (E 1 24)) (hC : SC E M k1 r) (hW : WR E r) (h37 : r 37 ≤ 1999999000) (hp : p3 ≤ 200) (hQ : ∀ M' : Mem, IX M' → Ks (kAd k1 k2) M M' → SC E M' k1 (itF E p3.toNat r) → WR E (itF E p3.toNat r) → Q M') : qX10_walk k1 k2 p3 M Q := by
  have el : k2 = 187 ∨ k2 = 192 := hk2
  have es : 0 < k1 ∧ k1 < 155 ∧ (k1 - 1) % 7 = 0 := hk1
  unfold qX10_walk
  refine fmX10_forgetTallies (sX10_forgetTallies hI (Q := fun M' => IX M') (fun _ h => h)) ?_
  intro M1 k1' i1
  have K1 : Ks (kAd k1 k2) M M1 := k1'.mono (by intro k j h; unfold kAd; omega)
  have S1 : STR E M1 := hS.fr (K1 158 1 (by unfold kAd; omega)) (K1 158 2 (by unfold kAd; omega)) (K1 158 3 (by unfold kAd; omega)) (fun j => K1 159 j (by unfold kAd; omega))
  have L1 : LAW E M1 k2 := hL.fr (K1 k2 4 (by unfold kAd; omega)) (K1 k2 5 (by unfold kAd; omega)) (fun j => K1 _ j (by unfold kAd; omega)) (fun j => K1 _ j (by unfold kAd; omega))
  have C1 : SC E M1 k1 r := hC.fr (fun i j hi => k1' _ j (by omega))
  refine ⟨201, gX10_walk_L7 (M0 := M1) (r := r) hk1 hk2 S1 L1 hw h37 hp ?_ _ _ _ i1 Ks.rf C1 hW (by omega) (by omega)⟩
  intro M' i' k' c' w'
  exact hQ _ i' (K1.tr k') c' w'
