section
/-! ACTS: turned, pushed, swapped, steps; undone -/
def tnA (E : Mem) (r : Int → Int) (m : Int) : Int := if ¬ (0 ≤ m ∧ m < E 1 5) then -1 else if 0 ≤ r (29 + m) then -2 else if r (E 3 m) < 0 ∨ r (21 + m) = E 3 m then -3 else if 0 ≤ r (21 + m) then r (21 + m) else -4
def tnR (E : Mem) (r : Int → Int) (m : Int) : Int → Int := if (0 ≤ m ∧ m < E 1 5) ∧ r (29 + m) < 0 ∧ 0 ≤ r (E 3 m) ∧ r (21 + m) ≠ E 3 m then up r (21 + m) (E 3 m) else r
def psV (E : Mem) (r : Int → Int) (m v : Int) : Int := max 0 (min (eG E - 1) (r (13 + m) + v))
abbrev psOK (E : Mem) (m v : Int) : Prop := (0 ≤ m ∧ m < E 1 5) ∧ (-9 ≤ v ∧ v ≤ 9) ∧ v ≠ 0
def psA (E : Mem) (r : Int → Int) (m v : Int) : Int := if ¬ psOK E m v then -1 else if 0 ≤ r (29 + m) then -2 else psV E r m v
def psR (E : Mem) (r : Int → Int) (m v : Int) : Int → Int := if psOK E m v ∧ r (29 + m) < 0 then up r (13 + m) (psV E r m v) else r
abbrev swOK (E : Mem) (a b : Int) : Prop := (0 ≤ a ∧ a < E 1 4) ∧ (0 ≤ b ∧ b < E 1 4) ∧ a ≠ b
def swA (E : Mem) (r : Int → Int) (a b : Int) : Int := if ¬ swOK E a b then -1 else if r a < 0 ∨ r b < 0 then -2 else ab (r b - r a)
def swR (E : Mem) (r : Int → Int) (a b : Int) : Int → Int := if swOK E a b ∧ 0 ≤ r a ∧ 0 ≤ r b then up (up r a (r b)) b (r a) else r
/-- n steps -/
noncomputable def itF (E : Mem) : Nat → (Int → Int) → Int → Int
  | 0, r => r
  | n + 1, r => stF E (itF E n r)
theorem itF_s {E : Mem} {r : Int → Int} {i : Int} (h : 0 ≤ i) : itF E (i + 1).toNat r = stF E (itF E i.toNat r) := by
  rw [show (i + 1).toNat = i.toNat + 1 from by omega]
  rfl
def isDn (z : Int) : Prop := 0 ≤ z ∨ z = -4
theorem tn_nd {E : Mem} {r : Int → Int} {m : Int} (h : ¬ isDn (tnA E r m)) : tnR E r m = r := by
  unfold tnR
  split
  · rename_i c
    exfalso
    apply h
    unfold tnA isDn
    rw [if_neg (by omega), if_neg (by omega), if_neg (by omega)]
    split
    · exact Or.inl (by omega)
    · exact Or.inr rfl
  · rfl
theorem ps_nd {E : Mem} {r : Int → Int} {m v : Int} (h : ¬ isDn (psA E r m v)) : psR E r m v = r := by
  unfold psR
  split
  · rename_i c
    exfalso
    apply h
    unfold psA isDn
    rw [if_neg (fun q => q c.1), if_neg (by omega)]
    unfold psV
    exact Or.inl (by omega)
  · rfl
theorem sw_nd {E : Mem} {r : Int → Int} {a b : Int} (h : ¬ isDn (swA E r a b)) : swR E r a b = r := by
  unfold swR
  split
  · rename_i c
    exfalso
    apply h
    unfold swA isDn
    rw [if_neg (fun q => q c.1), if_neg (by omega)]
    exact Or.inl (ab_b _).1
  · rfl
theorem WR.tn {E : Mem} {r : Int → Int} {m : Int} (hW : WR E r) (hE : EBx E) (ho : ∀ m, 0 ≤ m → m < E 1 5 → 0 ≤ E 3 m ∧ E 3 m < E 1 4) : WR E (tnR E r m) := by
  unfold tnR
  split
  · rename_i c
    have f := hE.f
    obtain ⟨g1, g2, g3⟩ := hE
    have o := ho m c.1.1 c.1.2
    have low : ∀ j, j ≤ 20 → up r (21 + m) (E 3 m) j = r j := fun j a => up_j (by omega)
    refine ⟨fun i j i0 i1 j0 j1 q p => ?_, fun i i0 i1 => ?_, fun i i0 i1 => ?_, ?_, by rw [up_j (by omega)]; exact hW.2.2.2.2⟩
    · rw [low i (by omega), low j (by omega)] at q
      rw [low i (by omega)] at p
      exact hW.1 i j i0 i1 j0 j1 q p
    · rw [low i (by omega), low (6 + i) (by omega)]
      exact hW.2.1 i i0 i1
    · have w := hW.2.2.1 i i0 i1
      rw [up_j (j := 21 + m) (i := 13 + i) (by omega), up_j (j := 21 + m) (i := 29 + i) (by omega)]
      by_cases ci : i = m
      · rw [ci, upS]
        rw [ci] at w
        exact ⟨⟨by omega, o.2⟩, w.2⟩
      · rw [up_j (by omega)]
        exact w
    · rw [low 12 (by decide), hW.2.2.2.1]
      exact arF_cg (fun i i0 i1 => by rw [low i (by omega)])
  · exact hW
theorem WR.ps {E : Mem} {r : Int → Int} {m v : Int} (hW : WR E r) (hE : EBx E) : WR E (psR E r m v) := by
  unfold psR
  split
  · rename_i c
    have f := hE.f
    obtain ⟨g1, g2, g3⟩ := hE
    have o : 0 ≤ psV E r m v ∧ psV E r m v < eG E := by
      unfold psV
      omega
    have c0 : 0 ≤ m ∧ m < E 1 5 := c.1.1
    have low : ∀ j, j ≤ 12 → up r (13 + m) (psV E r m v) j = r j := fun j a => up_j (by omega)
    refine ⟨fun i j i0 i1 j0 j1 q p => ?_, fun i i0 i1 => ?_, fun i i0 i1 => ?_, ?_, by rw [up_j (by omega)]; exact hW.2.2.2.2⟩
    · rw [low i (by omega), low j (by omega)] at q
      rw [low i (by omega)] at p
      exact hW.1 i j i0 i1 j0 j1 q p
    · rw [low i (by omega), low (6 + i) (by omega)]
      exact hW.2.1 i i0 i1
    · have w := hW.2.2.1 i i0 i1
      rw [up_j (j := 13 + m) (i := 21 + i) (by omega), up_j (j := 13 + m) (i := 29 + i) (by omega)]
      by_cases ci : i = m
      · rw [ci, upS]
        rw [ci] at w
        exact ⟨w.1, o, w.2.2⟩
      · rw [up_j (by omega)]
        exact w
    · rw [low 12 (by decide), hW.2.2.2.1]
      exact arF_cg (fun i i0 i1 => by rw [low i (by omega)])
  · exact hW
theorem sw_v {r : Int → Int} {a b i : Int} : up (up r a (r b)) b (r a) i = if i = b then r a else if i = a then r b else r i := by
  by_cases c : i = b
  · rw [if_pos c, c, upS]
  · rw [if_neg c, up_j c]
    by_cases c2 : i = a
    · rw [if_pos c2, c2, upS]
    · rw [if_neg c2, up_j c2]
theorem WR.sw {E : Mem} {r : Int → Int} {a b : Int} (hW : WR E r) (hE : EBx E) : WR E (swR E r a b) := by
  unfold swR
  split
  · rename_i c
    have f := hE.f
    obtain ⟨g1, g2, g3⟩ := hE
    obtain ⟨⟨ha, hb, hn⟩, ra, rb⟩ := c
    have wa := hW.2.1 a ha.1 ha.2
    have wb := hW.2.1 b hb.1 hb.2
    have hi : ∀ j, 6 ≤ j → up (up r a (r b)) b (r a) j = r j := fun j q => by rw [up_j (by omega), up_j (by omega)]
    refine ⟨fun i j i0 i1 j0 j1 q p => ?_, fun i i0 i1 => ?_, fun i i0 i1 => ?_, ?_, by rw [hi 37 (by decide)]; exact hW.2.2.2.2⟩
    · rw [sw_v, sw_v] at q
      rw [sw_v] at p
      have U := fun x y x0 x1 y0 y1 e z => hW.1 x y x0 x1 y0 y1 e z
      by_cases i1' : i = b
      · rw [if_pos i1'] at q p
        by_cases j1' : j = b
        · omega
        · rw [if_neg j1'] at q
          by_cases j2' : j = a
          · rw [if_pos j2'] at q
            have := U a b ha.1 ha.2 hb.1 hb.2 q ra
            omega
          · rw [if_neg j2'] at q
            have := U a j ha.1 ha.2 j0 j1 q ra
            omega
      · rw [if_neg i1'] at q p
        by_cases i2' : i = a
        · rw [if_pos i2'] at q p
          by_cases j1' : j = b
          · rw [if_pos j1'] at q
            have := U b a hb.1 hb.2 ha.1 ha.2 q rb
            omega
          · rw [if_neg j1'] at q
            by_cases j2' : j = a
            · omega
            · rw [if_neg j2'] at q
              have := U b j hb.1 hb.2 j0 j1 q rb
              omega
        · rw [if_neg i2'] at q p
          by_cases j1' : j = b
          · rw [if_pos j1'] at q
            have := U i a i0 i1 ha.1 ha.2 q p
            omega
          · rw [if_neg j1'] at q
            by_cases j2' : j = a
            · rw [if_pos j2'] at q
              have := U i b i0 i1 hb.1 hb.2 q p
              omega
            · rw [if_neg j2'] at q
              exact U i j i0 i1 j0 j1 q p
    · have w := hW.2.1 i i0 i1
      rw [hi (6 + i) (by omega), sw_v]
      by_cases c1 : i = b
      · rw [if_pos c1, c1]
        exact Or.inr ⟨ra, by omega, by omega⟩
      · rw [if_neg c1]
        by_cases c2 : i = a
        · rw [if_pos c2, c2]
          exact Or.inr ⟨rb, by omega, by omega⟩
        · rw [if_neg c2]
          exact w
    · rw [hi (21 + i) (by omega), hi (13 + i) (by omega), hi (29 + i) (by omega)]
      exact hW.2.2.1 i i0 i1
    · rw [hi 12 (by decide), hW.2.2.2.1]
      refine arF_cg (fun i i0 i1 => ?_)
      rw [sw_v]
      by_cases c1 : i = b
      · rw [if_pos c1, c1]; omega
      · rw [if_neg c1]
        by_cases c2 : i = a
        · rw [if_pos c2, c2]; omega
        · rw [if_neg c2]
  · exact hW
-- the step's number
theorem mhF_37 {E : Mem} {r : Int → Int} {h : Int} (hh : 0 ≤ h ∧ h < 6) : mhF E r h 37 = r 37 := by
  unfold mhF
  split
  · rfl
  · split
    · rw [up_j (by omega), up_j (by omega), up_j (by omega)]
    · rw [up_j (by omega)]
theorem lnL_mem {r : Int → Int} {H : Nat} : ∀ (c : Nat) (x : Int), x ∈ lnL r H c → 0 ≤ x ∧ x < H := by
  intro c
  induction c with
  | zero => intro x h; exact absurd h (by unfold lnL; exact List.not_mem_nil)
  | succ c ih =>
    intro x h
    unfold lnL at h
    split at h
    · rename_i q
      rcases List.mem_cons.mp h with e | e
      · have := onF_b r H c
        rw [e]
        exact ⟨q, this.2⟩
      · exact ih x e
    · exact ih x h
theorem hsF_37 {E : Mem} : ∀ (l : List Int) (r : Int → Int), (∀ x, x ∈ l → 0 ≤ x ∧ x < 6) → hsF E l r 37 = r 37 := by
  intro l
  induction l with
  | nil => intro r h; rfl
  | cons h t ih =>
    intro r hl
    show hsF E t (mhF E r h) 37 = r 37
    rw [ih _ (fun x q => hl x (List.mem_cons_of_mem _ q)), mhF_37 (hl h List.mem_cons_self)]
theorem msF_37 {E : Mem} {r : Int → Int} : ∀ n : Nat, n ≤ 8 → msF E n r 37 = r 37 := by
  intro n
  induction n with
  | zero => intro _; rfl
  | succ n ih =>
    intro h
    have i := ih (by omega)
    show (if 0 ≤ msF E n r (29 + n) then msF E n r else mmF E (msF E n r) n) 37 = r 37
    split
    · exact i
    · rw [mmF_o ⟨by omega, by omega, by omega⟩]; exact i
theorem stF_37 {E : Mem} {r : Int → Int} (hE : EBx E) : stF E r 37 = r 37 + 1 := by
  have f := hE.f
  have g := hE.2
  unfold stF
  rw [upS, msF_37 _ (by omega), hsF_37 _ _ (fun x q => by have := lnL_mem _ x q; omega)]
theorem itF_37 {E : Mem} {r : Int → Int} (hE : EBx E) (n : Nat) : itF E n r 37 = r 37 + n := by
  induction n with
  | zero => show r 37 = r 37 + ((0 : Nat) : Int); omega
  | succ n ih =>
    show stF E (itF E n r) 37 = _
    rw [stF_37 hE, ih]
    omega
-- the reference
theorem gX12_isMourner {p1 b : Int} {M E : Mem} {Q : Int → Mem → Prop} (hI : IM b M) (hE : CE E M) (hQ : ∀ z : Int, (z = 1 ∧ (0 ≤ p1 ∧ p1 < E 1 5) ∨ z = 0 ∧ ¬ (0 ≤ p1 ∧ p1 < E 1 5)) → Q z M) : qX12_isMourner p1 M Q := by
  have e5 : M 1 5 = E 1 5 := hE 1 5 cE15
  have b5 := bm_c1_5.mp (hI.bx 1 5)
  unfold qX12_isMourner
  intro x1 e1 _
  refine ⟨⟨by omega, by omega⟩, ?_⟩
  refine sX12_in (p0 := p1) (p2 := 0) (p4 := x1 - 1) hI ?_
  intro z hz _ _
  refine ⟨hz.1, hQ _ ?_⟩
  rcases hz.1 with c | c
  · have := hz.2.2 c
    exact Or.inr ⟨c, by omega⟩
  · have := hz.2.1 c
    exact Or.inl ⟨c, by omega, by omega⟩
theorem gX12_isHearse {p1 b : Int} {M E : Mem} {Q : Int → Mem → Prop} (hI : IM b M) (hE : CE E M) (hQ : ∀ z : Int, (z = 1 ∧ (0 ≤ p1 ∧ p1 < E 1 4) ∨ z = 0 ∧ ¬ (0 ≤ p1 ∧ p1 < E 1 4)) → Q z M) : qX12_isHearse p1 M Q := by
  have e5 : M 1 4 = E 1 4 := hE 1 4 cE14
  have b5 := bm_c1_4.mp (hI.bx 1 4)
  unfold qX12_isHearse
  intro x1 e1 _
  refine ⟨⟨by omega, by omega⟩, ?_⟩
  refine sX12_in (p0 := p1) (p2 := 0) (p4 := x1 - 1) hI ?_
  intro z hz _ _
  refine ⟨hz.1, hQ _ ?_⟩
  rcases hz.1 with c | c
  · have := hz.2.2 c
    exact Or.inr ⟨c, by omega⟩
  · have := hz.2.1 c
    exact Or.inl ⟨c, by omega, by omega⟩
theorem gX12_turnsOne {k1 : Nat} {p2 b : Int} {M E : Mem} {Q : Int → Mem → Prop} (hI : IM b M) (hE : CE E M) (hk1 : isN k1) (hQ : ∀ M' : Mem, IM b M' → FrJ (fun k _ => k = k1) M M' → M' k1 = tnR E (M k1) p2 → Q (tnA E (M k1) p2) M') : qX12_turnsOne k1 p2 M Q := by
  have hk : k1 = 5 ∨ k1 = 6 := hk1
  have bo := (hE.o hI).2
  have e5 : M 1 5 = E 1 5 := hE 1 5 cE15
  have SAME : ∀ z, tnA E (M k1) p2 = z → tnR E (M k1) p2 = M k1 → Q z M := by
    intro z hz hr
    have := hQ M hI FrJ.rf hr.symm
    rw [hz] at this
    exact this
  unfold qX12_turnsOne
  refine gX12_isMourner hI hE ?_
  intro z1 c1 _ _
  refine ⟨fun d => ?_, fun d => SAME _ (by unfold tnA; rw [if_pos (by omega)]) (by unfold tnR; rw [if_neg (by omega)])⟩
  have c : 0 ≤ p2 ∧ p2 < E 1 5 := by omega
  refine gX12_isEnded (p1 := p2) ⟨by omega, by omega⟩ ?_
  intro z2 c2 _ _
  refine ⟨fun d2 => ?_, fun d2 => SAME _ (by unfold tnA; rw [if_neg (by omega), if_pos (by omega)]) (by unfold tnR; rw [if_neg (by omega)])⟩
  refine ⟨by omega, by omega, ?_⟩
  intro x7 e7 _
  refine ⟨by omega, by omega, ?_⟩
  intro x10 e10 _
  have b10 : 0 ≤ x10 ∧ x10 ≤ 5 := by rw [e10]; exact bm_c3.mp (hI.bx _ _)
  have f10 : x10 = E 3 p2 := by rw [e10]; exact hE 3 p2 (cE3 p2)
  refine gX12_isOn (p1 := x10) ⟨by omega, by omega⟩ ?_
  intro z3 c3 _ _
  rw [f10] at c3
  refine ⟨fun d3 => SAME _ (by unfold tnA; rw [if_neg (by omega), if_neg (by omega), if_pos (by omega)]) (by unfold tnR; rw [if_neg (by omega)]), fun d3 => ?_⟩
  intro x13 e13 _
  have f13 : x13 = E 3 p2 := by rw [e13]; exact hE 3 p2 (cE3 p2)
  refine ⟨fun d4 => ?_, fun d4 => SAME _ (by unfold tnA; rw [if_neg (by omega), if_neg (by omega), if_pos (by omega)]) (by unfold tnR; rw [if_neg (by omega)])⟩
  intro x15 e15 _ M16 h16
  have f15 : x15 = E 3 p2 := by rw [e15]; exact hE 3 p2 (cE3 p2)
  have i16 : IM b M16 := by rw [h16]; exact hI.up (isN.nu hk1 _) ((bm_n hk1).mpr ⟨by omega, by omega, by omega, by omega⟩)
  have H := hQ M16 i16 (by rw [h16]; exact FrJ.rf.up rfl) (by rw [h16, up2_up, f15]; unfold tnR; rw [if_pos (by omega)])
  unfold tnA at H
  rw [if_neg (by omega), if_neg (by omega), if_neg (by omega)] at H
  refine ⟨fun d5 => ?_, fun d5 => ?_⟩
  · rw [if_pos (by omega), ← e7] at H
    exact H
  · rw [if_neg (by omega)] at H
    exact H
theorem gX12_pushesOne {k1 : Nat} {p2 p3 b : Int} {M E : Mem} {Q : Int → Mem → Prop} (hI : IM b M) (hE : CE E M) (hk1 : isN k1) (hQ : ∀ M' : Mem, IM b M' → FrJ (fun k _ => k = k1) M M' → M' k1 = psR E (M k1) p2 p3 → Q (psA E (M k1) p2 p3) M') : qX12_pushesOne k1 p2 p3 M Q := by
  have hk : k1 = 5 ∨ k1 = 6 := hk1
  have bo := (hE.o hI).2
  have bg := hE.g hI
  have e5 : M 1 5 = E 1 5 := hE 1 5 cE15
  have SAME : ∀ z, psA E (M k1) p2 p3 = z → psR E (M k1) p2 p3 = M k1 → Q z M := by
    intro z hz hr
    have := hQ M hI FrJ.rf hr.symm
    rw [hz] at this
    exact this
  unfold qX12_pushesOne
  refine gX12_isMourner hI hE ?_
  intro z1 c1 _ _
  refine ⟨fun d => SAME _ (by unfold psA; rw [if_pos (by unfold psOK; omega)]) (by unfold psR; rw [if_neg (by unfold psOK; omega)]), fun d => ?_⟩
  refine sX12_in (p0 := p3) (p2 := (-9)) (p4 := 9) hI ?_
  intro z2 c2 _ _
  refine ⟨fun d2 => SAME _ (by unfold psA; rw [if_pos (by have := c2.2.2 d2; unfold psOK; omega)]) (by unfold psR; rw [if_neg (by have := c2.2.2 d2; unfold psOK; omega)]), fun d2 => ?_⟩
  have c9 := c2.2.1 (by rcases c2.1 with q | q <;> omega)
  refine ⟨fun d3 => ?_, fun d3 => SAME _ (by unfold psA; rw [if_pos (by unfold psOK; omega)]) (by unfold psR; rw [if_neg (by unfold psOK; omega)])⟩
  have ok : psOK E p2 p3 := ⟨by omega, by omega, d3⟩
  refine gX12_isEnded (p1 := p2) ⟨by omega, by omega⟩ ?_
  intro z3 c3 _ _
  refine ⟨fun d4 => ?_, fun d4 => SAME _ (by unfold psA; rw [if_neg (fun q => q ok), if_pos (by omega)]) (by unfold psR; rw [if_neg (by omega)])⟩
  refine gX12_gate hI hE ?_
  intro _
  refine ⟨by omega, by omega, ?_⟩
  intro x11 e11 _
  have b11 : -1 ≤ x11 ∧ x11 ≤ 29 := by rw [e11]; exact ((bm_n hk1).mp (hI.bx _ _)).2.1 ⟨by omega, by omega⟩
  refine ⟨⟨by omega, by omega⟩, ⟨by omega, by omega⟩, ?_⟩
  intro x14 e14 _ x15 e15 _ M16 h16 x17 e17 _
  have v15 : x15 = psV E (M k1) p2 p3 := by rw [e15, e14, e11]; rfl
  have i16 : IM b M16 := by rw [h16]; exact hI.up (isN.nu hk1 _) ((bm_n hk1).mpr ⟨by omega, by omega, by omega, by omega⟩)
  have H := hQ M16 i16 (by rw [h16]; exact FrJ.rf.up rfl) (by rw [h16, up2_up, v15]; unfold psR; rw [if_pos ⟨ok, by omega⟩])
  unfold psA at H
  rw [if_neg (fun q => q ok), if_neg (by omega), ← v15] at H
  rw [e17, h16, up2_s]
  rw [h16] at H
  exact H
theorem gX12_swapsTwo {p1 p2 b : Int} {M E : Mem} {Q : Int → Mem → Prop} (hI : IM b M) (hE : CE E M) (hQ : ∀ M' : Mem, IM b M' → FrJ (fun k _ => k = 5) M M' → M' 5 = swR E (M 5) p1 p2 → Q (swA E (M 5) p1 p2) M') : qX12_swapsTwo p1 p2 M Q := by
  have bo := (hE.h hI).2
  have e4 : M 1 4 = E 1 4 := hE 1 4 cE14
  have SAME : ∀ z, swA E (M 5) p1 p2 = z → swR E (M 5) p1 p2 = M 5 → Q z M := by
    intro z hz hr
    have := hQ M hI FrJ.rf hr.symm
    rw [hz] at this
    exact this
  unfold qX12_swapsTwo
  refine gX12_isHearse hI hE ?_
  intro z1 c1 _ _
  refine ⟨fun d => SAME _ (by unfold swA; rw [if_pos (by unfold swOK; omega)]) (by unfold swR; rw [if_neg (by unfold swOK; omega)]), fun d => ?_⟩
  refine gX12_isHearse hI hE ?_
  intro z2 c2 _ _
  refine ⟨fun d2 => SAME _ (by unfold swA; rw [if_pos (by unfold swOK; omega)]) (by unfold swR; rw [if_neg (by unfold swOK; omega)]), fun d2 => ?_⟩
  refine ⟨fun d3 => ?_, fun d3 => SAME _ (by unfold swA; rw [if_pos (by unfold swOK; omega)]) (by unfold swR; rw [if_neg (by unfold swOK; omega)])⟩
  have ok : swOK E p1 p2 := ⟨by omega, by omega, d3⟩
  refine gX12_isOn (p1 := p1) ⟨by omega, by omega⟩ ?_
  intro z3 c3 _ _
  refine ⟨fun d4 => SAME _ (by unfold swA; rw [if_neg (fun q => q ok), if_pos (by omega)]) (by unfold swR; rw [if_neg (by omega)]), fun d4 => ?_⟩
  refine gX12_isOn (p1 := p2) ⟨by omega, by omega⟩ ?_
  intro z4 c4 _ _
  refine ⟨fun d5 => ?_, fun d5 => SAME _ (by unfold swA; rw [if_neg (fun q => q ok), if_pos (by omega)]) (by unfold swR; rw [if_neg (by omega)])⟩
  refine ⟨by omega, by omega, ?_⟩
  intro x12 e12 _
  refine ⟨by omega, by omega, ?_⟩
  intro x15 e15 _ M16 h16 M17 h17 x18 e18 _ x19 e19 _
  have b12 : -1 ≤ x12 ∧ x12 ≤ 29 := by rw [e12]; exact ((bm_n (Or.inl rfl)).mp (hI.bx _ _)).1 ⟨by omega, by omega⟩
  have b15 : -1 ≤ x15 ∧ x15 ≤ 29 := by rw [e15]; exact ((bm_n (Or.inl rfl)).mp (hI.bx _ _)).1 ⟨by omega, by omega⟩
  have i16 : IM b M16 := by rw [h16]; exact hI.up (isN.nu (Or.inl rfl) _) ((bm_n (Or.inl rfl)).mpr ⟨by omega, by omega, by omega, by omega⟩)
  have i17 : IM b M17 := by rw [h17]; exact i16.up (isN.nu (Or.inl rfl) _) ((bm_n (Or.inl rfl)).mpr ⟨by omega, by omega, by omega, by omega⟩)
  have f19 : x19 = x12 := by rw [e19, h17, up2_s]
  have f18 : x18 = x15 := by rw [e18, h17, up2_j (by omega), h16, up2_s]
  refine ⟨⟨by omega, by omega⟩, ?_⟩
  intro x21 p21 n21
  have f21 : x21 = ab (M 5 p2 - M 5 p1) := by
    have := ab_e p21 n21
    rw [this, f18, f19, e15, e12]
  have bb := ab_b (M 5 p2 - M 5 p1)
  refine ⟨⟨by omega, by omega⟩, ?_⟩
  have H := hQ M17 i17 (by rw [h17, h16]; exact (FrJ.rf.up rfl).up rfl) (by rw [h17, up2_up, h16, up2_up, e15, e12]; unfold swR; rw [if_pos ⟨ok, by omega, by omega⟩])
  unfold swA at H
  rw [if_neg (fun q => q ok), if_neg (by omega), ← f21] at H
  exact H
theorem gX12_goesOn_L12 {k1 : Nat} {p2 b : Int} {X31 Q : Mem → Prop} {M0 : Mem} (hX : ∀ M' : Mem, IM b M' → FrJ (fun k j => (k = 1 ∧ (j = 30 ∨ j = 31)) ∨ k = 16 ∨ k = 17) M0 M' → X31 M') : ∀ (n : Nat) (v3 : Int) (M : Mem), IM b M → FrJ (fun k j => (k = 1 ∧ (j = 30 ∨ j = 31)) ∨ k = 16 ∨ k = 17) M0 M → (0 ≤ v3 ∧ v3 ≤ 30) → 30 - v3 < (n : Int) → qX12_goesOn_L12 k1 p2 X31 Q n v3 M := by
  intro n
  induction n with
  | zero => intro v3 M hI hF hv hm; exact absurd hm (by omega)
  | succ n ih =>
    intro v3 M hI hF hv hm
    rw [qX12_goesOn_L12]
    refine ⟨⟨by omega, by omega⟩, ⟨fun c => hX _ hI hF, fun c => ⟨by omega, by omega, ?_⟩⟩⟩
    intro M7 h7
    exact ih _ _ (by rw [h7]; exact hI.up (by omega) (by simp [BM])) (by rw [h7]; exact hF.up (by omega)) (by omega) (by omega)
theorem gX12_goesOn_L33 {k1 : Nat} {p2 b : Int} {X52 Q : Mem → Prop} {M0 : Mem} (hX : ∀ M' : Mem, IM b M' → FrJ (fun k j => (k = 1 ∧ (j = 30 ∨ j = 31)) ∨ k = 16 ∨ k = 17) M0 M' → X52 M') : ∀ (n : Nat) (v3 : Int) (M : Mem), IM b M → FrJ (fun k j => (k = 1 ∧ (j = 30 ∨ j = 31)) ∨ k = 16 ∨ k = 17) M0 M → (0 ≤ v3 ∧ v3 ≤ 8) → 8 - v3 < (n : Int) → qX12_goesOn_L33 k1 p2 X52 Q n v3 M := by
  intro n
  induction n with
  | zero => intro v3 M hI hF hv hm; exact absurd hm (by omega)
  | succ n ih =>
    intro v3 M hI hF hv hm
    rw [qX12_goesOn_L33]
    refine ⟨⟨by omega, by omega⟩, ⟨fun c => hX _ hI hF, fun c => ⟨by omega, by omega, ?_⟩⟩⟩
    intro M13 h13
    exact ih _ _ (by rw [h13]; exact hI.up (by omega) (by simp [BM])) (by rw [h13]; exact hF.up (by omega)) (by omega) (by omega)
theorem gX12_goesOn_L54 {k1 : Nat} {p2 b : Int} {E : Mem} {r : Int → Int} {Q : Mem → Prop} (hk1 : isN k1) (hb : b + 200 ≤ 2000000000) (hp : p2 ≤ 200) (hQ : ∀ M' : Mem, IM (b + 200) M' → CE E M' → M' k1 = itF E p2.toNat r → Q M') : ∀ (n : Nat) (v3 : Int) (M : Mem), IM (b + v3) M → CE E M → M k1 = itF E v3.toNat r → (0 ≤ v3 ∧ (v3 ≤ p2 ∨ v3 = 0)) → 200 - v3 < (n : Int) → qX12_goesOn_L54 k1 p2 Q n v3 M := by
  intro n
  induction n with
  | zero => intro v3 M hI hE hr hv hm; exact absurd hm (by omega)
  | succ n ih =>
    intro v3 M hI hE hr hv hm
    rw [qX12_goesOn_L54]
    refine ⟨⟨by omega, by omega⟩, ⟨fun c => hQ _ (hI.mono (by first | exact Int.le_refl _ | omega)) hE (by rw [hr, show v3.toNat = p2.toNat from by omega]), fun c => ?_⟩⟩
    refine gX12_stepGoes hI hE (by omega) hk1 ?_
    intro M' i' E' k'
    exact ih _ _ (i'.mono (by first | exact Int.le_refl _ | omega)) E' (by rw [k', hr, itF_s hv.1]) (by omega) (by omega)
theorem gX12_goesOn {k1 : Nat} {p2 b : Int} {M E : Mem} {Q : Mem → Prop} (hI : IM b M) (hE : CE E M) (hb : b + 200 ≤ 2000000000) (hk1 : isN k1) (hp : p2 ≤ 200) (hQ : ∀ M' : Mem, IM (b + 200) M' → CE E M' → M' k1 = itF E p2.toNat (M k1) → Q M') : qX12_goesOn k1 p2 M Q := by
  have hk : k1 = 5 ∨ k1 = 6 := hk1
  unfold qX12_goesOn
  intro M1 h1 M2 h2
  have i1 : IM b M1 := by rw [h1]; exact hI.up (by omega) (by simp [BM])
  have i2 : IM b M2 := by rw [h2]; exact i1.up (by omega) (by simp [BM])
  have F2 : FrJ (fun k j => (k = 1 ∧ (j = 30 ∨ j = 31)) ∨ k = 16 ∨ k = 17) M M2 := by rw [h2, h1]; exact (FrJ.rf.up (by omega)).up (by omega)
  refine ⟨31, gX12_goesOn_L12 (b := b) (M0 := M) ?_ _ _ _ i2 F2 (by omega) (by omega)⟩
  intro M3 i3 F3
  refine ⟨9, gX12_goesOn_L33 (b := b) (M0 := M) ?_ _ _ _ i3 F3 (by omega) (by omega)⟩
  intro M4 i4 F4
  have E4 : CE E M4 := hE.fr F4 (by intro k j h; rcases h with h | h | h | h | h <;> omega)
  have K4 : M4 k1 = M k1 := funext fun j => F4 k1 j (by omega)
  exact ⟨201, gX12_goesOn_L54 (b := b) (r := M k1) hk1 hb hp hQ _ _ _ (i4.mono (by first | exact Int.le_refl _ | omega)) E4 (by rw [K4]; rfl) (by omega) (by omega)⟩
-- the class
theorem gX6_isMourner {k0 : Nat} {p1 : Int} {M E : Mem} {r : Int → Int} {Q : Int → Mem → Prop} (hC : SC E M k0 r) (hQ : ∀ z : Int, (z = 1 ∧ (0 ≤ p1 ∧ p1 < E 1 5) ∨ z = 0 ∧ ¬ (0 ≤ p1 ∧ p1 < E 1 5)) → Q z M) : qX6_isMourner k0 p1 M Q := by
  have h7 : M k0 7 = E 1 5 := hC.2.1
  unfold qX6_isMourner
  refine ⟨fun c => hQ _ (Or.inr ⟨rfl, by omega⟩), fun c => ?_⟩
  intro x2 e2 _
  exact ⟨fun c2 => hQ _ (Or.inr ⟨rfl, by omega⟩), fun c2 => hQ _ (Or.inl ⟨rfl, by omega, by omega⟩)⟩
theorem gX6_isHearse {k0 : Nat} {p1 : Int} {M E : Mem} {r : Int → Int} {Q : Int → Mem → Prop} (hC : SC E M k0 r) (hQ : ∀ z : Int, (z = 1 ∧ (0 ≤ p1 ∧ p1 < E 1 4) ∨ z = 0 ∧ ¬ (0 ≤ p1 ∧ p1 < E 1 4)) → Q z M) : qX6_isHearse k0 p1 M Q := by
  have h6 : M k0 6 = E 1 4 := hC.1
  unfold qX6_isHearse
  refine ⟨fun c => hQ _ (Or.inr ⟨rfl, by omega⟩), fun c => ?_⟩
  intro x2 e2 _
  exact ⟨fun c2 => hQ _ (Or.inr ⟨rfl, by omega⟩), fun c2 => hQ _ (Or.inl ⟨rfl, by omega, by omega⟩)⟩
theorem gX6_turn {k0 : Nat} {p1 : Int} {M E : Mem} {r : Int → Int} {Q : Int → Mem → Prop} (hI : IX M) (hk0 : isS k0) (hS : STR E M) (hC : SC E M k0 r) (hW : WR E r) (hQ : ∀ M' : Mem, IX M' → Ks (fun k _ => k = k0 + 5) M M' → SC E M' k0 (tnR E r p1) → Q (tnA E r p1) M') : qX6_turn k0 p1 M Q := by
  have b4 := hS.2.2.2.2.2.2.1
  have b5 := hS.2.2.2.2.2.2.2.1
  have SAME : ∀ z, tnA E r p1 = z → tnR E r p1 = r → Q z M := by
    intro z hz hr
    have := hQ M hI Ks.rf (by rw [hr]; exact hC)
    rw [hz] at this
    exact this
  unfold qX6_turn
  refine gX6_isMourner hC ?_
  intro z1 c1 _ _
  refine ⟨fun d => ?_, fun d => SAME _ (by unfold tnA; rw [if_pos (by omega)]) (by unfold tnR; rw [if_neg (by omega)])⟩
  have c : 0 ≤ p1 ∧ p1 < E 1 5 := by omega
  have w := hW.2.2.1 p1 c.1 c.2
  have o := hS.2.2.2.2.2.2.2.2 p1 c.1 c.2
  have wo := hW.2.1 (E 3 p1) o.1 o.2
  have g6 : M (k0 + 6) p1 = r (29 + p1) := hC.2.2.2.2.2.2.2.2.1 p1 (by omega) (by omega)
  refine gX6_hasEnded (p1 := p1) ⟨by omega, by omega⟩ ?_
  intro z2 c2 _ _
  rw [g6] at c2
  refine ⟨fun d2 => ?_, fun d2 => SAME _ (by unfold tnA; rw [if_neg (by omega), if_pos (by omega)]) (by unfold tnR; rw [if_neg (by omega)])⟩
  refine ⟨by omega, by omega, ?_⟩
  intro x7 e7 _ x8 e8 _
  have f7 : x7 = r (21 + p1) := by rw [e7]; exact hC.2.2.2.2.2.2.2.1 p1 (by omega) (by omega)
  have f8 : x8 = E 3 p1 := by rw [e8]; exact hC.2.2.2.2.2.2.1 p1 (by omega) (by omega)
  have g2 : M (k0 + 2) x8 = r (6 + E 3 p1) := by rw [f8]; exact hC.2.2.2.1 _ (by omega) (by omega)
  refine gX6_hasArrived (p1 := x8) ⟨by omega, by omega⟩ ?_
  intro z3 c3 _ _
  rw [g2] at c3
  refine ⟨fun d3 => SAME _ (by unfold tnA; rw [if_neg (by omega), if_neg (by omega), if_pos (by omega)]) (by unfold tnR; rw [if_neg (by omega)]), fun d3 => ?_⟩
  intro x11 e11 _
  have f11 : x11 = E 3 p1 := by rw [e11]; exact hC.2.2.2.2.2.2.1 p1 (by omega) (by omega)
  refine ⟨fun d4 => ?_, fun d4 => SAME _ (by unfold tnA; rw [if_neg (by omega), if_neg (by omega), if_pos (by omega)]) (by unfold tnR; rw [if_neg (by omega)])⟩
  intro x13 e13 _ M14 h14
  have f13 : x13 = E 3 p1 := by rw [e13]; exact hC.2.2.2.2.2.2.1 p1 (by omega) (by omega)
  have i14 : IX M14 := by rw [h14]; exact hI.up (hk0.nsp 5 (by decide)) ((bx_s5 hk0).mpr ⟨by omega, by omega⟩)
  have H := hQ M14 i14 (by rw [h14]; exact Ks.rf.wr rfl) (by rw [h14, f13]; unfold tnR; rw [if_pos (by omega)]; exact hC.foll (by omega))
  unfold tnA at H
  rw [if_neg (by omega), if_neg (by omega), if_neg (by omega)] at H
  refine ⟨fun d5 => ?_, fun d5 => ?_⟩
  · rw [if_pos (by omega), ← f7] at H
    exact H
  · rw [if_neg (by omega)] at H
    exact H
theorem gX8_putOnStreet {p1 : Int} {M E : Mem} {Q : Int → Mem → Prop} (hI : IX M) (hS : STR E M) (hQ : Q (max 0 (min p1 (eG E - 1))) M) : qX8_putOnStreet p1 M Q := by
  have bg := hS.g
  unfold qX8_putOnStreet
  refine gX8_gate hI hS ?_
  intro _
  refine ⟨⟨by omega, by omega⟩, ?_⟩
  intro x3 e3 _ x4 e4 _
  rw [e4, e3]
  exact hQ
theorem gX6_shove {k0 : Nat} {p1 p2 : Int} {M E : Mem} {r : Int → Int} {Q : Int → Mem → Prop} (hI : IX M) (hk0 : isS k0) (hS : STR E M) (hC : SC E M k0 r) (hW : WR E r) (hQ : ∀ M' : Mem, IX M' → Ks (fun k _ => k = k0 + 3) M M' → SC E M' k0 (psR E r p1 p2) → Q (psA E r p1 p2) M') : qX6_shove k0 p1 p2 M Q := by
  have b5 := hS.2.2.2.2.2.2.2.1
  have bg := hS.g
  have SAME : ∀ z, psA E r p1 p2 = z → psR E r p1 p2 = r → Q z M := by
    intro z hz hr
    have := hQ M hI Ks.rf (by rw [hr]; exact hC)
    rw [hz] at this
    exact this
  have BAD : ¬ psOK E p1 p2 → Q (-1) M := fun q => SAME _ (by unfold psA; rw [if_pos q]) (by unfold psR; rw [if_neg (fun u => q u.1)])
  unfold qX6_shove
  refine gX6_isMourner hC ?_
  intro z1 c1 _ _
  refine ⟨fun d => BAD (by unfold psOK; omega), fun d => ⟨fun d2 => BAD (by unfold psOK; omega), fun d2 => ⟨fun d3 => BAD (by unfold psOK; omega), fun d3 => ⟨fun d4 => ?_, fun d4 => BAD (by unfold psOK; omega)⟩⟩⟩⟩
  have c : 0 ≤ p1 ∧ p1 < E 1 5 := by omega
  have ok : psOK E p1 p2 := ⟨c, by omega, d4⟩
  have w := hW.2.2.1 p1 c.1 c.2
  have g6 : M (k0 + 6) p1 = r (29 + p1) := hC.2.2.2.2.2.2.2.2.1 p1 (by omega) (by omega)
  refine gX6_hasEnded (p1 := p1) ⟨by omega, by omega⟩ ?_
  intro z2 c2 _ _
  rw [g6] at c2
  refine ⟨fun d5 => ?_, fun d5 => SAME _ (by unfold psA; rw [if_neg (fun q => q ok), if_pos (by omega)]) (by unfold psR; rw [if_neg (by omega)])⟩
  refine ⟨by omega, by omega, ?_⟩
  intro x10 e10 _
  have f10 : x10 = r (13 + p1) := by rw [e10]; exact hC.2.2.2.2.2.1 p1 (by omega) (by omega)
  refine ⟨⟨by omega, by omega⟩, ?_⟩
  refine gX8_putOnStreet hI hS ?_
  intro _ M13 h13 x14 e14 _
  have v : max 0 (min (x10 + p2) (eG E - 1)) = psV E r p1 p2 := by
    unfold psV
    rw [f10, Int.min_comm]
  rw [v] at h13
  have bv : 0 ≤ psV E r p1 p2 ∧ psV E r p1 p2 < eG E := by unfold psV; omega
  have i13 : IX M13 := by rw [h13]; exact hI.up (hk0.nsp 3 (by decide)) ((bx_s3 hk0).mpr ⟨by omega, by omega⟩)
  have H := hQ M13 i13 (by rw [h13]; exact Ks.rf.wr rfl) (by rw [h13]; unfold psR; rw [if_pos ⟨ok, by omega⟩]; exact hC.place (by omega))
  unfold psA at H
  rw [if_neg (fun q => q ok), if_neg (by omega)] at H
  rw [e14, h13, up2_s]
  rw [h13] at H
  exact H
theorem gX6_exchange {k0 : Nat} {p1 p2 : Int} {M E : Mem} {r : Int → Int} {Q : Int → Mem → Prop} (hI : IX M) (hk0 : isS k0) (hS : STR E M) (hC : SC E M k0 r) (hW : WR E r) (hQ : ∀ M' : Mem, IX M' → Ks (fun k _ => k = k0 + 1) M M' → SC E M' k0 (swR E r p1 p2) → Q (swA E r p1 p2) M') : qX6_exchange k0 p1 p2 M Q := by
  have b4 := hS.2.2.2.2.2.2.1
  have bg := hS.g
  have SAME : ∀ z, swA E r p1 p2 = z → swR E r p1 p2 = r → Q z M := by
    intro z hz hr
    have := hQ M hI Ks.rf (by rw [hr]; exact hC)
    rw [hz] at this
    exact this
  have BAD : ¬ swOK E p1 p2 → Q (-1) M := fun q => SAME _ (by unfold swA; rw [if_pos q]) (by unfold swR; rw [if_neg (fun u => q u.1)])
  unfold qX6_exchange
  refine gX6_isHearse hC ?_
  intro z1 c1 _ _
  refine ⟨fun d => BAD (by unfold swOK; omega), fun d => ?_⟩
  refine gX6_isHearse hC ?_
  intro z2 c2 _ _
  refine ⟨fun d2 => BAD (by unfold swOK; omega), fun d2 => ⟨fun d3 => ?_, fun d3 => BAD (by unfold swOK; omega)⟩⟩
  have ok : swOK E p1 p2 := ⟨by omega, by omega, d3⟩
  have ca := ok.1
  have cb := ok.2.1
  have wa := hW.2.1 p1 ca.1 ca.2
  have wb := hW.2.1 p2 cb.1 cb.2
  have ga : M (k0 + 2) p1 = r (6 + p1) := hC.2.2.2.1 p1 (by omega) (by omega)
  have gb : M (k0 + 2) p2 = r (6 + p2) := hC.2.2.2.1 p2 (by omega) (by omega)
  refine gX6_hasArrived (p1 := p1) ⟨by omega, by omega⟩ ?_
  intro z3 c3 _ _
  rw [ga] at c3
  refine ⟨fun d4 => SAME _ (by unfold swA; rw [if_neg (fun q => q ok), if_pos (by omega)]) (by unfold swR; rw [if_neg (by omega)]), fun d4 => ?_⟩
  refine gX6_hasArrived (p1 := p2) ⟨by omega, by omega⟩ ?_
  intro z4 c4 _ _
  rw [gb] at c4
  refine ⟨fun d5 => ?_, fun d5 => SAME _ (by unfold swA; rw [if_neg (fun q => q ok), if_pos (by omega)]) (by unfold swR; rw [if_neg (by omega)])⟩
  refine ⟨by omega, by omega, ?_⟩
  intro x12 e12 _
  refine ⟨by omega, by omega, ?_⟩
  intro x15 e15 _ M16 h16 M17 h17 x18 e18 _ x19 e19 _
  have f12 : x12 = r p1 := by rw [e12]; exact hC.2.2.1 p1 (by omega) (by omega)
  have f15 : x15 = r p2 := by rw [e15]; exact hC.2.2.1 p2 (by omega) (by omega)
  have i16 : IX M16 := by rw [h16]; exact hI.up (hk0.nsp 1 (by decide)) ((bx_s1 hk0).mpr ⟨by omega, by omega⟩)
  have i17 : IX M17 := by rw [h17]; exact i16.up (hk0.nsp 1 (by decide)) ((bx_s1 hk0).mpr ⟨by omega, by omega⟩)
  have f19 : x19 = r p1 := by rw [e19, h17, up2_s, f12]
  have f18 : x18 = r p2 := by rw [e18, h17, up2_j (by omega), h16, up2_s, f15]
  refine ⟨⟨by omega, by omega⟩, ?_⟩
  intro x21 p21 n21
  have f21 : x21 = ab (r p2 - r p1) := by
    have := ab_e p21 n21
    rw [this, f18, f19]
  have bb := ab_b (r p2 - r p1)
  refine ⟨⟨by omega, by omega⟩, ?_⟩
  have H := hQ M17 i17 (by rw [h17, h16]; exact (Ks.rf.wr rfl).wr rfl) (by
    rw [h17, h16, f12, f15]
    unfold swR
    rw [if_pos ⟨ok, by omega, by omega⟩]
    exact (hC.cell (by omega)).cell (by omega))
  unfold swA at H
  rw [if_neg (fun q => q ok), if_neg (by omega), ← f21] at H
  exact H
theorem gX10_walk_L7 {k1 k2 : Nat} {p3 : Int} {Q : Mem → Prop} {M0 E : Mem} {r : Int → Int} (hk1 : isS k1) (hk2 : isL k2) (hS : STR E M0) (hL : LAW E M0 k2) (hw : WFC (E 11) (E 1 24)) (h37 : r 37 ≤ 1999999000) (hp : p3 ≤ 200) (hQ : ∀ M' : Mem, IX M' → Ks (kAd k1 k2) M0 M' → SC E M' k1 (itF E p3.toNat r) → WR E (itF E p3.toNat r) → Q M') : ∀ (n : Nat) (v4 : Int) (M : Mem), IX M → Ks (kAd k1 k2) M0 M → SC E M k1 (itF E v4.toNat r) → WR E (itF E v4.toNat r) → (0 ≤ v4 ∧ (v4 ≤ p3 ∨ v4 = 0)) → 200 - v4 < (n : Int) → qX10_walk_L7 k1 k2 p3 Q n v4 M := by
  intro n
  induction n with
  | zero => intro v4 M hI hK hC hW hv hm; exact absurd hm (by omega)
  | succ n ih =>
    intro v4 M hI hK hC hW hv hm
    have el : k2 = 187 ∨ k2 = 192 := hk2
    have es : 0 < k1 ∧ k1 < 155 ∧ (k1 - 1) % 7 = 0 := hk1
    rw [qX10_walk_L7]
    refine ⟨⟨by omega, by omega⟩, ⟨fun c => ?_, fun c => ?_⟩⟩
    · rw [show v4.toNat = p3.toNat from by omega] at hC hW
      exact hQ _ hI hK hC hW
    have S1 : STR E M := hS.fr (hK 158 1 (by unfold kAd; omega)) (hK 158 2 (by unfold kAd; omega)) (hK 158 3 (by unfold kAd; omega)) (fun j => hK 159 j (by unfold kAd; omega))
    have L1 : LAW E M k2 := hL.fr (hK k2 4 (by unfold kAd; omega)) (hK k2 5 (by unfold kAd; omega)) (fun j => hK _ j (by unfold kAd; omega)) (fun j => hK _ j (by unfold kAd; omega))
    have q37 := itF_37 (r := r) hS.eb v4.toNat
    refine gX10_advance hI hk1 hk2 S1 L1 hw hC hW (by omega) ?_
    intro M' i' k' c' w' _
    rw [← itF_s hv.1] at c' w'
    exact ih _ _ i' (hK.tr k') c' w' (by omega) (by omega)
theorem gX10_walk {k1 k2 : Nat} {p3 : Int} {Q : Mem → Prop} {M E : Mem} {r : Int → Int} (hI : IX M) (hk1 : isS k1) (hk2 : isL k2) (hS : STR E M) (hL : LAW E M k2) (hw : WFC (E 11) (E 1 24)) (hC : SC E M k1 r) (hW : WR E r) (h37 : r 37 ≤ 1999999000) (hp : p3 ≤ 200) (hQ : ∀ M' : Mem, IX M' → Ks (kAd k1 k2) M M' → SC E M' k1 (itF E p3.toNat r) → WR E (itF E p3.toNat r) → Q M') : qX10_walk k1 k2 p3 M Q := by
  have el : k2 = 187 ∨ k2 = 192 := hk2
  have es : 0 < k1 ∧ k1 < 155 ∧ (k1 - 1) % 7 = 0 := hk1
  unfold qX10_walk
  refine fmX10_forgetTallies (sX10_forgetTallies hI (Q := fun M' => IX M') (fun _ h => h)) ?_
  intro M1 k1' i1
  have K1 : Ks (kAd k1 k2) M M1 := k1'.mono (by intro k j h; unfold kAd; omega)
  have S1 : STR E M1 := hS.fr (K1 158 1 (by unfold kAd; omega)) (K1 158 2 (by unfold kAd; omega)) (K1 158 3 (by unfold kAd; omega)) (fun j => K1 159 j (by unfold kAd; omega))
  have L1 : LAW E M1 k2 := hL.fr (K1 k2 4 (by unfold kAd; omega)) (K1 k2 5 (by unfold kAd; omega)) (fun j => K1 _ j (by unfold kAd; omega)) (fun j => K1 _ j (by unfold kAd; omega))
  have C1 : SC E M1 k1 r := hC.fr (fun i j hi => k1' _ j (by omega))
  refine ⟨201, gX10_walk_L7 (M0 := M1) (r := r) hk1 hk2 S1 L1 hw h37 hp ?_ _ _ _ i1 Ks.rf C1 hW (by omega) (by omega)⟩
  intro M' i' k' c' w'
  exact hQ _ i' (K1.tr k') c' w'
end
section
/-! CALLS that change the state, by acts -/
def CACT (E M M' : Mem) (r r' : Int → Int) : Prop := (∀ (k : Nat) (j : Int), stX k j → ¬ (1 ≤ k ∧ k ≤ 7) → ¬ kHi k j → M' k j = M k j) ∧ SC E M' 1 r' ∧ ∃ Mb : Mem, (∀ (k : Nat) (j : Int), kHi k j → Mb k j = M k j) ∧ SC E Mb 22 r ∧ CADD Mb M' 22
def CNOP (E M M' : Mem) (r : Int → Int) : Prop := (∀ (k : Nat) (j : Int), stX k j → ¬ (1 ≤ k ∧ k ≤ 7) → M' k j = M k j) ∧ SC E M' 1 r
def RACT (M M' : Mem) (r' : Int → Int) : Prop := (∀ (k : Nat) (j : Int), stM k j → k ≠ 5 → ¬ kHm k j → M' k j = M k j) ∧ M' 5 = r' ∧ RADD M M'
def RNOP (M M' : Mem) : Prop := (∀ (k : Nat) (j : Int), stM k j → k ≠ 5 → k ≠ 15 → M' k j = M k j) ∧ M' 5 = M 5 ∧ ∀ j, 0 ≤ j → j < 38 * M 1 28 → M' 15 j = M 15 j
theorem STA.act {E MX MM MX' MM' : Mem} {r' : Int → Int} (h : STA E MX MM) (hE : EBx E) (hI : IX MX) (hx : CACT E MX MX' (MM 5) r') (hm : RACT MM MM' r') (hW : WR E r') : STA E MX' MM' := by
  obtain ⟨a, b, c, d, e, f⟩ := h
  obtain ⟨x1, x2, Mb, x3, x4, x5⟩ := hx
  obtain ⟨m1, m2, m3⟩ := hm
  have bb := bx_c163_1.mp (hI.bx 163 1)
  refine ⟨a.fr (x1 _ _ (by omega) (by omega) (by omega)) (x1 _ _ (by omega) (by omega) (by omega)) (x1 _ _ (by omega) (by omega) (by omega)) (fun j => x1 159 j (by omega) (by omega) (by omega)), b.kx hI (x1 _ _ (by omega) (by omega) (by omega)) (fun k j q => x1 k j (by omega) (by omega) (by omega)), by rw [m2]; exact x2, by rw [m2]; exact hW, ?_, f.fr (fun k j q => x1 k j (by omega) (by omega) (by omega)) (fun k j q => m1 k j (by omega) (by omega) (by omega))⟩
  have e' : HIS E Mb MM := e.fr hE x3 rfl (fun _ _ _ => rfl) bb
  have b1 : 0 ≤ Mb 163 1 ∧ Mb 163 1 ≤ 14 := by rw [x3 163 1 (by omega)]; exact bb
  exact e'.add hE b1 x5 m3 x4 d
theorem STA.nop {E MX MM MX' MM' : Mem} (h : STA E MX MM) (hE : EBx E) (hI : IX MX) (hx : CNOP E MX MX' (MM 5)) (hm : RNOP MM MM') : STA E MX' MM' := by
  obtain ⟨a, b, c, d, e, f⟩ := h
  obtain ⟨x1, x2⟩ := hx
  obtain ⟨m1, m2, m3⟩ := hm
  refine ⟨a.fr (x1 _ _ (by omega) (by omega)) (x1 _ _ (by omega) (by omega)) (x1 _ _ (by omega) (by omega)) (fun j => x1 159 j (by omega) (by omega)), b.kx hI (x1 _ _ (by omega) (by omega)) (fun k j q => x1 k j (by omega) (by omega)), by rw [m2]; exact x2, by rw [m2]; exact d, ?_, f.fr (fun k j q => x1 k j (by omega) (by omega)) (fun k j q => m1 k j (by omega) (by omega) (by omega))⟩
  exact e.fr hE (fun k j q => x1 k j (by omega) (by omega)) (m1 1 28 (by omega) (by decide) (by decide)) m3 (bx_c163_1.mp (hI.bx 163 1))
theorem gX11_undoable {p1 : Int} {M : Mem} {Q : Int → Mem → Prop} (hI : IX M) (hQ1 : isDn p1 → ∀ M' : Mem, IX M' → Ks kHi M M' → CADD M M' 22 → Q p1 M') (hQ2 : ¬ isDn p1 → Q p1 M) : qX11_undoable p1 M Q := by
  unfold qX11_undoable qX11_isDone
  refine ⟨fun c => ?_, fun c => ⟨fun c2 => ?_, fun c2 => ?_⟩⟩
  · intro _ _
    refine ⟨fun q => absurd q (by decide), fun _ => ?_⟩
    exact gX1_add hI (show isS 22 by decide) (by decide) (hQ1 (Or.inl c))
  · intro _ _
    refine ⟨fun _ => hQ2 (fun u => ?_), fun q => absurd rfl q⟩
    rcases u with u | u
    · exact c u
    · exact c2 u
  · intro _ _
    refine ⟨fun q => absurd q (by decide), fun _ => ?_⟩
    exact gX1_add hI (show isS 22 by decide) (by decide) (hQ1 (Or.inr c2))
theorem gX11_act {z : Int} {M M1 M2 E : Mem} {r r' : Int → Int} {Q : Int → Mem → Prop} (i2 : IX M2) (k1 : Ks (fun k _ => 22 ≤ k ∧ k ≤ 28) M M1) (s1 : SC E M1 22 r) (k2 : ∀ (k : Nat) (j : Int), stX k j → ¬ (1 ≤ k ∧ k ≤ 7) → M2 k j = M1 k j) (k22 : ∀ (k : Nat) (j : Int), 22 ≤ k → k ≤ 28 → M2 k j = M1 k j) (c2 : SC E M2 1 r') (nd : ¬ isDn z → r' = r) (hQ : ∀ M' : Mem, IX M' → (isDn z → CACT E M M' r r') → (¬ isDn z → CNOP E M M' r) → Q z M') : qX11_undoable z M2 Q := by
  refine gX11_undoable i2 ?_ ?_
  · intro dn M3 i3 k3 a3
    refine hQ M3 i3 (fun _ => ⟨fun k j h h2 h3 => ?_, ?_, M2, ?_, ?_, a3⟩) (fun n => absurd dn n)
    · rw [k3 k j h3, k2 k j h h2, k1 k j (by omega)]
    · exact c2.fr (fun i j hi => k3 _ j (by omega))
    · intro k j h
      rw [k2 k j (by omega) (by omega), k1 k j (by omega)]
    · exact s1.fr (fun i j hi => k22 _ j (by omega) (by omega))
  · intro n
    refine hQ M2 i2 (fun d => absurd d n) (fun _ => ⟨fun k j h h2 => ?_, ?_⟩)
    · rw [k2 k j h h2, k1 k j (by omega)]
    · rw [← nd n]
      exact c2
theorem gX12_addsR {z b : Int} {M0 M : Mem} {r' : Int → Int} {Q : Int → Mem → Prop} (hI : IM b M) (hk : ∀ (k : Nat) (j : Int), stM k j → k ≠ 5 → k ≠ 15 → M k j = M0 k j) (h15 : ∀ j, 0 ≤ j → j < 38 * M0 1 28 → M 15 j = M0 15 j) (hp : ∀ j, 0 ≤ j → j < 38 → M 15 (38 * M0 1 28 + j) = M0 5 j) (h5 : M 5 = r') (hQ : ∀ M' : Mem, IM b M' → RACT M0 M' r' → Q z M') : qX12_adds z M Q := by
  refine gX12_adds (M0 := M0) hI (hk 1 28 (by omega) (by decide) (by decide)) h15 hp ?_
  intro M' i' f' a'
  refine hQ M' i' ⟨fun k j h n5 n28 => ?_, ?_, a'⟩
  · rw [f' k j n28]
    exact hk k j h n5 (fun e => n28 (Or.inl e))
  · rw [← h5]
    exact funext fun j => f' 5 j (by omega)
theorem gX12_counted {z b : Int} {M0 M : Mem} {r' : Int → Int} {Q : Int → Mem → Prop} (hI : IM b M) (hk : ∀ (k : Nat) (j : Int), stM k j → k ≠ 5 → k ≠ 15 → M k j = M0 k j) (h15 : ∀ j, 0 ≤ j → j < 38 * M0 1 28 → M 15 j = M0 15 j) (hp : ∀ j, 0 ≤ j → j < 38 → M 15 (38 * M0 1 28 + j) = M0 5 j) (h5 : M 5 = r') (nd : ¬ isDn z → r' = M0 5) (hQ : ∀ M' : Mem, IM b M' → (isDn z → RACT M0 M' r') → (¬ isDn z → RNOP M0 M') → Q z M') : qX12_counted z M Q := by
  unfold qX12_counted qX12_counted_J14
  refine ⟨fun c => ?_, fun c => ⟨fun c2 => ?_, fun c2 => ?_⟩⟩
  · exact gX12_addsR hI hk h15 hp h5 (fun M' i' a' _ => hQ M' i' (fun _ => a') (fun n => absurd (Or.inl c) n))
  · exact gX12_addsR hI hk h15 hp h5 (fun M' i' a' _ => hQ M' i' (fun _ => a') (fun n => absurd (Or.inr c2) n))
  · have n : ¬ isDn z := fun u => by
      rcases u with u | u
      · exact c u
      · exact c2 u
    exact hQ M hI (fun d => absurd d n) (fun _ => ⟨hk, h5.trans (nd n), h15⟩)
/-- behind putsBy -/
theorem putsBy_a {b : Int} {M E : Mem} {Q : Mem → Prop} (hI : IM b M) (hE : CE E M) (hQ : ∀ M2 : Mem, IM b M2 → CE E M2 → M2 5 = M 5 → (∀ (k : Nat) (j : Int), stM k j → k ≠ 15 → M2 k j = M k j) → (∀ j, 0 ≤ j → j < 38 * M 1 28 → M2 15 j = M 15 j) → (∀ j, 0 ≤ j → j < 38 → M2 15 (38 * M 1 28 + j) = M 5 j) → Q M2) : qX12_putsBy (up2 M 1 0 0) Q := by
  have i1 : IM b (up2 M 1 0 0) := hI.up (by omega) (by simp [BM])
  have F1 : FrJ (fun k j => k = 1 ∧ j = 0) M (up2 M 1 0 0) := FrJ.rf.up ⟨rfl, rfl⟩
  have g28 : up2 M 1 0 0 1 28 = M 1 28 := F1 1 28 (by omega)
  refine gX12_putsBy i1 ?_
  intro M2 i2 f2 p2
  rw [g28] at f2 p2
  have st : ∀ (k : Nat) (j : Int), stM k j → k ≠ 15 → M2 k j = M k j := by
    intro k j h n
    rw [f2 k j (by omega), F1 k j (by omega)]
  refine hQ M2 i2 (fun k j h => ?_) (funext fun j => st 5 j (by omega) (by decide)) st (fun j p q => ?_) (fun j p q => ?_)
  · rw [st k j (Or.inl h) (by omega)]
    exact hE k j h
  · rw [f2 15 j (by omega), F1 15 j (by omega)]
  · rw [p2 j p q, F1 5 j (by omega)]
theorem gX12_turnsTo {p1 b : Int} {M E : Mem} {Q : Int → Mem → Prop} (hI : IM b M) (hE : CE E M) (hQ : ∀ M' : Mem, IM b M' → (isDn (tnA E (M 5) p1) → RACT M M' (tnR E (M 5) p1)) → (¬ isDn (tnA E (M 5) p1) → RNOP M M') → Q (tnA E (M 5) p1) M') : qX12_turnsTo p1 M Q := by
  unfold qX12_turnsTo
  intro M1 h1
  subst h1
  refine putsBy_a hI hE ?_
  intro M2 i2 E2 k5 st s15 sp
  refine gX12_turnsOne i2 E2 (Or.inl rfl) ?_
  intro M3 i3 f3 k3
  rw [k5] at k3 ⊢
  intro _
  refine gX12_counted (M0 := M) (r' := tnR E (M 5) p1) i3 (fun k j h n5 n15 => ?_) (fun j p q => ?_) (fun j p q => ?_) k3 tn_nd (fun M' i' a n _ => hQ M' i' a n)
  · rw [f3 k j (by omega)]; exact st k j h n15
  · rw [f3 15 j (by omega)]; exact s15 j p q
  · rw [f3 15 _ (by omega)]; exact sp j p q
theorem gX12_pushes {p1 p2 b : Int} {M E : Mem} {Q : Int → Mem → Prop} (hI : IM b M) (hE : CE E M) (hQ : ∀ M' : Mem, IM b M' → (isDn (psA E (M 5) p1 p2) → RACT M M' (psR E (M 5) p1 p2)) → (¬ isDn (psA E (M 5) p1 p2) → RNOP M M') → Q (psA E (M 5) p1 p2) M') : qX12_pushes p1 p2 M Q := by
  unfold qX12_pushes
  intro M1 h1
  subst h1
  refine putsBy_a hI hE ?_
  intro M2 i2 E2 k5 st s15 sp
  refine gX12_pushesOne i2 E2 (Or.inl rfl) ?_
  intro M3 i3 f3 k3
  rw [k5] at k3 ⊢
  intro _
  refine gX12_counted (M0 := M) (r' := psR E (M 5) p1 p2) i3 (fun k j h n5 n15 => ?_) (fun j p q => ?_) (fun j p q => ?_) k3 ps_nd (fun M' i' a n _ => hQ M' i' a n)
  · rw [f3 k j (by omega)]; exact st k j h n15
  · rw [f3 15 j (by omega)]; exact s15 j p q
  · rw [f3 15 _ (by omega)]; exact sp j p q
theorem gX12_swaps {p1 p2 b : Int} {M E : Mem} {Q : Int → Mem → Prop} (hI : IM b M) (hE : CE E M) (hQ : ∀ M' : Mem, IM b M' → (isDn (swA E (M 5) p1 p2) → RACT M M' (swR E (M 5) p1 p2)) → (¬ isDn (swA E (M 5) p1 p2) → RNOP M M') → Q (swA E (M 5) p1 p2) M') : qX12_swaps p1 p2 M Q := by
  unfold qX12_swaps
  intro M1 h1
  subst h1
  refine putsBy_a hI hE ?_
  intro M2 i2 E2 k5 st s15 sp
  refine gX12_swapsTwo i2 E2 ?_
  intro M3 i3 f3 k3
  rw [k5] at k3 ⊢
  intro _
  refine gX12_counted (M0 := M) (r' := swR E (M 5) p1 p2) i3 (fun k j h n5 n15 => ?_) (fun j p q => ?_) (fun j p q => ?_) k3 sw_nd (fun M' i' a n _ => hQ M' i' a n)
  · rw [f3 k j (by omega)]; exact st k j h n15
  · rw [f3 15 j (by omega)]; exact s15 j p q
  · rw [f3 15 _ (by omega)]; exact sp j p q
theorem gX12_steps {p1 b : Int} {M E : Mem} {Q : Int → Mem → Prop} (hI : IM b M) (hE : CE E M) (hb : b + 200 ≤ 2000000000) (hQ1 : 0 ≤ p1 ∧ p1 ≤ 60 → ∀ M' : Mem, IM (b + 200) M' → RACT M M' (itF E p1.toNat (M 5)) → Q (itF E p1.toNat (M 5) 12) M') (hQ2 : ¬ (0 ≤ p1 ∧ p1 ≤ 60) → ∀ M' : Mem, IM (b + 200) M' → RNOP M M' → Q (-1) M') : qX12_steps p1 M Q := by
  unfold qX12_steps
  intro M1 h1
  have i1 : IM b M1 := by rw [h1]; exact hI.up (by omega) (by simp [BM])
  refine sX12_in (p0 := p1) (p2 := 0) (p4 := 60) i1 ?_
  intro z hz _ _
  refine ⟨fun c => ?_, fun c => ?_⟩
  · have cp := hz.2.1 (by rcases hz.1 with q | q <;> omega)
    subst h1
    refine putsBy_a hI hE ?_
    intro M2 i2 E2 k5 st s15 sp
    refine fmX12_goesOn (gX12_goesOn (p2 := p1) i2 E2 hb (Or.inl rfl) (by omega) (Q := fun M' => IM (b + 200) M' ∧ M' 5 = itF E p1.toNat (M2 5)) (fun M' a _ c => ⟨a, c⟩)) ?_
    intro M5 f5 ⟨i5, k5'⟩
    rw [k5] at k5'
    intro M6 h6 x7 e7 _
    have i6 : IM (b + 200) M6 := by rw [h6]; exact i5.up (by omega) (bm_c1_1.mpr (by decide))
    have F6 : Ks (fun k j => k = 1 ∧ j = 1) M5 M6 := by rw [h6]; exact Ks.rf.wr ⟨rfl, rfl⟩
    have t6 : M6 1 1 = 0 := by rw [h6, up2_s]
    refine fmX12_enters (sX12_enters (p1 := x7) i6 (by omega) (Q := fun M' => IM (b + 200) M' ∧ M' 1 1 = 1) (fun M' a c => ⟨a, by omega⟩)) ?_
    intro M8 f8 ⟨i8, t8⟩ x9 e9 _
    refine fmX12_enters (sX12_enters (p1 := x9) i8 (by omega) (Q := fun M' => IM (b + 200) M') (fun M' a _ => a)) ?_
    intro M10 f10 i10 x11 e11 _
    have K : ∀ (k : Nat) (j : Int), (stM k j ∨ k = 5 ∨ k = 15) → M10 k j = M5 k j := by
      intro k j h
      rw [f10 k j (by omega), f8 k j (by omega), F6 k j (by omega)]
    have K5 : M10 5 = itF E p1.toNat (M 5) := by rw [← k5']; exact funext fun j => K 5 j (by omega)
    have f11 : x11 = itF E p1.toNat (M 5) 12 := by rw [e11, K5]
    rw [f11]
    refine gX12_addsR (M0 := M) (r' := itF E p1.toNat (M 5)) i10 (fun k j h n5 n15 => ?_) (fun j p q => ?_) (fun j p q => ?_) K5 (fun M' i' a _ => hQ1 cp M' i' a)
    · rw [K k j (Or.inl h), f5 k j (by omega)]; exact st k j h n15
    · rw [K 15 j (by omega), f5 15 j (by omega)]; exact s15 j p q
    · rw [K 15 _ (by omega), f5 15 _ (by omega)]; exact sp j p q
  · have cp := hz.2.2 c
    refine hQ2 (by omega) M1 (i1.mono (by omega)) ⟨fun k j h n5 n15 => ?_, ?_, fun j p q => ?_⟩
    · rw [h1, up2_a]
      by_cases ck : k = 1
      · rw [if_pos ck, if_neg (by omega)]
      · rw [if_neg ck]
    · rw [h1, up2_n (by decide)]
    · rw [h1, up2_n (by decide)]
-- the class
theorem gX11_turnsTo {p1 : Int} {M E : Mem} {r : Int → Int} {Q : Int → Mem → Prop} (hI : IX M) (hS : STR E M) (hC : SC E M 1 r) (hW : WR E r) (hQ : ∀ M' : Mem, IX M' → (isDn (tnA E r p1) → CACT E M M' r (tnR E r p1)) → (¬ isDn (tnA E r p1) → CNOP E M M' r) → Q (tnA E r p1) M') : qX11_turnsTo p1 M Q := by
  unfold qX11_turnsTo
  refine gX6_copyFrom hI (show isS 22 by decide) (show isS 1 by decide) (by decide) ?_
  intro M1 i1 k1 s1 _
  have S1 : STR E M1 := hS.fr (k1 _ _ (by omega)) (k1 _ _ (by omega)) (k1 _ _ (by omega)) (fun j => k1 159 j (by omega))
  have C1 : SC E M1 1 r := hC.fr (fun i j hi => k1 _ j (by omega))
  refine gX6_turn i1 (show isS 1 by decide) S1 C1 hW ?_
  intro M2 i2 k2 c2 _
  exact gX11_act i2 k1 (s1 E r hC) (fun k j _ h => k2 k j (by omega)) (fun k j a b => k2 k j (by omega)) c2 tn_nd (fun M' i' a n _ => hQ M' i' a n)
theorem gX11_pushes {p1 p2 : Int} {M E : Mem} {r : Int → Int} {Q : Int → Mem → Prop} (hI : IX M) (hS : STR E M) (hC : SC E M 1 r) (hW : WR E r) (hQ : ∀ M' : Mem, IX M' → (isDn (psA E r p1 p2) → CACT E M M' r (psR E r p1 p2)) → (¬ isDn (psA E r p1 p2) → CNOP E M M' r) → Q (psA E r p1 p2) M') : qX11_pushes p1 p2 M Q := by
  unfold qX11_pushes
  refine gX6_copyFrom hI (show isS 22 by decide) (show isS 1 by decide) (by decide) ?_
  intro M1 i1 k1 s1 _
  have S1 : STR E M1 := hS.fr (k1 _ _ (by omega)) (k1 _ _ (by omega)) (k1 _ _ (by omega)) (fun j => k1 159 j (by omega))
  have C1 : SC E M1 1 r := hC.fr (fun i j hi => k1 _ j (by omega))
  refine gX6_shove i1 (show isS 1 by decide) S1 C1 hW ?_
  intro M2 i2 k2 c2 _
  exact gX11_act i2 k1 (s1 E r hC) (fun k j _ h => k2 k j (by omega)) (fun k j a b => k2 k j (by omega)) c2 ps_nd (fun M' i' a n _ => hQ M' i' a n)
theorem gX11_swaps {p1 p2 : Int} {M E : Mem} {r : Int → Int} {Q : Int → Mem → Prop} (hI : IX M) (hS : STR E M) (hC : SC E M 1 r) (hW : WR E r) (hQ : ∀ M' : Mem, IX M' → (isDn (swA E r p1 p2) → CACT E M M' r (swR E r p1 p2)) → (¬ isDn (swA E r p1 p2) → CNOP E M M' r) → Q (swA E r p1 p2) M') : qX11_swaps p1 p2 M Q := by
  unfold qX11_swaps
  refine gX6_copyFrom hI (show isS 22 by decide) (show isS 1 by decide) (by decide) ?_
  intro M1 i1 k1 s1 _
  have S1 : STR E M1 := hS.fr (k1 _ _ (by omega)) (k1 _ _ (by omega)) (k1 _ _ (by omega)) (fun j => k1 159 j (by omega))
  have C1 : SC E M1 1 r := hC.fr (fun i j hi => k1 _ j (by omega))
  refine gX6_exchange i1 (show isS 1 by decide) S1 C1 hW ?_
  intro M2 i2 k2 c2 _
  exact gX11_act i2 k1 (s1 E r hC) (fun k j _ h => k2 k j (by omega)) (fun k j a b => k2 k j (by omega)) c2 sw_nd (fun M' i' a n _ => hQ M' i' a n)
theorem gX11_steps {p1 : Int} {M E : Mem} {r : Int → Int} {Q : Int → Mem → Prop} (hI : IX M) (hS : STR E M) (hL : LAW E M (M 155 16).toNat) (hw : WFC (E 11) (E 1 24)) (hC : SC E M 1 r) (hW : WR E r) (h37 : r 37 ≤ 1999999000) (hQ1 : 0 ≤ p1 ∧ p1 ≤ 60 → ∀ M' : Mem, IX M' → WR E (itF E p1.toNat r) → CACT E M M' r (itF E p1.toNat r) → Q (itF E p1.toNat r 12) M') (hQ2 : ¬ (0 ≤ p1 ∧ p1 ≤ 60) → Q (-1) M) : qX11_steps p1 M Q := by
  unfold qX11_steps
  refine ⟨fun c => hQ2 (by omega), fun c => ⟨fun c2 => ?_, fun c2 => hQ2 (by omega)⟩⟩
  refine gX6_copyFrom hI (show isS 22 by decide) (show isS 1 by decide) (by decide) ?_
  intro M1 i1 k1 s1 _
  have g16 : M1 155 16 = M 155 16 := k1 155 16 (by omega)
  have el : (M 155 16).toNat = 187 ∨ (M 155 16).toNat = 192 := hI.l16
  have S1 : STR E M1 := hS.fr (k1 _ _ (by omega)) (k1 _ _ (by omega)) (k1 _ _ (by omega)) (fun j => k1 159 j (by omega))
  have L1 : LAW E M1 (M 155 16).toNat := hL.fr (k1 _ _ (by omega)) (k1 _ _ (by omega)) (fun j => k1 _ j (by omega)) (fun j => k1 _ j (by omega))
  have C1 : SC E M1 1 r := hC.fr (fun i j hi => k1 _ j (by omega))
  rw [g16]
  refine ⟨hI.l16, ?_⟩
  refine gX10_walk i1 (show isS 1 by decide) hI.l16 S1 L1 hw C1 hW h37 (by omega) ?_
  intro M5 i5 k5 c5 w5 x6 _ _ x7 _ _
  refine fmX4_tellTwo (sX4_tellTwo (p1 := x6) (p3 := x7) i5 (Q := fun M' => IX M') (fun _ h => h)) ?_
  intro M8 k8 i8 x9 e9 _
  have c8 : SC E M8 1 (itF E p1.toNat r) := c5.fr (fun i j hi => k8 _ j (by omega))
  have f9 : x9 = itF E p1.toNat r 12 := by rw [e9]; exact c8.2.2.2.2.1
  rw [f9]
  have dn : isDn (itF E p1.toNat r 12) := by
    have := arF_b (itF E p1.toNat r) (eH E)
    have e := w5.2.2.2.1
    exact Or.inl (by omega)
  refine gX11_act (r' := itF E p1.toNat r) i8 k1 (s1 E r hC) (fun k j h h2 => ?_) (fun k j a b => ?_) c8 (fun n => absurd dn n) (fun M' i' a _ _ => hQ1 (by omega) M' i' w5 (a dn))
  · rw [k8 k j (by omega)]
    exact k5 k j (by omega)
  · rw [k8 k j (by omega)]
    exact k5 k j (by omega)
end
section
/-! UNDO, KEEP, AGAIN; one hearse, one mourner -/
theorem STA.undo {E MX MM MX' MM' : Mem} (h : STA E MX MM) (hE : EBx E) (hI : IX MX) (hn : 0 < MM 1 28) (kx : Ks (fun k j => (1 ≤ k ∧ k ≤ 7) ∨ (k = 163 ∧ j = 2)) MX MX') (x2 : MX' 163 2 = MX 163 2 - 1) (xs : ∀ (E : Mem) (r : Int → Int), SC E MX (50 + 7 * ((MX 163 1 + (MX 163 2 - 1)) % 15).toNat) r → SC E MX' 1 r) (km : FrJ (fun k j => k = 5 ∨ (k = 1 ∧ (j = 0 ∨ j = 28))) MM MM') (m2 : MM' 1 28 = MM 1 28 - 1) (ms : ∀ j, 0 ≤ j → j < 38 → MM' 5 j = MM 15 (38 * (MM 1 28 - 1) + j)) : STA E MX' MM' := by
  obtain ⟨a, b, c, d, e, f⟩ := h
  have bb := bx_c163_1.mp (hI.bx 163 1)
  obtain ⟨s, w⟩ := e.2 (MM 1 28 - 1) (by omega) (by omega)
  rw [← e.1] at s
  refine ⟨a.fr (kx _ _ (by omega)) (kx _ _ (by omega)) (kx _ _ (by omega)) (fun j => kx 159 j (by omega)), b.kx hI (kx _ _ (by omega)) (fun k j q => kx k j (by omega)), (xs E _ s).cg hE (fun j p q => ?_), w.cg hE (fun j p q => ms j p q), ⟨by rw [x2, m2, e.1], fun i p q => ?_⟩, f.fr (fun k j q => kx k j (by omega)) (fun k j q => km k j (by omega))⟩
  · rw [ms j p q, e.1]
    rfl
  · obtain ⟨s', w'⟩ := e.2 i p (by omega)
    rw [kx 163 1 (by omega)]
    have e15 : MM' 15 = MM 15 := funext fun j => km 15 j (by omega)
    rw [e15]
    exact ⟨s'.fr (fun t j ht => kx _ j (by omega)), w'⟩
theorem gX11_undo {M : Mem} {Q : Int → Mem → Prop} (hI : IX M) (hQ : ∀ (z : Int) (M' : Mem), IX M' → Ks (fun k j => (1 ≤ k ∧ k ≤ 7) ∨ (k = 163 ∧ j = 2)) M M' → (M 163 2 = 0 ∧ z = -1 ∧ M' = M ∨ 0 < M 163 2 ∧ z = M 163 2 - 1 ∧ M' 163 2 = M 163 2 - 1 ∧ ∀ (E : Mem) (r : Int → Int), SC E M (50 + 7 * ((M 163 1 + (M 163 2 - 1)) % 15).toNat) r → SC E M' 1 r) → Q z M') : qX11_undo M Q := by
  unfold qX11_undo
  refine gX1_takeBack hI (show isS 1 by decide) (by decide) ?_
  intro z M' i' k' p' _ _
  refine ⟨fun c => ?_, fun c => ?_⟩
  · rcases p' with q | q
    · exact hQ _ _ i' k' (Or.inl ⟨q.1, rfl, q.2.2⟩)
    · omega
  · intro x3 e3 _
    rcases p' with q | q
    · omega
    · exact hQ _ _ i' k' (Or.inr ⟨q.1, by omega, q.2.2.1, q.2.2.2⟩)
theorem gX11_keepC {p1 : Int} {M : Mem} {Q : Int → Mem → Prop} (hI : IX M) (hQ1 : 0 ≤ p1 ∧ p1 ≤ 2 → ∀ M' : Mem, IX M' → Ks (fun k j => (29 + 7 * p1.toNat ≤ k ∧ k ≤ 35 + 7 * p1.toNat) ∨ (k = 166 ∧ j = p1)) M M' → M' 166 p1 = 1 → (∀ (E : Mem) (r : Int → Int), SC E M 1 r → SC E M' (29 + 7 * p1.toNat) r) → M' (29 + 7 * p1.toNat) 6 = M 1 6 ∧ M' (29 + 7 * p1.toNat) 7 = M 1 7 → Q 1 M') (hQ2 : ¬ (0 ≤ p1 ∧ p1 ≤ 2) → Q 0 M) : qX11_keep p1 M Q := by
  unfold qX11_keep
  refine ⟨fun c => hQ2 (by omega), fun c => ⟨fun c2 => ⟨by omega, by omega, ?_⟩, fun c2 => hQ2 (by omega)⟩⟩
  refine gX6_copyFrom hI (isS_kept (e := p1) (by omega) (by omega)) (show isS 1 by decide) (by omega) ?_
  intro M5 i5 k5 s5 d5 M6 h6
  have i6 : IX M6 := by rw [h6]; exact i5.up (by decide) (by simp [BX])
  refine hQ1 (by omega) M6 i6 ?_ (by rw [h6, up2_s]) (fun E r h => ?_) ?_
  · rw [h6]
    exact (k5.mono (by intro k j h; omega)).wr (Or.inr ⟨rfl, rfl⟩)
  · exact (s5 E r h).fr (fun i j hi => by rw [h6, up2_n (by omega)])
  · rw [h6, up2_n (by omega)]
    exact d5
theorem gX12_keep_L38 {p1 b : Int} {Q : Int → Mem → Prop} {M0 : Mem} (hp : 0 ≤ p1 ∧ p1 ≤ 2) (hQ : ∀ M' : Mem, IM b M' → FrJ (fun k j => k = 31 ∧ 38 * p1 ≤ j ∧ j < 38 * p1 + 38) M0 M' → (∀ j, 0 ≤ j → j < 38 → M' 31 (38 * p1 + j) = M0 5 j) → Q 1 M') : ∀ (n : Nat) (v2 : Int) (M : Mem), IM b M → FrJ (fun k j => k = 31 ∧ 38 * p1 ≤ j ∧ j < 38 * p1 + 38) M0 M → (∀ j, 0 ≤ j → j < v2 → M 31 (38 * p1 + j) = M0 5 j) → (0 ≤ v2 ∧ v2 ≤ 38) → 38 - v2 < (n : Int) → qX12_keep_L38 p1 Q n v2 M := by
  intro n
  induction n with
  | zero => intro v2 M hI hF hs hv hm; exact absurd hm (by omega)
  | succ n ih =>
    intro v2 M hI hF hs hv hm
    rw [qX12_keep_L38]
    refine ⟨⟨by omega, by omega⟩, ⟨fun c => hQ _ hI hF (fun j p q => hs j p (by omega)), fun c => ⟨by omega, by omega, ?_⟩⟩⟩
    intro x13 e13 _
    refine ⟨by omega, by omega, ?_⟩
    intro M16 h16
    have hn : BN b v2 x13 := by rw [e13]; exact (bm_n (Or.inl rfl)).mp (hI.bx _ _)
    refine ih _ _ (by rw [h16]; exact hI.up (by omega) (bm_c31.mpr (by rw [show (38 * p1 + v2) % 38 = v2 from by omega]; exact hn))) (by rw [h16]; exact hF.up ⟨rfl, by omega, by omega⟩) ?_ (by omega) (by omega)
    intro j p q
    rw [h16]
    by_cases cj : j = v2
    · rw [cj, up2_s, e13]
      exact hF 5 v2 (by omega)
    · rw [up2_j (by omega)]
      exact hs j p (by omega)
theorem gX12_keepC {p1 b : Int} {M : Mem} {Q : Int → Mem → Prop} (hI : IM b M) (hQ1 : 0 ≤ p1 ∧ p1 ≤ 2 → ∀ M' : Mem, IM b M' → FrJ (fun k j => (k = 31 ∧ 38 * p1 ≤ j ∧ j < 38 * p1 + 38) ∨ (k = 29 ∧ j = p1) ∨ (k = 30 ∧ j = p1) ∨ (k = 1 ∧ j = 0)) M M' → M' 29 p1 = 1 → M' 30 p1 = M 1 6 → (∀ j, 0 ≤ j → j < 38 → M' 31 (38 * p1 + j) = M 5 j) → Q 1 M') (hQ2 : ¬ (0 ≤ p1 ∧ p1 ≤ 2) → ∀ M' : Mem, IM b M' → FrJ (fun k j => k = 1 ∧ j = 0) M M' → Q 0 M') : qX12_keep p1 M Q := by
  unfold qX12_keep
  intro M1 h1
  have i1 : IM b M1 := by rw [h1]; exact hI.up (by omega) (by simp [BM])
  have F1 : FrJ (fun k j => k = 1 ∧ j = 0) M M1 := by rw [h1]; exact FrJ.rf.up ⟨rfl, rfl⟩
  refine sX12_in (p0 := p1) (p2 := 0) (p4 := 2) i1 ?_
  intro z hz _ _
  refine ⟨fun c => ?_, fun c => hQ2 (by have := hz.2.2 c; omega) M1 i1 F1⟩
  have cp := hz.2.1 (by rcases hz.1 with q | q <;> omega)
  refine ⟨by omega, by omega, ?_⟩
  intro M6 h6 x7 e7 _ M8 h8
  have i6 : IM b M6 := by rw [h6]; exact i1.up (by omega) (by simp [BM])
  have i8 : IM b M8 := by rw [h8]; exact i6.up (by omega) (by simp [BM])
  have F8 : FrJ (fun k j => (k = 31 ∧ 38 * p1 ≤ j ∧ j < 38 * p1 + 38) ∨ (k = 29 ∧ j = p1) ∨ (k = 30 ∧ j = p1) ∨ (k = 1 ∧ j = 0)) M M8 := by
    rw [h8, h6]
    exact ((F1.mono (fun _ _ q => Or.inr (Or.inr (Or.inr q)))).up (Or.inr (Or.inl ⟨rfl, rfl⟩))).up (Or.inr (Or.inr (Or.inl ⟨rfl, rfl⟩)))
  have g29 : M8 29 p1 = 1 := by rw [h8, up2_n (by decide), h6, up2_s]
  have g30 : M8 30 p1 = M 1 6 := by rw [h8, up2_s, e7, h6, up2_n (by decide)]; exact F1 1 6 (by omega)
  refine ⟨39, gX12_keep_L38 (b := b) (M0 := M8) cp ?_ _ _ _ i8 FrJ.rf (fun j p q => by omega) (by omega) (by omega)⟩
  intro M' i' hF hs
  refine hQ1 cp M' i' (F8.tr (hF.mono (fun _ _ q => Or.inl q))) (by rw [hF 29 p1 (by omega)]; exact g29) (by rw [hF 30 p1 (by omega)]; exact g30) (fun j p q => ?_)
  rw [hs j p q]
  exact F8 5 j (by omega)
theorem STA.keep {E MX MM MX' MM' : Mem} {p1 b : Int} (h : STA E MX MM) (hE : EBx E) (hI : IX MX) (cp : 0 ≤ p1 ∧ p1 ≤ 2) (kx : Ks (fun k j => (29 + 7 * p1.toNat ≤ k ∧ k ≤ 35 + 7 * p1.toNat) ∨ (k = 166 ∧ j = p1)) MX MX') (x1 : MX' 166 p1 = 1) (xs : ∀ (E : Mem) (r : Int → Int), SC E MX 1 r → SC E MX' (29 + 7 * p1.toNat) r) (xc : MX' (29 + 7 * p1.toNat) 6 = MX 1 6 ∧ MX' (29 + 7 * p1.toNat) 7 = MX 1 7) (km : FrJ (fun k j => (k = 31 ∧ 38 * p1 ≤ j ∧ j < 38 * p1 + 38) ∨ (k = 29 ∧ j = p1) ∨ (k = 30 ∧ j = p1) ∨ (k = 1 ∧ j = 0)) MM MM') (m1 : MM' 29 p1 = 1) (m2 : MM' 30 p1 = MM 1 6) (ms : ∀ j, 0 ≤ j → j < 38 → MM' 31 (38 * p1 + j) = MM 5 j) : STA E MX' MM' := by
  obtain ⟨a, b, c, d, e, f⟩ := h
  have k5 : MM' 5 = MM 5 := funext fun j => km 5 j (by omega)
  have h6 : MX 1 6 = E 1 4 := c.1
  have h7 : MX 1 7 = E 1 5 := c.2.1
  have g6 : MM' 1 6 = MM 1 6 := km 1 6 (by omega)
  refine ⟨a.fr (kx _ _ (by omega)) (kx _ _ (by omega)) (kx _ _ (by omega)) (fun j => kx 159 j (by omega)), b.kx hI (kx _ _ (by omega)) (fun k j q => kx k j (by omega)), by rw [k5]; exact c.fr (fun t j ht => kx _ j (by omega)), by rw [k5]; exact d, e.fr hE (fun k j q => kx k j (by omega)) (km 1 28 (by omega)) (fun j _ _ => km 15 j (by omega)) (bx_c163_1.mp (hI.bx 163 1)), ?_⟩
  intro i p q
  by_cases ci : i = p1
  · subst ci
    rw [x1, m1, m2, g6, xc.1, xc.2, h6, h7]
    refine ⟨⟨fun u => absurd u (by decide), fun u => absurd u (by decide)⟩, fun _ => ⟨by omega, ⟨by omega, by omega⟩, fun _ => ⟨(xs E _ c).cg hE (fun j p' q' => ms j p' q'), d.cg hE (fun j p' q' => ms j p' q')⟩, fun u => by omega⟩⟩
  · obtain ⟨u, v⟩ := f i p q
    rw [kx 166 i (by omega), km 29 i (by omega), km 30 i (by omega), g6, kx (29 + 7 * i.toNat) 6 (by omega), kx (29 + 7 * i.toNat) 7 (by omega)]
    refine ⟨u, fun w => ?_⟩
    obtain ⟨b1, b2, b3, b4⟩ := v w
    have es : ∀ j, 0 ≤ j → j < 38 → sg (MM' 31) i j = sg (MM 31) i j := fun j p' q' => km 31 _ (by omega)
    exact ⟨b1, b2, fun w2 => ⟨((b3 w2).1.fr (fun t j ht => kx _ j (by omega))).cg hE es, (b3 w2).2.cg hE es⟩, b4⟩
theorem gX11_again {p1 : Int} {M : Mem} {Q : Int → Mem → Prop} (hI : IX M) (hQ1 : 0 ≤ p1 ∧ p1 ≤ 2 → M 166 p1 ≠ 0 → M (29 + 7 * p1.toNat) 6 = M 1 6 → M (29 + 7 * p1.toNat) 7 = M 1 7 → ∀ M' : Mem, IX M' → Ks (fun k j => (1 ≤ k ∧ k ≤ 7) ∨ (k = 163 ∧ j = 2)) M M' → M' 163 2 = 0 → (∀ (E : Mem) (r : Int → Int), SC E M (29 + 7 * p1.toNat) r → SC E M' 1 r) → Q 1 M') (hQ2 : ¬ ((0 ≤ p1 ∧ p1 ≤ 2) ∧ M 166 p1 ≠ 0 ∧ M (29 + 7 * p1.toNat) 6 = M 1 6 ∧ M (29 + 7 * p1.toNat) 7 = M 1 7) → Q 0 M) : qX11_again p1 M Q := by
  unfold qX11_again
  refine ⟨fun c => hQ2 (by omega), fun c => ⟨fun c2 => hQ2 (by omega), fun c2 => ⟨by omega, by omega, ?_⟩⟩⟩
  intro x5 e5 _
  refine ⟨fun c3 => ?_, fun c3 => hQ2 (by omega)⟩
  intro x7 e7 _ x8 e8 _
  refine ⟨fun c4 => hQ2 (by omega), fun c4 => ?_⟩
  intro x10 e10 _ x11 e11 _
  refine ⟨fun c5 => ?_, fun c5 => hQ2 (by omega)⟩
  refine gX6_copyFrom hI (show isS 1 by decide) (isS_kept (e := p1) (by omega) (by omega)) (by omega) ?_
  intro M13 i13 k13 s13 _
  unfold qX1_clear
  intro M14 h14
  refine hQ1 (by omega) (by omega) (by omega) (by omega) M14 (by rw [h14]; exact i13.up (by decide) (bx_c163_2.mpr (by decide))) ?_ (by rw [h14, up2_s]) (fun E r h => ?_)
  · rw [h14]
    exact (k13.mono (fun k j h => Or.inl (by omega))).wr (Or.inr ⟨rfl, rfl⟩)
  · exact (s13 E r h).fr (fun i j hi => by rw [h14, up2_n (by omega)])
theorem gX12_again_L43 {p1 b : Int} {Q : Int → Mem → Prop} {M0 : Mem} (hp : 0 ≤ p1 ∧ p1 ≤ 2) (hQ : ∀ M' : Mem, IM b M' → FrJ (fun k j => k = 5 ∨ (k = 1 ∧ j = 28)) M0 M' → M' 1 28 = 0 → (∀ j, 0 ≤ j → j < 38 → M' 5 j = M0 31 (38 * p1 + j)) → Q 1 M') : ∀ (n : Nat) (v2 : Int) (M : Mem), IM b M → FrJ (fun k j => k = 5 ∨ (k = 1 ∧ j = 28)) M0 M → (∀ j, 0 ≤ j → j < v2 → M 5 j = M0 31 (38 * p1 + j)) → (0 ≤ v2 ∧ v2 ≤ 38) → 38 - v2 < (n : Int) → qX12_again_L43 p1 Q n v2 M := by
  intro n
  induction n with
  | zero => intro v2 M hI hF hs hv hm; exact absurd hm (by omega)
  | succ n ih =>
    intro v2 M hI hF hs hv hm
    rw [qX12_again_L43]
    refine ⟨⟨by omega, by omega⟩, ⟨fun c => ?_, fun c => ⟨by omega, by omega, ?_⟩⟩⟩
    · intro M13 h13
      refine hQ _ (by rw [h13]; exact hI.up (by omega) (bm_c1_28.mpr (by decide))) (by rw [h13]; exact hF.up (Or.inr ⟨rfl, rfl⟩)) (by rw [h13, up2_s]) (fun j p q => ?_)
      rw [h13, up2_n (by decide)]
      exact hs j p (by omega)
    · intro x16 e16 _
      refine ⟨by omega, by omega, ?_⟩
      intro M19 h19
      have hn : BN b v2 x16 := by
        have r := bm_c31.mp (hI.bx 31 (38 * p1 + v2))
        rw [← e16, show (38 * p1 + v2) % 38 = v2 from by omega] at r
        exact r
      refine ih _ _ (by rw [h19]; exact hI.up (by omega) ((bm_n (Or.inl rfl)).mpr hn)) (by rw [h19]; exact hF.up (Or.inl rfl)) ?_ (by omega) (by omega)
      intro j p q
      rw [h19]
      by_cases cj : j = v2
      · rw [cj, up2_s, e16]
        exact hF 31 _ (by omega)
      · rw [up2_j cj]
        exact hs j p (by omega)
theorem gX12_again {p1 b : Int} {M : Mem} {Q : Int → Mem → Prop} (hI : IM b M) (hQ1 : 0 ≤ p1 ∧ p1 ≤ 2 → M 29 p1 ≠ 0 → M 30 p1 = M 1 6 → ∀ M' : Mem, IM b M' → FrJ (fun k j => k = 5 ∨ (k = 1 ∧ (j = 0 ∨ j = 28))) M M' → M' 1 28 = 0 → (∀ j, 0 ≤ j → j < 38 → M' 5 j = M 31 (38 * p1 + j)) → Q 1 M') (hQ2 : ¬ ((0 ≤ p1 ∧ p1 ≤ 2) ∧ M 29 p1 ≠ 0 ∧ M 30 p1 = M 1 6) → ∀ M' : Mem, IM b M' → FrJ (fun k j => k = 1 ∧ j = 0) M M' → Q 0 M') : qX12_again p1 M Q := by
  unfold qX12_again
  intro M1 h1
  have i1 : IM b M1 := by rw [h1]; exact hI.up (by omega) (by simp [BM])
  have F1 : FrJ (fun k j => k = 1 ∧ j = 0) M M1 := by rw [h1]; exact FrJ.rf.up ⟨rfl, rfl⟩
  refine sX12_in (p0 := p1) (p2 := 0) (p4 := 2) i1 ?_
  intro z hz _ _
  refine ⟨fun c => hQ2 (by have := hz.2.2 c; omega) M1 i1 F1, fun c => ?_⟩
  have cp := hz.2.1 (by rcases hz.1 with q | q <;> omega)
  refine ⟨by omega, by omega, ?_⟩
  intro x6 e6 _
  have f6 : x6 = M 29 p1 := by rw [e6]; exact F1 29 p1 (by omega)
  refine ⟨fun c2 => hQ2 (by omega) M1 i1 F1, fun c2 => ?_⟩
  intro x8 e8 _ x9 e9 _
  have f8 : x8 = M 30 p1 := by rw [e8]; exact F1 30 p1 (by omega)
  have f9 : x9 = M 1 6 := by rw [e9]; exact F1 1 6 (by omega)
  refine ⟨fun c3 => ⟨39, gX12_again_L43 (b := b) (M0 := M1) cp ?_ _ _ _ i1 FrJ.rf (fun j p q => by omega) (by omega) (by omega)⟩, fun c3 => hQ2 (by omega) M1 i1 F1⟩
  intro M' i' hF h28 hs
  refine hQ1 cp (by omega) (by omega) M' i' ((F1.mono (by intro k j h; omega)).tr (hF.mono (by intro k j h; omega))) h28 (fun j p q => ?_)
  rw [hs j p q]
  exact F1 31 _ (by omega)
theorem STA.again {E MX MM MX' MM' : Mem} {p1 : Int} (h : STA E MX MM) (hE : EBx E) (hI : IX MX) (cp : 0 ≤ p1 ∧ p1 ≤ 2) (hk : MX 166 p1 ≠ 0) (hc : MM 30 p1 = MM 1 6) (kx : Ks (fun k j => (1 ≤ k ∧ k ≤ 7) ∨ (k = 163 ∧ j = 2)) MX MX') (x2 : MX' 163 2 = 0) (xs : ∀ (E : Mem) (r : Int → Int), SC E MX (29 + 7 * p1.toNat) r → SC E MX' 1 r) (km : FrJ (fun k j => k = 5 ∨ (k = 1 ∧ (j = 0 ∨ j = 28))) MM MM') (m2 : MM' 1 28 = 0) (ms : ∀ j, 0 ≤ j → j < 38 → MM' 5 j = MM 31 (38 * p1 + j)) : STA E MX' MM' := by
  obtain ⟨a, b, c, d, e, f⟩ := h
  obtain ⟨s, w⟩ := ((f p1 cp.1 (by omega)).2 hk).2.2.1 hc
  exact ⟨a.fr (kx _ _ (by omega)) (kx _ _ (by omega)) (kx _ _ (by omega)) (fun j => kx 159 j (by omega)), b.kx hI (kx _ _ (by omega)) (fun k j q => kx k j (by omega)), (xs E _ s).cg hE (fun j p q => ms j p q), w.cg hE (fun j p q => ms j p q), HIS.nil x2 m2, f.fr (fun k j q => kx k j (by omega)) (fun k j q => km k j (by omega))⟩
/-- both answer again alike -/
theorem KEP.eq {E MX MM : Mem} (h : STA E MX MM) {p1 : Int} (cp : 0 ≤ p1 ∧ p1 ≤ 2) : (MX 166 p1 ≠ 0 ∧ MX (29 + 7 * p1.toNat) 6 = MX 1 6 ∧ MX (29 + 7 * p1.toNat) 7 = MX 1 7) ↔ (MM 29 p1 ≠ 0 ∧ MM 30 p1 = MM 1 6) := by
  obtain ⟨a, b, c, d, e, f⟩ := h
  obtain ⟨u, v⟩ := f p1 cp.1 (by omega)
  have h6 : MX 1 6 = E 1 4 := c.1
  have h7 : MX 1 7 = E 1 5 := c.2.1
  refine ⟨fun ⟨q1, q2, q3⟩ => ?_, fun ⟨q1, q2⟩ => ?_⟩
  · obtain ⟨b1, b2, b3, b4⟩ := v q1
    refine ⟨fun w => q1 (u.mpr w), ?_⟩
    rcases Int.lt_or_le (MM 30 p1) (MM 1 6) with w | w
    · rcases b4 w with t | t <;> omega
    · omega
  · have q0 : MX 166 p1 ≠ 0 := fun w => q1 (u.mp w)
    obtain ⟨b1, b2, b3, b4⟩ := v q0
    obtain ⟨s, w⟩ := b3 q2
    exact ⟨q0, by rw [s.1, h6], by rw [s.2.1, h7]⟩
-- one hearse, one mourner
theorem gX12_owners_L4 {p1 b : Int} {Q : Int → Mem → Prop} {M E : Mem} (hI : IM b M) (hE : CE E M) (hQ : Q (bitF (E 3) p1 (eO E)) M) : ∀ (n : Nat) (v2 v3 : Int), v2 = bitF (E 3) p1 v3.toNat → (0 ≤ v3 ∧ v3 ≤ M 1 5) → M 1 5 - v3 < (n : Int) → qX12_owners_L4 p1 Q n v2 v3 M := by
  intro n
  induction n with
  | zero => intro v2 v3 h4 hv hm; exact absurd hm (by omega)
  | succ n ih =>
    intro v2 v3 h4 hv hm
    have bO := hE.o hI
    have r4 := bitF_R (E 3) p1 v3.toNat
    rw [← h4] at r4
    rw [qX12_owners_L4]
    intro x1 e1 _
    refine ⟨⟨by omega, by omega⟩, ⟨fun c => ⟨r4, ?_⟩, fun c => ⟨by omega, by omega, ?_⟩⟩⟩
    · rw [h4, show v3.toNat = eO E from by omega]
      exact hQ
    · intro x7 e7 _
      have f7 : x7 = E 3 v3 := by rw [e7]; exact hE 3 v3 (cE3 v3)
      have hs := bitF_s (f := E 3) (x := p1) hv.1
      refine ⟨fun c2 => ?_, fun c2 => ?_⟩
      · intro x9 e9 _
        refine ih _ _ ?_ (by omega) (by omega)
        rw [hs, if_neg (by rw [← f7]; exact c2), e9, h4]
      · intro x10 e10 _ x11 e11 _
        refine ih _ _ ?_ (by omega) (by omega)
        rw [hs, if_pos (by rw [← f7]; exact c2), e11, e10, h4]
theorem gX12_owners {p1 b : Int} {Q : Int → Mem → Prop} {M E : Mem} (hI : IM b M) (hE : CE E M) (hQ : Q (bitF (E 3) p1 (eO E)) M) : qX12_owners p1 M Q := by
  have bO := hE.o hI
  unfold qX12_owners
  exact ⟨9, gX12_owners_L4 hI hE hQ _ _ _ rfl (by omega) (by omega)⟩
noncomputable def heF (E : Mem) (r : Int → Int) (h w : Int) : Int := if w = 0 then r h else if w = 1 then r (6 + h) else if w = 2 then (if r h < 0 then 0 else paF E r h) else if w = 3 then bitF (fun m => r (21 + m)) h (eO E) else if w = 4 then bitF (fun m => r (29 + m)) h (eO E) else bitF (E 3) h (eO E)
abbrev heOK (E : Mem) (h w : Int) : Prop := (0 ≤ h ∧ h < E 1 4) ∧ 0 ≤ w ∧ w ≤ 5
def moF (E : Mem) (r : Int → Int) (m w : Int) : Int := if w = 0 then r (13 + m) else if w = 1 then E 3 m else if w = 2 then r (21 + m) else if w = 3 then r (29 + m) else nearF r (r (13 + m)) (eH E)
abbrev moOK (E : Mem) (m w : Int) : Prop := (0 ≤ m ∧ m < E 1 5) ∧ 0 ≤ w ∧ w ≤ 4
end
section
/-! SHEET -/
theorem w32_l (a b : Int) : w32 (w32 a + b) = w32 (a + b) := by
  unfold w32
  have e : iI ((iI a).toInt + b) = iI (a + b) := by
    show Int32.ofInt ((iI a).toInt + b) = Int32.ofInt (a + b)
    rw [Int32.ofInt_add, Int32.ofInt_add, Int32.ofInt_toInt]
    rfl
  rw [e]
theorem w32_r (a b : Int) : w32 (a + w32 b) = w32 (a + b) := by
  rw [Int.add_comm, w32_l, Int.add_comm]
def cvF (kd v : Int) : Int := if kd = 0 then b8I v else if kd = 1 then s16I v else v
def shE (E : Mem) (kd n f st m : Int) : Int := if kd = 3 ∨ n ≤ m then 0 else max 0 (min (cvF kd (w32 (f + w32 (m * st)))) (eG E - 1))
def shR (E : Mem) (kd n f st : Int) (r : Int → Int) : Nat → Int → Int
  | 0 => r
  | m + 1 => if r (29 + m) < 0 then up (shR E kd n f st r m) (13 + m) (shE E kd n f st m) else shR E kd n f st r m
def shS (E : Mem) (kd n f st : Int) (r : Int → Int) : Nat → Int
  | 0 => 0
  | m + 1 => w32 (shS E kd n f st r m + shR E kd n f st r (m + 1) (13 + m))
theorem shR_s {E : Mem} {kd n f st : Int} {r : Int → Int} {m : Int} (h : 0 ≤ m) : shR E kd n f st r (m + 1).toNat = if r (29 + m) < 0 then up (shR E kd n f st r m.toNat) (13 + m) (shE E kd n f st m) else shR E kd n f st r m.toNat := by
  rw [show (m + 1).toNat = m.toNat + 1 from by omega]
  show (if r (29 + (m.toNat : Nat)) < 0 then up (shR E kd n f st r m.toNat) (13 + (m.toNat : Nat)) (shE E kd n f st (m.toNat : Nat)) else shR E kd n f st r m.toNat) = _
  rw [show ((m.toNat : Nat) : Int) = m from by omega]
theorem shS_s {E : Mem} {kd n f st : Int} {r : Int → Int} {m : Int} (h : 0 ≤ m) : shS E kd n f st r (m + 1).toNat = w32 (shS E kd n f st r m.toNat + shR E kd n f st r (m + 1).toNat (13 + m)) := by
  rw [show (m + 1).toNat = m.toNat + 1 from by omega]
  show w32 (shS E kd n f st r m.toNat + shR E kd n f st r (m.toNat + 1) (13 + (m.toNat : Nat))) = _
  rw [show ((m.toNat : Nat) : Int) = m from by omega]
theorem shR_o {E : Mem} {kd n f st : Int} {r : Int → Int} {j : Int} (hj : 21 ≤ j) : ∀ m : Nat, m ≤ 8 → shR E kd n f st r m j = r j := by
  intro m
  induction m with
  | zero => intro _; rfl
  | succ m ih =>
    intro hm
    unfold shR
    split
    · rw [up_j (by omega)]; exact ih (by omega)
    · exact ih (by omega)
theorem shE_b {E : Mem} {kd n f st m : Int} (hE : EBx E) : 0 ≤ shE E kd n f st m ∧ shE E kd n f st m < eG E := by
  have f := hE.f
  have g := hE.1
  unfold shE
  split <;> omega
theorem WR.place {E : Mem} {r : Int → Int} {m v : Int} (hW : WR E r) (hE : EBx E) (hm : 0 ≤ m ∧ m < E 1 5) (o : 0 ≤ v ∧ v < eG E) : WR E (up r (13 + m) v) := by
  have f := hE.f
  obtain ⟨g1, g2, g3⟩ := hE
  have low : ∀ j, j ≤ 12 → up r (13 + m) v j = r j := fun j a => up_j (by omega)
  refine ⟨fun i j i0 i1 j0 j1 q p => ?_, fun i i0 i1 => ?_, fun i i0 i1 => ?_, ?_, by rw [up_j (by omega)]; exact hW.2.2.2.2⟩
  · rw [low i (by omega), low j (by omega)] at q
    rw [low i (by omega)] at p
    exact hW.1 i j i0 i1 j0 j1 q p
  · rw [low i (by omega), low (6 + i) (by omega)]
    exact hW.2.1 i i0 i1
  · have w := hW.2.2.1 i i0 i1
    rw [up_j (j := 13 + m) (i := 21 + i) (by omega), up_j (j := 13 + m) (i := 29 + i) (by omega)]
    by_cases ci : i = m
    · rw [ci, upS]
      rw [ci] at w
      exact ⟨w.1, o, w.2.2⟩
    · rw [up_j (by omega)]
      exact w
  · rw [low 12 (by decide), hW.2.2.2.1]
    exact arF_cg (fun i i0 i1 => by rw [low i (by omega)])
theorem WR.sh {E : Mem} {kd n f st : Int} {r : Int → Int} (hW : WR E r) (hE : EBx E) : ∀ m : Nat, (m : Int) ≤ E 1 5 → WR E (shR E kd n f st r m) := by
  intro m
  induction m with
  | zero => intro _; exact hW
  | succ m ih =>
    intro hm
    unfold shR
    split
    · exact (ih (by omega)).place hE (by omega) (shE_b hE)
    · exact ih (by omega)
abbrev shOK (kd n : Int) : Prop := (0 ≤ kd ∧ kd ≤ 3) ∧ n ≤ 8
def shA (E : Mem) (kd n f st : Int) (r : Int → Int) : Int := if ¬ shOK kd n then -1 else if kd ≠ 3 ∧ n < 0 then -2 else if kd = 3 then -3 else shS E kd n f st r (eO E)
def shRR (E : Mem) (kd n f st : Int) (r : Int → Int) : Int → Int := if shOK kd n ∧ (kd = 3 ∨ 0 ≤ n) then shR E kd n f st r (eO E) else r
theorem WR.shAll {E : Mem} {kd n f st : Int} {r : Int → Int} (hW : WR E r) (hE : EBx E) : WR E (shRR E kd n f st r) := by
  have f' := hE.f
  show WR E (if shOK kd n ∧ (kd = 3 ∨ 0 ≤ n) then shR E kd n f st r (eO E) else r)
  split
  · exact hW.sh hE _ (by omega)
  · exact hW
theorem gX11_cellOfEntry {p1 p2 : Int} {M E : Mem} {Q : Int → Mem → Prop} (hI : IX M) (hS : STR E M) (hp : iR p2) (hQ : Q (max 0 (min (cvF p1 p2) (eG E - 1))) M) : qX11_cellOfEntry p1 p2 M Q := by
  unfold cvF at hQ
  unfold qX11_cellOfEntry qX11_cellOfEntry_J20
  refine ⟨fun c => ⟨fun c2 => ?_, fun c2 => ?_⟩, fun c => ?_⟩
  · refine ⟨hp, gX8_putOnStreet hI hS ?_⟩
    intro _
    rw [if_neg c, if_neg c2] at hQ
    exact hQ
  · intro x5 e5 r5
    refine ⟨r5, gX8_putOnStreet hI hS ?_⟩
    intro _
    rw [if_neg c, if_pos c2, ← e5] at hQ
    exact hQ
  · intro x6 e6 r6
    refine ⟨r6, gX8_putOnStreet hI hS ?_⟩
    intro _
    rw [if_pos c, ← e6] at hQ
    exact hQ
theorem gX11_sheet_L47 {p1 p2 p3 p4 e : Int} {X125 : Int → Mem → Prop} {Q : Int → Mem → Prop} {M0 E : Mem} {r : Int → Int} (he : e = if p1 = 3 then 0 else p2) (he8 : e ≤ 8 ∧ 0 ≤ e) (hS : STR E M0) (hX : ∀ M' : Mem, IX M' → Ks (fun k _ => k = 4) M0 M' → SC E M' 1 (shR E p1 p2 p3 p4 r (eO E)) → X125 (shS E p1 p2 p3 p4 r (eO E)) M') (hW : WR E r) : ∀ (n : Nat) (v6 v7 : Int) (M : Mem), IX M → Ks (fun k _ => k = 4) M0 M → SC E M 1 (shR E p1 p2 p3 p4 r v7.toNat) → v6 = shS E p1 p2 p3 p4 r v7.toNat → (0 ≤ v7 ∧ v7 ≤ E 1 5) → E 1 5 - v7 < (n : Int) → qX11_sheet_L47 p1 p2 p3 p4 X125 Q n e v6 v7 M := by
  intro n
  induction n with
  | zero => intro v6 v7 M hI hK hC h6 hv hm; exact absurd hm (by omega)
  | succ n ih =>
    intro v6 v7 M hI hK hC h6 hv hm
    have ef := hS.eb.f
    have b5 := hS.2.2.2.2.2.2.2.1
    have b3 := hS.2.1
    have S1 : STR E M := hS.fr (hK 158 1 (by omega)) (hK 158 2 (by omega)) (hK 158 3 (by omega)) (fun j => hK 159 j (by omega))
    rw [qX11_sheet_L47]
    intro x6 e6 _
    have f6 : x6 = E 1 5 := by rw [e6]; exact hC.2.1
    refine ⟨⟨by omega, by omega⟩, ⟨fun c => ?_, fun c => ?_⟩⟩
    · rw [show v7.toNat = eO E from by omega] at hC h6
      rw [h6]
      exact hX _ hI hK hC
    have g7 : M 7 v7 = r (29 + v7) := by
      have := hC.2.2.2.2.2.2.2.2.1 v7 hv.1 (by omega)
      rw [shR_o (by omega) _ (by omega)] at this
      exact this
    have hs := shR_s (E := E) (kd := p1) (n := p2) (f := p3) (st := p4) (r := r) hv.1
    have hss := shS_s (E := E) (kd := p1) (n := p2) (f := p3) (st := p4) (r := r) hv.1
    have w := hW.2.2.1 v7 hv.1 (by omega)
    have J104 : ∀ M' : Mem, IX M' → Ks (fun k _ => k = 4) M0 M' → SC E M' 1 (shR E p1 p2 p3 p4 r (v7 + 1).toNat) → qX11_sheet_J104 p1 p2 p3 p4 (qX11_sheet_L47 p1 p2 p3 p4 X125 Q n) X125 Q e v6 v7 M' := by
      intro M' i' k' c'
      unfold qX11_sheet_J104
      refine ⟨by omega, by omega, ?_⟩
      intro x13 e13 _ x14 e14 _
      refine ih _ _ _ i' k' c' ?_ (by omega) (by omega)
      rw [hss, e14, h6, e13]
      congr 2
      exact c'.2.2.2.2.2.1 v7 hv.1 (by omega)
    have J103 : r (29 + v7) < 0 → qX11_sheet_J103 p1 p2 p3 p4 (qX11_sheet_L47 p1 p2 p3 p4 X125 Q n) X125 Q e v6 v7 (shE E p1 p2 p3 p4 v7) v7 M := by
      intro hr
      have bE := shE_b (E := E) (kd := p1) (n := p2) (f := p3) (st := p4) (m := v7) hS.eb
      unfold qX11_sheet_J103
      refine ⟨by omega, by omega, ⟨by omega, by omega⟩, ?_⟩
      intro M20 h20
      refine J104 M20 (by rw [h20]; exact hI.up (by decide) ((bx_s3 (show isS 1 by decide)).mpr ⟨by omega, by omega⟩)) (by rw [h20]; exact hK.wr rfl) ?_
      rw [hs, if_pos hr, h20]
      exact hC.place (by omega)
    refine gX6_hasEnded (k0 := 1) (p1 := v7) ⟨by omega, by omega⟩ ?_
    intro z9 c9 _ _
    rw [g7] at c9
    refine ⟨fun c2 => J104 M hI hK (by rw [hs, if_neg (by omega)]; exact hC), fun c2 => ⟨⟨by omega, by omega⟩, ⟨fun c3 => ?_, fun c3 => ?_⟩⟩⟩
    · have v : shE E p1 p2 p3 p4 v7 = 0 := by
        unfold shE
        rw [if_pos]
        by_cases c4 : p1 = 3
        · exact Or.inl c4
        · rw [if_neg c4] at he
          exact Or.inr (by omega)
      have := J103 (by omega)
      rw [v] at this
      exact this
    · intro x21 e21 _ x22 e22 r22
      have n3 : p1 ≠ 3 := by
        intro c4
        rw [if_pos c4] at he
        omega
      rw [if_neg n3] at he
      refine gX11_cellOfEntry hI S1 r22 ?_
      intro _
      have v : max 0 (min (cvF p1 x22) (eG E - 1)) = shE E p1 p2 p3 p4 v7 := by
        unfold shE
        rw [if_neg (by omega), e22, e21]
      rw [v]
      exact J103 (by omega)
theorem gX11_sheet {p1 p2 p3 p4 : Int} {M E : Mem} {r : Int → Int} {Q : Int → Mem → Prop} (hI : IX M) (hS : STR E M) (hC : SC E M 1 r) (hW : WR E r) (hQ : ∀ M' : Mem, IX M' → Ks (fun k _ => k = 4) M M' → SC E M' 1 (shRR E p1 p2 p3 p4 r) → Q (shA E p1 p2 p3 p4 r) M') : qX11_sheet p1 p2 p3 p4 M Q := by
  have b5 := hS.2.2.2.2.2.2.2.1
  have ef := hS.eb.f
  unfold shA shRR at hQ
  have BAD : ¬ shOK p1 p2 → Q (-1) M := fun q => by
    have := hQ M hI Ks.rf (by rw [if_neg (fun u => q u.1)]; exact hC)
    rw [if_pos q] at this
    exact this
  have GO : shOK p1 p2 → (p1 = 3 ∨ 0 ≤ p2) → qX11_sheet_J29 p1 p2 p3 p4 Q M := by
    intro ok hn
    have FIN : ∀ M' : Mem, IX M' → Ks (fun k _ => k = 4) M M' → SC E M' 1 (shR E p1 p2 p3 p4 r (eO E)) → (((¬ p1 = 3) → (iR (shS E p1 p2 p3 p4 r (eO E)) ∧ Q (shS E p1 p2 p3 p4 r (eO E)) M')) ∧ ((p1 = 3) → Q (-3) M')) := by
      intro M' i' k' c'
      have H := hQ M' i' k' (by rw [if_pos ⟨ok, hn⟩]; exact c')
      rw [if_neg (fun q => q ok), if_neg (by omega)] at H
      refine ⟨fun c => ⟨?_, ?_⟩, fun c => ?_⟩
      · cases h : eO E with
        | zero => exact ⟨by show -2147483648 ≤ (0 : Int); decide, by show (0 : Int) ≤ 2147483647; decide⟩
        | succ m => exact w32_R _
      · rw [if_neg c] at H
        exact H
      · rw [if_pos c] at H
        exact H
    unfold qX11_sheet_J29
    refine ⟨fun c => ⟨9, ?_⟩, fun c => ⟨9, ?_⟩⟩
    · exact gX11_sheet_L47 (M0 := M) (r := r) (by rw [if_neg c]) (by omega) hS FIN hW _ _ _ _ hI Ks.rf hC rfl (by omega) (by omega)
    · exact gX11_sheet_L47 (M0 := M) (r := r) (by rw [if_pos c]) (by omega) hS FIN hW _ _ _ _ hI Ks.rf hC rfl (by omega) (by omega)
  unfold qX11_sheet
  refine ⟨fun c => BAD (by unfold shOK; omega), fun c => ⟨fun c2 => BAD (by unfold shOK; omega), fun c2 => ⟨fun c3 => ⟨fun c4 => GO ⟨by omega, by omega⟩ (by omega), fun c4 => ⟨fun c5 => GO ⟨by omega, by omega⟩ (by omega), fun c5 => ?_⟩⟩, fun c3 => BAD (by unfold shOK; omega)⟩⟩⟩
  have := hQ M hI Ks.rf (by rw [if_neg (by unfold shOK; omega)]; exact hC)
  rw [if_neg (by unfold shOK; omega), if_pos (by omega)] at this
  exact this
theorem gX12_sheet_L46 {p1 p2 p3 p4 b : Int} {X177 : Int → Mem → Prop} {Q : Int → Mem → Prop} {M0 E : Mem} {r : Int → Int} (h3 : iR p3) (hEb : EBx E) (hX : ∀ M' : Mem, IM b M' → FrJ (fun k _ => k = 5) M0 M' → M' 5 = shR E p1 p2 p3 p4 r (eO E) → X177 (shS E p1 p2 p3 p4 r (eO E)) M') : ∀ (n : Nat) (v5 v6 v7 : Int) (M : Mem), IM b M → CE E M → FrJ (fun k _ => k = 5) M0 M → M 5 = shR E p1 p2 p3 p4 r v7.toNat → v5 = shS E p1 p2 p3 p4 r v7.toNat → v6 = w32 (p3 + w32 (v7 * p4)) → (0 ≤ v7 ∧ v7 ≤ E 1 5) → E 1 5 - v7 < (n : Int) → qX12_sheet_L46 p1 p2 p3 p4 X177 Q n v5 v6 v7 M := by
  intro n
  induction n with
  | zero => intro v5 v6 v7 M hI hE hF h5 hv5 hv6 hv hm; exact absurd hm (by omega)
  | succ n ih =>
    intro v5 v6 v7 M hI hE hF h5 hv5 hv6 hv hm
    have ef := hEb.f
    have b5 := hEb.2.2
    have bg := hE.g hI
    have e5 : M 1 5 = E 1 5 := hE 1 5 cE15
    rw [qX12_sheet_L46]
    intro x6 e6 _
    refine ⟨⟨by omega, by omega⟩, ⟨fun c => ?_, fun c => ?_⟩⟩
    · rw [show v7.toNat = eO E from by omega] at h5 hv5
      rw [hv5]
      exact hX _ hI hF h5
    have g29 : M 5 (29 + v7) = r (29 + v7) := by rw [h5]; exact shR_o (by omega) _ (by omega)
    have hs := shR_s (E := E) (kd := p1) (n := p2) (f := p3) (st := p4) (r := r) hv.1
    have hss := shS_s (E := E) (kd := p1) (n := p2) (f := p3) (st := p4) (r := r) hv.1
    have w13 : w32 (13 + v7) = 13 + v7 := w32_id ⟨by omega, by omega⟩
    have J148 : ∀ t0 : Int, (-1 ≤ t0 ∧ t0 ≤ 29) → up (M 5) (13 + v7) t0 = shR E p1 p2 p3 p4 r (v7 + 1).toNat → qX12_sheet_J148 p1 p2 p3 p4 (qX12_sheet_L46 p1 p2 p3 p4 X177 Q n) X177 Q v5 v6 v7 t0 (13 + v7) M := by
      intro t0 ht hr
      unfold qX12_sheet_J148
      refine ⟨by omega, by omega, ⟨by omega, by omega⟩, ?_⟩
      intro M19 h19 x20 e20 _
      have f20 : x20 = 13 + v7 := by rw [e20]; exact w13
      refine ⟨by omega, by omega, ?_⟩
      intro x23 e23 _ x24 e24 _ x25 e25 _
      have k19 : M19 5 = shR E p1 p2 p3 p4 r (v7 + 1).toNat := by rw [h19, up2_up]; exact hr
      refine ih _ _ _ _ (by rw [h19]; exact hI.up (by omega) ((bm_n (Or.inl rfl)).mpr ⟨by omega, by omega, by omega, by omega⟩)) (by rw [h19]; exact hE.up (by intro h; rcases h with h | h | h | h | h <;> omega)) (by rw [h19]; exact hF.up rfl) k19 ?_ ?_ (by omega) (by omega)
      · rw [hss, e24, hv5, e23, k19, f20]
      · rw [e25, hv6, w32_l, w32_r, show (v7 + 1) * p4 = v7 * p4 + p4 from by rw [Int.add_mul, Int.one_mul], show p3 + w32 (v7 * p4) + p4 = (p3 + p4) + w32 (v7 * p4) from by omega, w32_r]
        congr 1
        omega
    have J110 : qX12_sheet_J110 p1 p2 p3 p4 (qX12_sheet_L46 p1 p2 p3 p4 X177 Q n) X177 Q v5 v6 v7 (shE E p1 p2 p3 p4 v7) M := by
      have bE := shE_b (E := E) (kd := p1) (n := p2) (f := p3) (st := p4) (m := v7) hEb
      unfold qX12_sheet_J110
      intro x12 e12 _
      rw [w13] at e12
      subst e12
      refine ⟨⟨by omega, by omega⟩, ?_⟩
      refine gX12_isEnded (k0 := 5) (p1 := v7) ⟨by omega, by omega⟩ ?_
      intro z14 c14 _ _
      rw [g29] at c14
      refine ⟨fun c2 => ?_, fun c2 => ?_⟩
      · exact J148 _ ⟨by omega, by omega⟩ (by rw [hs, if_pos (by omega), h5])
      · intro x26 e26 _
        rw [w13] at e26
        refine ⟨by omega, by omega, ?_⟩
        intro x29 e29 _
        have b29 : -1 ≤ x29 ∧ x29 ≤ 29 := by rw [e29]; exact ((bm_n (Or.inl rfl)).mp (hI.bx _ _)).2.1 ⟨by omega, by omega⟩
        refine J148 _ b29 ?_
        rw [hs, if_neg (by omega), e29, e26, up_id, h5]
    have Z : (p1 = 3 ∨ p2 ≤ v7) → qX12_sheet_J91 p1 p2 p3 p4 (qX12_sheet_L46 p1 p2 p3 p4 X177 Q n) X177 Q v5 v6 v7 M := by
      intro h
      have v : shE E p1 p2 p3 p4 v7 = 0 := by unfold shE; rw [if_pos h]
      rw [v] at J110
      exact J110
    have J78 : ∀ t0 : Int, iR t0 → t0 = cvF p1 v6 → qX12_sheet_J78 p1 p2 p3 p4 (qX12_sheet_L46 p1 p2 p3 p4 X177 Q n) X177 Q v5 v6 v7 t0 M := by
      intro t0 rt ht
      unfold qX12_sheet_J78
      refine ⟨fun c2 => Z (Or.inl c2), fun c2 => ⟨⟨by omega, by omega⟩, ⟨fun c3 => ?_, fun c3 => Z (Or.inr (by omega))⟩⟩⟩
      refine gX12_gate hI hE ?_
      intro _ x33 e33 _
      have f33 : x33 = eG E - 1 := by rw [e33]; exact w32_id ⟨by omega, by omega⟩
      refine ⟨rt, ?_⟩
      intro x35 e35 _ x36 e36 _
      have v : x36 = shE E p1 p2 p3 p4 v7 := by
        unfold shE
        rw [if_neg (by omega), e36, e35, f33, ht, hv6, Int.min_comm]
      rw [v]
      exact J110
    have r6 : iR v6 := by rw [hv6]; exact w32_R _
    refine ⟨fun c2 => ⟨fun c3 => J78 _ r6 (by unfold cvF; rw [if_neg c2, if_neg c3]), fun c3 => ?_⟩, fun c2 => ?_⟩
    · intro x37 e37 r37
      exact J78 _ r37 (by unfold cvF; rw [if_neg c2, if_pos c3]; exact e37)
    · intro x38 e38 r38
      exact J78 _ r38 (by unfold cvF; rw [if_pos c2]; exact e38)
theorem gX12_sheet {p1 p2 p3 p4 b : Int} {M E : Mem} {Q : Int → Mem → Prop} (hI : IM b M) (hE : CE E M) (hEb : EBx E) (h3 : iR p3) (hQ : ∀ M' : Mem, IM b M' → FrJ (fun k j => k = 5 ∨ (k = 1 ∧ j = 0)) M M' → M' 5 = shRR E p1 p2 p3 p4 (M 5) → Q (shA E p1 p2 p3 p4 (M 5)) M') : qX12_sheet p1 p2 p3 p4 M Q := by
  have ef := hEb.f
  have b5 := hEb.2.2
  unfold shA shRR at hQ
  unfold qX12_sheet
  intro M1 h1
  have i1 : IM b M1 := by rw [h1]; exact hI.up (by omega) (by simp [BM])
  have F1 : FrJ (fun k j => k = 5 ∨ (k = 1 ∧ j = 0)) M M1 := by rw [h1]; exact FrJ.rf.up (Or.inr ⟨rfl, rfl⟩)
  have K1 : M1 5 = M 5 := by rw [h1, up2_n (by decide)]
  have E1 : CE E M1 := by rw [h1]; exact hE.up (by intro h; rcases h with h | h | h | h | h <;> omega)
  have BAD : ¬ shOK p1 p2 → Q (-1) M1 := fun q => by
    have := hQ M1 i1 F1 (by rw [if_neg (fun u => q u.1)]; exact K1)
    rw [if_pos q] at this
    exact this
  have GO : shOK p1 p2 → (p1 = 3 ∨ 0 ≤ p2) → qX12_sheet_J37 p1 p2 p3 p4 Q M1 := by
    intro ok hn
    unfold qX12_sheet_J37
    refine ⟨9, gX12_sheet_L46 (b := b) (M0 := M1) (r := M 5) h3 hEb ?_ _ _ _ _ _ i1 E1 FrJ.rf K1 rfl ?_ (by omega) (by omega)⟩
    · intro M' i' f' c'
      have H := hQ M' i' (F1.tr (f'.mono (fun _ _ q => Or.inl q))) (by rw [if_pos ⟨ok, hn⟩]; exact c')
      rw [if_neg (fun q => q ok), if_neg (by omega)] at H
      refine ⟨fun c => ⟨?_, ?_⟩, fun c => ?_⟩
      · cases h : eO E with
        | zero => exact ⟨by show -2147483648 ≤ (0 : Int); decide, by show (0 : Int) ≤ 2147483647; decide⟩
        | succ m => exact w32_R _
      · rw [if_neg c] at H
        exact H
      · rw [if_pos c] at H
        exact H
    · rw [Int.zero_mul, w32_r, Int.add_zero, w32_id h3]
  refine sX12_in (p0 := p1) (p2 := 0) (p4 := 3) i1 ?_
  intro z hz _ _
  refine ⟨fun c => BAD (by have := hz.2.2 c; unfold shOK; omega), fun c => ?_⟩
  have cp := hz.2.1 (by rcases hz.1 with q | q <;> omega)
  refine ⟨fun c3 => ⟨fun c4 => GO ⟨by omega, by omega⟩ (by omega), fun c4 => ⟨fun c5 => GO ⟨by omega, by omega⟩ (by omega), fun c5 => ?_⟩⟩, fun c3 => BAD (by unfold shOK; omega)⟩
  have := hQ M1 i1 F1 (by rw [if_neg (by unfold shOK; omega)]; exact K1)
  rw [if_neg (by unfold shOK; omega), if_pos (by omega)] at this
  exact this
/-- only now changes -/
theorem STA.now {E MX MM MX' MM' : Mem} {r' : Int → Int} (h : STA E MX MM) (hE : EBx E) (hI : IX MX) (kx : Ks (fun k _ => 1 ≤ k ∧ k ≤ 7) MX MX') (hC : SC E MX' 1 r') (km : FrJ (fun k j => k = 5 ∨ (k = 1 ∧ j = 0)) MM MM') (m5 : MM' 5 = r') (hW : WR E r') : STA E MX' MM' := by
  obtain ⟨a, b, c, d, e, f⟩ := h
  exact ⟨a.fr (kx _ _ (by omega)) (kx _ _ (by omega)) (kx _ _ (by omega)) (fun j => kx 159 j (by omega)), b.kx hI (kx _ _ (by omega)) (fun k j q => kx k j (by omega)), by rw [m5]; exact hC, by rw [m5]; exact hW, e.fr hE (fun k j q => kx k j (by omega)) (km 1 28 (by omega)) (fun j _ _ => km 15 j (by omega)) (bx_c163_1.mp (hI.bx 163 1)), f.fr (fun k j q => kx k j (by omega)) (fun k j q => km k j (by omega))⟩
end
section
/-! READING HEARSES -/
def dgC (f : Int → Int) (t : Int) : Nat → Int → Nat
  | 0, _ => 0
  | p + 1, a => if a < t ∧ 48 ≤ f a ∧ f a ≤ 57 then dgC f t p (a + 1) + 1 else 0
theorem dgC_c {f : Int → Int} {t : Int} : ∀ (p : Nat) (a : Int), dgC f t p a ≤ p ∧ (∀ i : Int, 0 ≤ i → i < dgC f t p a → a + i < t ∧ vW (f (a + i))) ∧ (dgC f t p a = p ∨ t ≤ a + dgC f t p a ∨ ¬ vW (f (a + dgC f t p a))) := by
  intro p
  induction p with
  | zero => intro a; exact ⟨Nat.le_refl _, fun i h q => by have : dgC f t 0 a = 0 := rfl; omega, Or.inl rfl⟩
  | succ p ih =>
    intro a
    by_cases c : a < t ∧ 48 ≤ f a ∧ f a ≤ 57
    · have e : dgC f t (p + 1) a = dgC f t p (a + 1) + 1 := if_pos c
      obtain ⟨h1, h2, h3⟩ := ih (a + 1)
      rw [e]
      refine ⟨by omega, fun i h q => ?_, ?_⟩
      · by_cases ci : i = 0
        · rw [ci, Int.add_zero]
          exact ⟨c.1, c.2⟩
        · have := h2 (i - 1) (by omega) (by omega)
          rw [show a + 1 + (i - 1) = a + i from by omega] at this
          exact this
      · rw [show a + ((dgC f t p (a + 1) + 1 : Nat) : Int) = a + 1 + dgC f t p (a + 1) from by omega]
        rcases h3 with q | q | q
        · exact Or.inl (by omega)
        · exact Or.inr (Or.inl q)
        · exact Or.inr (Or.inr q)
    · have e : dgC f t (p + 1) a = 0 := if_neg c
      rw [e]
      refine ⟨by omega, fun i h q => by omega, Or.inr ?_⟩
      rw [show a + ((0 : Nat) : Int) = a from by omega]
      by_cases c2 : t ≤ a
      · exact Or.inl c2
      · exact Or.inr (fun w => c ⟨by omega, w.1, w.2⟩)
def nuZ (f : Int → Int) (t : Int) (p : Nat) (a : Int) : Int := if dgC f t p a = 0 then -1 else nmV f a (dgC f t p a)
theorem NUM.ex {f : Int → Int} {t : Int} {p : Nat} {a : Int} (hp : 1 ≤ p) : NUM f a t p (nuZ f t p a) (a + dgC f t p a) := by
  obtain ⟨h1, h2, h3⟩ := dgC_c (f := f) (t := t) p a
  unfold nuZ
  by_cases c : dgC f t p a = 0
  · rw [if_pos c]
    refine Or.inl ⟨rfl, by omega, fun w => ?_⟩
    rw [c, show a + ((0 : Nat) : Int) = a from by omega] at h3
    rcases h3 with q | q | q
    · omega
    · omega
    · exact q w.2
  · rw [if_neg c]
    refine Or.inr ⟨(dgC f t p a : Nat), by omega, rfl, ?_, fun i h q => (h2 i h q).2, ?_, by rw [show (((dgC f t p a : Nat) : Int)).toNat = dgC f t p a from by omega]⟩
    · have := (h2 ((dgC f t p a : Nat) - 1 : Int) (by omega) (by omega)).1
      omega
    · rcases h3 with q | q | q
      · exact Or.inl (by omega)
      · exact Or.inr (Or.inl q)
      · exact Or.inr (Or.inr q)
theorem NUM.fn {f : Int → Int} {a t z a' : Int} {p : Nat} (hp : 1 ≤ p) (h : NUM f a t p z a') : z = nuZ f t p a ∧ a' = a + dgC f t p a := h.uq (NUM.ex hp) (fun _ _ _ => rfl)
theorem nuZ_b {f : Int → Int} {t : Int} {a : Int} : (-1 ≤ nuZ f t 2 a ∧ nuZ f t 2 a ≤ 99) ∧ (0 ≤ nuZ f t 2 a → a + 1 ≤ a + dgC f t 2 a) ∧ (a ≤ t → a + dgC f t 2 a ≤ t) ∧ (nuZ f t 2 a < 0 → dgC f t 2 a = 0) := by
  have h := NUM.ex (f := f) (t := t) (p := 2) (a := a) (by omega)
  have b := h.b (by omega)
  exact ⟨⟨b.1, b.2.2.2.1 rfl⟩, fun q => by have := b.2.2.2.2.2.2.1 q; omega, fun q => b.2.2.2.2.2.1 q, fun q => by have := b.2.2.2.2.2.2.2 q; omega⟩
/-- a line of hearses: the cell (-1: it can't stand), where reading is then -/
def rd1 (f : Int → Int) (t g H : Int) (r : Int → Int) (a : Int) : Int × Int := if 6 ≤ H then (-1, a) else if nuZ f t 2 a < 0 then (-1, a) else if g ≤ nuZ f t 2 a ∨ 0 ≤ onF r H.toNat (nuZ f t 2 a) then (-1, a + dgC f t 2 a - 1) else (nuZ f t 2 a, a + dgC f t 2 a)
def adH (r : Int → Int) (H v : Int) : Int → Int := up (up r H v) (6 + H) 0
def rdH (f : Int → Int) (t g : Int) : Nat → Int → (Int → Int) → Int → Int × Int × Int × (Int → Int)
  | 0, H, r, a => (0, a, H, r)
  | n + 1, H, r, a => if (rd1 f t g H r a).1 < 0 then (0, (rd1 f t g H r a).2, H, r) else if (rd1 f t g H r a).2 < t ∧ f (rd1 f t g H r a).2 = 59 then rdH f t g n (H + 1) (adH r H (rd1 f t g H r a).1) ((rd1 f t g H r a).2 + 1) else (1, (rd1 f t g H r a).2, H + 1, adH r H (rd1 f t g H r a).1)
theorem rd1_b {f : Int → Int} {t g H : Int} {r : Int → Int} {a : Int} (ha : 0 ≤ a ∧ a ≤ t) : (0 ≤ (rd1 f t g H r a).2 ∧ (rd1 f t g H r a).2 ≤ t) ∧ -1 ≤ (rd1 f t g H r a).1 ∧ (0 ≤ (rd1 f t g H r a).1 → H < 6 ∧ (rd1 f t g H r a).1 < g ∧ onF r H.toNat (rd1 f t g H r a).1 < 0) := by
  have b := nuZ_b (f := f) (t := t) (a := a)
  unfold rd1
  split
  · exact ⟨ha, by show (-1 : Int) ≤ -1; decide, fun h => absurd h (by show ¬ (0 : Int) ≤ -1; decide)⟩
  · split
    · exact ⟨ha, by show (-1 : Int) ≤ -1; decide, fun h => absurd h (by show ¬ (0 : Int) ≤ -1; decide)⟩
    · split
      · refine ⟨⟨?_, ?_⟩, by show (-1 : Int) ≤ -1; decide, fun h => absurd h (by show ¬ (0 : Int) ≤ -1; decide)⟩
        · show 0 ≤ a + dgC f t 2 a - 1
          have := b.2.1 (by omega)
          omega
        · show a + dgC f t 2 a - 1 ≤ t
          have := b.2.2.1 ha.2
          omega
      · refine ⟨⟨?_, ?_⟩, ?_, fun _ => ?_⟩
        · show 0 ≤ a + dgC f t 2 a
          omega
        · exact b.2.2.1 ha.2
        · exact b.1.1
        · show H < 6 ∧ nuZ f t 2 a < g ∧ onF r H.toNat (nuZ f t 2 a) < 0
          omega
-- the class
theorem eE4 (E : Mem) (H : Int) : up2 E 1 4 H 1 4 = H := up2_s E 1 4 H
theorem SC.addH {E M : Mem} {k : Nat} {r : Int → Int} {H v : Int} (hC : SC (up2 E 1 4 H) M k r) (hH : 0 ≤ H ∧ H < 6) (hb : eO E ≤ 8) : SC (up2 E 1 4 (H + 1)) (up2 (up2 (up2 M (k + 1) H v) (k + 2) H 0) k 6 (H + 1)) k (adH r H v) := by
  obtain ⟨a1, a2, a3, a4, a5, a6, a7, a8, a9, a10, a11⟩ := hC
  have hi : ∀ j, 12 ≤ j → adH r H v j = r j := fun j q => by unfold adH; rw [up_j (by omega), up_j (by omega)]
  refine ⟨by rw [up2_s, up2_s], by rw [up2_j (by decide), up2_n (by omega), up2_n (by omega)]; exact a2, fun j a q => ?_, fun j a q => ?_, ?_, fun m a q => ?_, fun m a q => ?_, fun m a q => ?_, fun m a q => ?_, ?_, ?_⟩
  · rw [up2_n (by omega), up2_n (by omega)]
    unfold adH
    rw [up_j (by omega)]
    by_cases cj : j = H
    · rw [cj, up2_s, upS]
    · rw [up2_j cj, up_j cj]; exact a3 j a q
  · rw [up2_n (by omega)]
    unfold adH
    by_cases cj : j = H
    · rw [cj, up2_s, upS]
    · rw [up2_j cj, up2_n (by omega), up_j (by omega), up_j (by omega)]; exact a4 j a q
  · rw [up2_j (by decide), up2_n (by omega), up2_n (by omega), hi 12 (by decide)]; exact a5
  · rw [up2_n (by omega), up2_n (by omega), up2_n (by omega), hi _ (by omega)]; exact a6 m a q
  · rw [up2_n (by omega), up2_n (by omega), up2_n (by omega), up2_n (by decide)]
    have := a7 m a q
    rw [up2_n (by decide)] at this
    exact this
  · rw [up2_n (by omega), up2_n (by omega), up2_n (by omega), hi _ (by omega)]; exact a8 m a q
  · rw [up2_n (by omega), up2_n (by omega), up2_n (by omega), hi _ (by omega)]; exact a9 m a q
  · rw [up2_j (by decide), up2_n (by omega), up2_n (by omega), hi 37 (by decide)]; exact a10
  · rw [up2_j (by decide), up2_n (by omega), up2_n (by omega), a11]
    have e1 : eO (up2 E 1 4 (H + 1)) = eO E := by show (up2 E 1 4 (H + 1) 1 5).toNat = (E 1 5).toNat; rw [up2_j (by decide)]
    have e2 : eO (up2 E 1 4 H) = eO E := by show (up2 E 1 4 H 1 5).toNat = (E 1 5).toNat; rw [up2_j (by decide)]
    rw [e1, e2]
    exact egF_cg (fun i a q => by rw [hi _ (by omega)])
theorem gX6_hearseOn_L2 {k0 : Nat} {p1 : Int} {Q : Int → Mem → Prop} {M E : Mem} {r : Int → Int} (hC : SC E M k0 r) (h4 : 0 ≤ E 1 4 ∧ E 1 4 ≤ 6) (hQ : ∀ z : Int, (z = -1 ∧ onF r (E 1 4).toNat p1 < 0 ∨ (0 ≤ z ∧ z < E 1 4) ∧ r z = p1 ∧ 0 ≤ onF r (E 1 4).toNat p1) → Q z M) : ∀ (n : Nat) (v2 : Int), (∀ i, 0 ≤ i → i < v2 → r i ≠ p1) → (0 ≤ v2 ∧ v2 ≤ E 1 4) → E 1 4 - v2 < (n : Int) → qX6_hearseOn_L2 k0 p1 Q n v2 M := by
  intro n
  induction n with
  | zero => intro v2 ha hv hm; exact absurd hm (by omega)
  | succ n ih =>
    intro v2 ha hv hm
    rw [qX6_hearseOn_L2]
    intro x1 e1 _
    have f1 : x1 = E 1 4 := by rw [e1]; exact hC.1
    refine ⟨⟨by omega, by omega⟩, ⟨fun c => hQ _ (Or.inl ⟨rfl, ?_⟩), fun c => ⟨by omega, by omega, ?_⟩⟩⟩
    · rw [onF_z (fun i a q => ha i a (by omega))]
      decide
    · intro x6 e6 _
      have f6 : x6 = r v2 := by rw [e6]; exact hC.2.2.1 v2 (by omega) (by omega)
      refine ⟨fun c2 => ih _ (fun i a q => ?_) (by omega) (by omega), fun c2 => hQ _ (Or.inr ⟨by omega, by omega, ?_⟩)⟩
      · by_cases ci : i = v2
        · rw [ci, ← f6]; exact c2
        · exact ha i a (by omega)
      · by_cases cn : 0 ≤ onF r (E 1 4).toNat p1
        · exact cn
        · exact absurd (show r v2 = p1 by rw [← f6]; exact c2) (onF_n (c := r) (n := (E 1 4).toNat) (v := p1) (by omega) v2 hv.1 (by omega))
theorem gX6_hearseOn {k0 : Nat} {p1 : Int} {Q : Int → Mem → Prop} {M E : Mem} {r : Int → Int} (hC : SC E M k0 r) (h4 : 0 ≤ E 1 4 ∧ E 1 4 ≤ 6) (hQ : ∀ z : Int, (z = -1 ∧ onF r (E 1 4).toNat p1 < 0 ∨ (0 ≤ z ∧ z < E 1 4) ∧ r z = p1 ∧ 0 ≤ onF r (E 1 4).toNat p1) → Q z M) : qX6_hearseOn k0 p1 M Q := by
  unfold qX6_hearseOn
  exact ⟨7, gX6_hearseOn_L2 hC h4 hQ _ _ (fun i a q => by omega) (by omega) (by omega)⟩
theorem gX11_readHearse {M E : Mem} {H : Int} {r : Int → Int} {Q : Int → Mem → Prop} (hI : IX M) (hC : SC (up2 E 1 4 H) M 8 r) (hH : 0 ≤ H ∧ H ≤ 6) (hO : eO E ≤ 8) (hg : M 158 1 - 1 = eG E) (ha : 0 ≤ M 156 2 ∧ M 156 2 ≤ M 156 3) (hQ : ∀ (z : Int) (M' : Mem), IX M' → Ks (fun k j => (k = 156 ∧ j = 2) ∨ (8 ≤ k ∧ k ≤ 14)) M M' → M' 156 2 = (rd1 (M 157) (M 156 3) (eG E) H r (M 156 2)).2 → ((rd1 (M 157) (M 156 3) (eG E) H r (M 156 2)).1 < 0 ∧ z = 0 ∨ 0 ≤ (rd1 (M 157) (M 156 3) (eG E) H r (M 156 2)).1 ∧ z = 1 ∧ SC (up2 E 1 4 (H + 1)) M' 8 (adH r H (rd1 (M 157) (M 156 3) (eG E) H r (M 156 2)).1)) → Q z M') : qX11_readHearse M Q := by
  unfold rd1 at hQ
  have h6 : M 8 6 = H := by rw [hC.1]; exact eE4 E H
  have b158 := bx_c158_1.mp (hI.bx 158 1)
  have bn := nuZ_b (f := M 157) (t := M 156 3) (a := M 156 2)
  unfold qX11_readHearse
  intro x1 e1 _
  refine ⟨fun c => ?_, fun c => ?_⟩
  · have c6 : ¬ 6 ≤ H := by omega
    rw [if_neg c6] at hQ
    unfold qX11_readCell
    refine gX9_number (p1 := 2) hI (by decide) ?_
    intro z1 M1 i1 k1 n1 _
    obtain ⟨f1, g1⟩ := NUM.fn (p := 2) (by omega) n1
    have C1 : SC (up2 E 1 4 H) M1 8 r := hC.fr (fun i j hi => k1 _ j (by omega))
    refine sX8_gate i1 ?_
    intro z2 hz2 _
    have eg : z2 = eG E := by
      have : M1 158 1 = M 158 1 := k1 158 1 (by omega)
      omega
    have K1 : Ks (fun k j => (k = 156 ∧ j = 2) ∨ (8 ≤ k ∧ k ≤ 14)) M M1 := k1.mono (fun k j h => Or.inl h)
    refine ⟨fun d => ?_, fun d => ?_⟩
    · intro _
      refine ⟨fun d2 => ?_, fun d2 => ?_⟩
      · have cn : ¬ nuZ (M 157) (M 156 3) 2 (M 156 2) < 0 := by omega
        rw [if_neg cn] at hQ
        refine gX6_hearseOn (p1 := z1) C1 (by rw [eE4]; exact hH) ?_
        intro z3 c3 _
        rw [eE4] at c3
        refine ⟨fun d3 => ?_, fun d3 => ?_⟩
        · have on : onF r H.toNat z1 < 0 := by rcases c3 with q | q <;> omega
          rw [f1] at on
          rw [if_neg (by omega)] at hQ
          unfold qX6_addHearse
          intro y1 w1 _
          have v1 : y1 = H := by rw [w1, C1.1]; exact eE4 E H
          refine ⟨by omega, by omega, ?_⟩
          intro M4 h4 y5 w5 _
          have v5 : y5 = H := by rw [w5, h4, up2_n (by decide), C1.1]; exact eE4 E H
          refine ⟨by omega, by omega, ?_⟩
          intro M8 h8 y9 w9 _
          have v9 : y9 = H := by rw [w9, h8, up2_n (by decide), h4, up2_n (by decide), C1.1]; exact eE4 E H
          refine ⟨⟨by omega, by omega⟩, ?_⟩
          intro M11 h11
          have is8 : isS 8 := by decide
          have i4 : IX M4 := by rw [h4]; exact i1.up (is8.nsp 1 (by decide)) ((bx_s1 is8).mpr ⟨by omega, by omega⟩)
          have i8 : IX M8 := by rw [h8]; exact i4.up (is8.nsp 2 (by decide)) (bx_sf2 is8)
          have i11 : IX M11 := by rw [h11]; exact i8.up (is8.nsp 0 (by decide)) ((bx_s0_6 is8).mpr ⟨by omega, by omega⟩)
          refine hQ 1 M11 i11 ?_ ?_ (Or.inr ⟨by show 0 ≤ nuZ _ _ _ _; omega, rfl, ?_⟩)
          · rw [h11, h8, h4]
            exact ((K1.wr (by omega)).wr (by omega)).wr (by omega)
          · rw [h11, up2_n (by decide), h8, up2_n (by decide), h4, up2_n (by decide)]
            exact g1
          · rw [h11, h8, h4, v9, v5, v1, f1]
            exact C1.addH (by omega) hO
        · have on : 0 ≤ onF r H.toNat z1 := by rcases c3 with q | q <;> omega
          rw [f1] at on
          rw [if_pos (Or.inr on)] at hQ
          refine gX9_back i1 ?_
          intro M8 i8 k8 p8
          refine hQ 0 M8 i8 (K1.tr (k8.mono (fun k j h => Or.inl h))) ?_ (Or.inl ⟨by show (-1 : Int) < 0; decide, rfl⟩)
          have := p8 (by omega)
          show M8 156 2 = M 156 2 + dgC (M 157) (M 156 3) 2 (M 156 2) - 1
          omega
      · rw [if_pos (by omega)] at hQ
        have := bn.2.2.2 (by omega)
        refine hQ 0 M1 i1 K1 ?_ (Or.inl ⟨by show (-1 : Int) < 0; decide, rfl⟩)
        show M1 156 2 = M 156 2
        omega
    · have cn : ¬ nuZ (M 157) (M 156 3) 2 (M 156 2) < 0 := by omega
      rw [if_neg cn, if_pos (Or.inl (by omega))] at hQ
      refine gX9_back i1 ?_
      intro M4 i4 k4 p4 _
      refine ⟨fun d2 => absurd rfl d2, fun _ => ?_⟩
      refine hQ 0 M4 i4 (K1.tr (k4.mono (fun k j h => Or.inl h))) ?_ (Or.inl ⟨by show (-1 : Int) < 0; decide, rfl⟩)
      have := p4 (by omega)
      show M4 156 2 = M 156 2 + dgC (M 157) (M 156 3) 2 (M 156 2) - 1
      omega
  · rw [if_pos (by omega)] at hQ
    exact hQ 0 M hI Ks.rf rfl (Or.inl ⟨by show (-1 : Int) < 0; decide, rfl⟩)
theorem gX9_skip {p1 : Int} {M : Mem} {Q : Int → Mem → Prop} (hI : IX M) (hp : 0 ≤ p1) (hQ : ∀ (z : Int) (M' : Mem), IX M' → Ks kA M M' → ((M 156 2 < M 156 3 ∧ M 157 (M 156 2) = p1) ∧ z = 1 ∧ M' 156 2 = M 156 2 + 1 ∨ ¬ (M 156 2 < M 156 3 ∧ M 157 (M 156 2) = p1) ∧ z = 0 ∧ M' 156 2 = M 156 2) → Q z M') : qX9_skip p1 M Q := by
  unfold qX9_skip
  refine gX9_look hI ?_
  intro x1 p _
  refine ⟨fun c => ?_, fun c => hQ _ _ hI Ks.rf (Or.inr ⟨by omega, rfl, rfl⟩)⟩
  refine gX9_pass hI ?_
  intro M3 i3 k3 p3
  exact hQ _ _ i3 k3 (Or.inl ⟨by omega, rfl, by omega⟩)
abbrev kRd (k : Nat) (j : Int) : Prop := (k = 156 ∧ j = 2) ∨ (8 ≤ k ∧ k ≤ 14)
theorem gX11_readLines_L33H {X90 Q : Int → Mem → Prop} {M0 E : Mem} {H0 : Int} {T : Int × Int × Int × (Int → Int)} (hO : eO E ≤ 8) (h0 : 0 ≤ H0) (hg : M0 158 1 - 1 = eG E) (ht : M0 156 3 ≤ 80) (hQ : T.1 = 0 → ∀ M' : Mem, IX M' → Ks kRd M0 M' → M' 156 2 = T.2.1 → Q (-1 - T.2.1) M') (hX : T.1 = 1 → ∀ M' : Mem, IX M' → Ks kRd M0 M' → M' 156 2 = T.2.1 → SC (up2 E 1 4 T.2.2.1) M' 8 T.2.2.2 → X90 (T.2.2.1 - H0) M') : ∀ (n : Nat) (v2 : Int) (M : Mem) (H : Int) (r : Int → Int), IX M → Ks kRd M0 M → SC (up2 E 1 4 H) M 8 r → rdH (M0 157) (M0 156 3) (eG E) n H r (M 156 2) = T → (0 ≤ M 156 2 ∧ M 156 2 ≤ M0 156 3) → (0 ≤ H ∧ H ≤ 6) → (v2 = H - H0 ∧ 0 ≤ v2) → 7 ≤ H + n → qX11_readLines_L33 1 X90 Q (n + 1) v2 1 M := by
  intro n
  induction n with
  | zero => intro v2 M H r hI hK hC hT ha hH hv hn; omega
  | succ n ih =>
    intro v2 M H r hI hK hC hT ha hH hv hn
    have e157 : M 157 = M0 157 := funext fun j => hK 157 j (by omega)
    have e3 : M 156 3 = M0 156 3 := hK 156 3 (by omega)
    have e158 : M 158 1 = M0 158 1 := hK 158 1 (by omega)
    rw [qX11_readLines_L33]
    refine ⟨⟨by decide, by decide⟩, ⟨fun c => absurd c (by decide), fun _ => ⟨⟨by omega, by omega⟩, ⟨fun c => by omega, fun _ => ⟨fun c => absurd c (by decide), fun _ => ?_⟩⟩⟩⟩⟩
    refine gX11_readHearse hI hC hH hO (by rw [e158]; exact hg) (by rw [e3]; exact ha) ?_
    intro z M' i' k' a' p' _ _
    rw [e157, e3] at a' p'
    have b1 := rd1_b (f := M0 157) (g := eG E) (H := H) (r := r) ha
    unfold rdH at hT
    have K' : Ks kRd M0 M' := hK.tr k'
    refine ⟨fun c => ?_, fun c => ?_⟩
    · intro x17 e17 _
      have c1 : (rd1 (M0 157) (M0 156 3) (eG E) H r (M 156 2)).1 < 0 := by
        rcases p' with q | q
        · exact q.1
        · omega
      rw [if_pos c1] at hT
      subst hT
      refine ⟨⟨by omega, by omega⟩, ?_⟩
      rw [e17, a']
      exact hQ rfl M' i' K' a'
    · have c0 : 0 ≤ (rd1 (M0 157) (M0 156 3) (eG E) H r (M 156 2)).1 := by
        rcases p' with q | q
        · omega
        · exact q.1
      have C' : SC (up2 E 1 4 (H + 1)) M' 8 (adH r H (rd1 (M0 157) (M0 156 3) (eG E) H r (M 156 2)).1) := by
        rcases p' with q | q
        · omega
        · exact q.2.2
      rw [if_neg (by omega)] at hT
      unfold qX11_readLines_J74
      refine gX9_skip i' (by decide) ?_
      intro z12 M12 i12 k12 p12 _ _
      have f157 : M' 157 = M0 157 := funext fun j => K' 157 j (by omega)
      have f3 : M' 156 3 = M0 156 3 := K' 156 3 (by omega)
      rw [f157, f3, a'] at p12
      have K12 : Ks kRd M0 M12 := K'.tr (k12.mono (fun k j h => Or.inl h))
      have C12 : SC (up2 E 1 4 (H + 1)) M12 8 (adH r H (rd1 (M0 157) (M0 156 3) (eG E) H r (M 156 2)).1) := C'.fr (fun i j hi => k12 _ j (by omega))
      have h6 := b1.2.2 c0
      rcases p12 with ⟨q1, qz, qa⟩ | ⟨q1, qz, qa⟩
      · rw [if_pos q1] at hT
        rw [qz]
        exact ih _ M12 (H + 1) _ i12 K12 C12 (by rw [qa]; exact hT) (by omega) (by omega) (by omega) (by omega)
      · rw [if_neg q1] at hT
        rw [qz, qX11_readLines_L33]
        refine ⟨⟨by decide, by decide⟩, ⟨fun _ => ?_, fun c => absurd rfl c⟩⟩
        subst hT
        rw [show v2 + 1 = H + 1 - H0 from by omega]
        exact hX rfl M12 i12 K12 qa C12
theorem gX9_open {p1 : Int} {M : Mem} {Q : Mem → Prop} (hI : IX M) (hp : 0 ≤ p1 ∧ p1 ≤ 80) (hQ : ∀ M' : Mem, IX M' → Ks (fun k j => k = 156 ∧ (j = 2 ∨ j = 3)) M M' → M' 156 2 = 0 → M' 156 3 = min (M 156 1) p1 → Q M') : qX9_open p1 M Q := by
  have b1 := bx_c156_1.mp (hI.bx 156 1)
  unfold qX9_open
  intro M1 h1 x2 e2 _ x3 e3 _ M4 h4
  have i1 : IX M1 := by rw [h1]; exact hI.up (by decide) (bx_c156_2.mpr (by decide))
  have f2 : x2 = M 156 1 := by rw [e2, h1, up2_j (by decide)]
  refine hQ M4 (by rw [h4]; exact i1.up (by decide) (bx_c156_3.mpr ⟨by omega, by omega⟩)) (by rw [h4, h1]; exact (Ks.rf.wr (by omega)).wr (by omega)) (by rw [h4, up2_j (by decide), h1, up2_s]) (by rw [h4, up2_s, e3, f2])
/-- hearses told: the answer; whether they come -/
def hsT (f : Int → Int) (len g H : Int) (r : Int → Int) : Int × Int × Int × (Int → Int) := rdH f (min len 17) g 7 H r 0
abbrev hsOK (f : Int → Int) (len g H : Int) (r : Int → Int) : Prop := (hsT f len g H r).1 = 1 ∧ len ≤ (hsT f len g H r).2.1
def hsA (f : Int → Int) (len g H : Int) (r : Int → Int) : Int := if len = 0 then 0 else if hsOK f len g H r then (hsT f len g H r).2.2.1 - H else -1 - (hsT f len g H r).2.1
theorem rdH_b {f : Int → Int} {t g : Int} : ∀ (n : Nat) (H : Int) (r : Int → Int) (a : Int), (0 ≤ a ∧ a ≤ t) → (0 ≤ H ∧ H ≤ 6) → 7 ≤ H + n → (0 ≤ (rdH f t g n H r a).2.1 ∧ (rdH f t g n H r a).2.1 ≤ t) ∧ ((rdH f t g n H r a).1 = 0 ∨ (rdH f t g n H r a).1 = 1 ∧ H < (rdH f t g n H r a).2.2.1 ∧ (rdH f t g n H r a).2.2.1 ≤ 6) := by
  intro n
  induction n with
  | zero => intro H r a ha hH hn; omega
  | succ n ih =>
    intro H r a ha hH hn
    have b1 := rd1_b (f := f) (t := t) (g := g) (H := H) (r := r) ha
    unfold rdH
    split
    · exact ⟨b1.1, Or.inl rfl⟩
    · rename_i c
      have h6 := b1.2.2 (by omega)
      split
      · rename_i c2
        have i := ih (H + 1) (adH r H (rd1 f t g H r a).1) ((rd1 f t g H r a).2 + 1) (by omega) (by omega) (by omega)
        refine ⟨i.1, ?_⟩
        rcases i.2 with q | q
        · exact Or.inl q
        · exact Or.inr ⟨q.1, by omega, q.2.2⟩
      · refine ⟨b1.1, Or.inr ⟨rfl, ?_, ?_⟩⟩
        · show H < H + 1
          omega
        · show H + 1 ≤ 6
          omega
theorem gX11_hearses {M E : Mem} {r : Int → Int} {Q : Int → Mem → Prop} (hI : IX M) (hS : STR E M) (hC : SC E M 1 r) (hQ : ∀ M' : Mem, IX M' → M' 156 1 = 0 → (hsOK (M 157) (M 156 1) (eG E) (E 1 4) r ∧ M 156 1 ≠ 0 → Ks (fun k j => (1 ≤ k ∧ k ≤ 14) ∨ k = 156 ∨ (k = 163 ∧ j = 2)) M M' ∧ M' 163 2 = 0 ∧ SC (up2 E 1 4 (hsT (M 157) (M 156 1) (eG E) (E 1 4) r).2.2.1) M' 1 (hsT (M 157) (M 156 1) (eG E) (E 1 4) r).2.2.2) → (¬ (hsOK (M 157) (M 156 1) (eG E) (E 1 4) r ∧ M 156 1 ≠ 0) → Ks (fun k j => (8 ≤ k ∧ k ≤ 14) ∨ k = 156) M M') → Q (hsA (M 157) (M 156 1) (eG E) (E 1 4) r) M') : qX11_hearses M Q := by
  have bL := bx_c156_1.mp (hI.bx 156 1)
  have b4 := hS.2.2.2.2.2.2.1
  have b5 := hS.2.2.2.2.2.2.2.1
  have ef := hS.eb.f
  unfold hsA at hQ
  have CL : ∀ (z : Int) (M1 : Mem), IX M1 → iR z → (∀ M' : Mem, IX M' → M' 156 1 = 0 → Ks (fun k j => k = 156 ∧ j = 1) M1 M' → Q z M') → qX11_hearses_J19 Q z M1 := by
    intro z M1 i1 rz h
    unfold qX11_hearses_J19 qX9_clear
    intro M4 h4
    exact ⟨rz, h M4 (by rw [h4]; exact i1.up (by decide) (bx_c156_1.mpr (by decide))) (by rw [h4, up2_s]) (by rw [h4]; exact Ks.rf.wr ⟨rfl, rfl⟩)⟩
  unfold qX11_hearses qX9_isEmpty
  intro x1 e1 _
  refine ⟨fun c => ?_, fun c => ?_⟩
  · intro _ _
    refine ⟨fun _ => ?_, fun q => absurd rfl q⟩
    unfold qX11_readLines
    refine gX6_copyFrom hI (show isS 8 by decide) (show isS 1 by decide) (by decide) ?_
    intro M1 i1 k1 s1 _
    have C1 : SC E M1 8 r := s1 E r hC
    refine ⟨fun q => absurd q (by decide), fun _ => ?_⟩
    unfold qX11_readLines_J26
    refine ⟨⟨by decide, by decide⟩, ?_⟩
    refine gX9_open i1 (by decide) ?_
    intro M4 i4 k4 a4 t4
    have C4 : SC (up2 E 1 4 (E 1 4)) M4 8 r := by
      have : up2 E 1 4 (E 1 4) = E := by
        funext k j
        rw [up2_a]
        by_cases ck : k = 1
        · by_cases cj : j = 4
          · rw [if_pos ck, if_pos cj, ck, cj]
          · rw [if_pos ck, if_neg cj]
        · rw [if_neg ck]
      rw [this]
      exact C1.fr (fun i j hi => k4 _ j (by omega))
    have g157 : M4 157 = M 157 := funext fun j => by rw [k4 157 j (by omega), k1 157 j (by omega)]
    have g1 : M1 156 1 = M 156 1 := k1 156 1 (by omega)
    have g158 : M4 158 1 = M 158 1 := by rw [k4 158 1 (by omega), k1 158 1 (by omega)]
    rw [g1] at t4
    have hb := rdH_b (f := M 157) (t := min (M 156 1) 17) (g := eG E) 7 (E 1 4) r 0 (by omega) b4 (by omega)
    have hTT : rdH (M 157) (min (M 156 1) 17) (eG E) 7 (E 1 4) r 0 = hsT (M 157) (M 156 1) (eG E) (E 1 4) r := rfl
    rw [hTT] at hb
    have KK : ∀ M' : Mem, Ks kRd M4 M' → Ks (fun k j => (8 ≤ k ∧ k ≤ 14) ∨ k = 156) M M' := fun M' h => ((k1.mono (fun k j q => Or.inl q)).tr (k4.mono (fun k j q => Or.inr q.1))).tr (h.mono (by intro k j q; omega))
    refine ⟨8, gX11_readLines_L33H (M0 := M4) (H0 := E 1 4) (T := hsT (M 157) (M 156 1) (eG E) (E 1 4) r) (by omega) b4.1 (by rw [g158]; exact hS.g.1) (by omega) ?_ ?_ 7 0 M4 (E 1 4) r i4 Ks.rf C4 (by rw [g157, t4, a4]; exact hTT) (by omega) b4 (by omega) (by omega)⟩
    · intro T0 M' i' k' a' _
      refine CL _ M' i' ⟨by omega, by omega⟩ ?_
      intro M2 i2 z2 k2
      have H := hQ M2 i2 z2 (fun q => by have := q.1.1; omega) (fun _ => (KK M' k').tr (k2.mono (fun k j q => Or.inr q.1)))
      rw [if_neg (by omega), if_neg (fun q => by have := q.1; omega)] at H
      exact H
    · intro T1 M' i' k' a' c'
      have h1 : M' 156 1 = M 156 1 := by rw [k' 156 1 (by omega), k4 156 1 (by omega), g1]
      unfold qX11_readLines_J90 qX9_isWhole
      intro y1 w1 _ y2 w2 _
      refine ⟨fun d => ?_, fun d => ?_⟩
      · intro _ _
        refine ⟨fun q => absurd rfl q, fun _ => ?_⟩
        intro x25 e25 _
        refine ⟨⟨by omega, by omega⟩, ?_⟩
        intro _
        rw [e25, a']
        refine CL _ M' i' ⟨by omega, by omega⟩ ?_
        intro M2 i2 z2 k2
        have H := hQ M2 i2 z2 (fun q => by have := q.1.2; omega) (fun _ => (KK M' k').tr (k2.mono (fun k j q => Or.inr q.1)))
        rw [if_neg (by omega), if_neg (fun q => by have := q.2; omega)] at H
        exact H
      · intro _ _
        refine ⟨fun _ => ?_, fun q => absurd q (by decide)⟩
        refine gX6_copyFrom i' (show isS 1 by decide) (show isS 8 by decide) (by decide) ?_
        intro M22 i22 k22 s22 _
        unfold qX1_clear
        intro M23 h23
        have i23 : IX M23 := by rw [h23]; exact i22.up (by decide) (bx_c163_2.mpr (by decide))
        refine ⟨⟨by omega, by omega⟩, ?_⟩
        intro _
        refine CL _ M23 i23 ⟨by omega, by omega⟩ ?_
        intro M2 i2 z2 k2
        have ok : hsOK (M 157) (M 156 1) (eG E) (E 1 4) r := ⟨T1, by omega⟩
        have H := hQ M2 i2 z2 (fun _ => ⟨?_, ?_, ?_⟩) (fun q => absurd ⟨ok, by omega⟩ q)
        · rw [if_neg (by omega), if_pos ok] at H
          exact H
        · have a : Ks (fun k j => (1 ≤ k ∧ k ≤ 14) ∨ k = 156 ∨ (k = 163 ∧ j = 2)) M M' := (KK M' k').mono (by intro k j q; omega)
          have b : Ks (fun k j => (1 ≤ k ∧ k ≤ 14) ∨ k = 156 ∨ (k = 163 ∧ j = 2)) M' M23 := by
            rw [h23]
            exact (k22.mono (by intro k j q; omega)).wr (by omega)
          exact (a.tr b).tr (k2.mono (by intro k j q; omega))
        · rw [k2 163 2 (by omega), h23, up2_s]
        · refine SC.fr (M := M23) ?_ (fun i j hi => k2 _ j (by omega))
          rw [h23]
          exact (s22 _ _ c').fr (fun i j hi => by rw [up2_n (by omega)])
  · intro _ _
    refine ⟨fun q => absurd q (by decide), fun _ => ?_⟩
    refine CL 0 M hI ⟨by decide, by decide⟩ ?_
    intro M' i' z' k'
    have H := hQ M' i' z' (fun q => absurd (by omega) q.2) (fun _ => k'.mono (fun k j q => Or.inr q.1))
    rw [if_pos (by omega)] at H
    exact H
end
