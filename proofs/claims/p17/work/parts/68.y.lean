/-! CALLS that change the state, by acts -/
def CACT (E M M' : Mem) (r r' : Int → Int) : Prop := (∀ (k : Nat) (j : Int), stX k j → ¬ (1 ≤ k ∧ k ≤ 7) → ¬ kHi k j → M' k j = M k j) ∧ SC E M' 1 r' ∧ ∃ Mb : Mem, (∀ (k : Nat) (j : Int), kHi k j → Mb k j = M k j) ∧ SC E Mb 22 r ∧ CADD Mb M' 22
def CNOP (E M M' : Mem) (r : Int → Int) : Prop := (∀ (k : Nat) (j : Int), stX k j → ¬ (1 ≤ k ∧ k ≤ 7) → M' k j = M k j) ∧ SC E M' 1 r
def RACT (M M' : Mem) (r' : Int → Int) : Prop := (∀ (k : Nat) (j : Int), stM k j → k ≠ 5 → ¬ kHm k j → M' k j = M k j) ∧ M' 5 = r' ∧ RADD M M'
def RNOP (M M' : Mem) : Prop := (∀ (k : Nat) (j : Int), stM k j → k ≠ 5 → k ≠ 15 → M' k j = M k j) ∧ M' 5 = M 5 ∧ ∀ j, 0 ≤ j → j < 38 * M 1 28 → M' 15 j = M 15 j
theorem STA.act {E MX MM MX' MM' : Mem} {r' : Int → Int} (h : STA E MX MM) (hE : EBx E) (hI : IX MX) (hx : CACT E MX MX' (MM 5) r') (hm : RACT MM MM' r') (hW : WR E r') : STA E MX' MM' := by
  obtain ⟨a, b, c, d, e, f⟩ := h
  obtain ⟨x1, x2, Mb, x3, x4, x5⟩ := hx
  obtain ⟨m1, m2, m3⟩ := hm
  have bb := bx_c163_1.mp (hI.bx 163 1)
  refine ⟨a.fr (x1 _ _ (by omega) (by omega) (by omega)) (x1 _ _ (by omega) (by omega) (by omega)) (x1 _ _ (by omega) (by omega) (by omega)) (fun j => x1 159 j (by omega) (by omega) (by omega)), b.kx hI (x1 _ _ (by omega) (by omega) (by omega)) (fun k j q => x1 k j (by omega) (by omega) (by omega)), by rw [m2]; exact x2, by rw [m2]; exact hW, ?_, f.fr (fun k j q => x1 k j (by omega) (by omega) (by omega)) (fun k j q => m1 k j (by omega) (by omega) (by omega))⟩
  have e' : HIS E Mb MM := e.fr hE x3 rfl (fun _ _ _ => rfl) bb
  have b1 : 0 ≤ Mb 163 1 ∧ Mb 163 1 ≤ 14 := by rw [x3 163 1 (by omega)]; exact bb
  exact e'.add hE b1 x5 m3 x4 d
theorem STA.nop {E MX MM MX' MM' : Mem} (h : STA E MX MM) (hE : EBx E) (hI : IX MX) (hx : CNOP E MX MX' (MM 5)) (hm : RNOP MM MM') : STA E MX' MM' := by
  obtain ⟨a, b, c, d, e, f⟩ := h
  obtain ⟨x1, x2⟩ := hx
  obtain ⟨m1, m2, m3⟩ := hm
  refine ⟨a.fr (x1 _ _ (by omega) (by omega)) (x1 _ _ (by omega) (by omega)) (x1 _ _ (by omega) (by omega)) (fun j => x1 159 j (by omega) (by omega)), b.kx hI (x1 _ _ (by omega) (by omega)) (fun k j q => x1 k j (by omega) (by omega)), by rw [m2]; exact x2, by rw [m2]; exact d, ?_, f.fr (fun k j q => x1 k j (by omega) (by omega)) (fun k j q => m1 k j (by omega) (by omega) (by omega))⟩
  exact e.fr hE (fun k j q => x1 k j (by omega) (by omega)) (m1 1 28 (by omega) (by decide) (by decide)) m3 (bx_c163_1.mp (hI.bx 163 1))
theorem gX11_undoable {p1 : Int} {M : Mem} {Q : Int → Mem → Prop} (hI : IX M) (hQ1 : isDn p1 → ∀ M' : Mem, IX M' → Ks kHi M M' → CADD M M' 22 → Q p1 M') (hQ2 : ¬ isDn p1 → Q p1 M) : qX11_undoable p1 M Q := by
  unfold qX11_undoable qX11_isDone
  refine ⟨fun c => ?_, fun c => ⟨fun c2 => ?_, fun c2 => ?_⟩⟩
  · intro _ _
    refine ⟨fun q => absurd q (by decide), fun _ => ?_⟩
    exact gX1_add hI (show isS 22 by decide) (by decide) (hQ1 (Or.inl c))
  · intro _ _
    refine ⟨fun _ => hQ2 (fun u => ?_), fun q => absurd rfl q⟩
    rcases u with u | u
    · exact c u
    · exact c2 u
  · intro _ _
    refine ⟨fun q => absurd q (by decide), fun _ => ?_⟩
    exact gX1_add hI (show isS 22 by decide) (by decide) (hQ1 (Or.inr c2))
theorem gX11_act {z : Int} {M M1 M2 E : Mem} {r r' : Int → Int} {Q : Int → Mem → Prop} (i2 : IX M2) (k1 : Ks (fun k _ => 22 ≤ k ∧ k ≤ 28) M M1) (s1 : SC E M1 22 r) (k2 : ∀ (k : Nat) (j : Int), stX k j → ¬ (1 ≤ k ∧ k ≤ 7) → M2 k j = M1 k j) (k22 : ∀ (k : Nat) (j : Int), 22 ≤ k → k ≤ 28 → M2 k j = M1 k j) (c2 : SC E M2 1 r') (nd : ¬ isDn z → r' = r) (hQ : ∀ M' : Mem, IX M' → (isDn z → CACT E M M' r r') → (¬ isDn z → CNOP E M M' r) → Q z M') : qX11_undoable z M2 Q := by
  refine gX11_undoable i2 ?_ ?_
  · intro dn M3 i3 k3 a3
    refine hQ M3 i3 (fun _ => ⟨fun k j h h2 h3 => ?_, ?_, M2, ?_, ?_, a3⟩) (fun n => absurd dn n)
    · rw [k3 k j h3, k2 k j h h2, k1 k j (by omega)]
    · exact c2.fr (fun i j hi => k3 _ j (by omega))
    · intro k j h
      rw [k2 k j (by omega) (by omega), k1 k j (by omega)]
    · exact s1.fr (fun i j hi => k22 _ j (by omega) (by omega))
  · intro n
    refine hQ M2 i2 (fun d => absurd d n) (fun _ => ⟨fun k j h h2 => ?_, ?_⟩)
    · rw [k2 k j h h2, k1 k j (by omega)]
    · rw [← nd n]
      exact c2
theorem gX12_addsR {z b : Int} {M0 M : Mem} {r' : Int → Int} {Q : Int → Mem → Prop} (hI : IM b M) (hk : ∀ (k : Nat) (j : Int), stM k j → k ≠ 5 → k ≠ 15 → M k j = M0 k j) (h15 : ∀ j, 0 ≤ j → j < 38 * M0 1 28 → M 15 j = M0 15 j) (hp : ∀ j, 0 ≤ j → j < 38 → M 15 (38 * M0 1 28 + j) = M0 5 j) (h5 : M 5 = r') (hQ : ∀ M' : Mem, IM b M' → RACT M0 M' r' → Q z M') : qX12_adds z M Q := by
  refine gX12_adds (M0 := M0) hI (hk 1 28 (by omega) (by decide) (by decide)) h15 hp ?_
  intro M' i' f' a'
  refine hQ M' i' ⟨fun k j h n5 n28 => ?_, ?_, a'⟩
  · rw [f' k j n28]
    exact hk k j h n5 (fun e => n28 (Or.inl e))
  · rw [← h5]
    exact funext fun j => f' 5 j (by omega)
theorem gX12_counted {z b : Int} {M0 M : Mem} {r' : Int → Int} {Q : Int → Mem → Prop} (hI : IM b M) (hk : ∀ (k : Nat) (j : Int), stM k j → k ≠ 5 → k ≠ 15 → M k j = M0 k j) (h15 : ∀ j, 0 ≤ j → j < 38 * M0 1 28 → M 15 j = M0 15 j) (hp : ∀ j, 0 ≤ j → j < 38 → M 15 (38 * M0 1 28 + j) = M0 5 j) (h5 : M 5 = r') (nd : ¬ isDn z → r' = M0 5) (hQ : ∀ M' : Mem, IM b M' → (isDn z → RACT M0 M' r') → (¬ isDn z → RNOP M0 M') → Q z M') : qX12_counted z M Q := by
  unfold qX12_counted qX12_counted_J14
  refine ⟨fun c => ?_, fun c => ⟨fun c2 => ?_, fun c2 => ?_⟩⟩
  · exact gX12_addsR hI hk h15 hp h5 (fun M' i' a' _ => hQ M' i' (fun _ => a') (fun n => absurd (Or.inl c) n))
  · exact gX12_addsR hI hk h15 hp h5 (fun M' i' a' _ => hQ M' i' (fun _ => a') (fun n => absurd (Or.inr c2) n))
  · have n : ¬ isDn z := fun u => by
      rcases u with u | u
      · exact c u
      · exact c2 u
    exact hQ M hI (fun d => absurd d n) (fun _ => ⟨hk, h5.trans (nd n), h15⟩)
/-- behind putsBy -/
theorem putsBy_a {b : Int} {M E : Mem} {Q : Mem → Prop} (hI : IM b M) (hE : CE E M) (hQ : ∀ M2 : Mem, IM b M2 → CE E M2 → M2 5 = M 5 → (∀ (k : Nat) (j : Int), stM k j → k ≠ 15 → M2 k j = M k j) → (∀ j, 0 ≤ j → j < 38 * M 1 28 → M2 15 j = M 15 j) → (∀ j, 0 ≤ j → j < 38 → M2 15 (38 * M 1 28 + j) = M 5 j) → Q M2) : qX12_putsBy (up2 M 1 0 0) Q := by
  have i1 : IM b (up2 M 1 0 0) := hI.up (by omega) (by simp [BM])
  have F1 : FrJ (fun k j => k = 1 ∧ j = 0) M (up2 M 1 0 0) := FrJ.rf.up ⟨rfl, rfl⟩
  have g28 : up2 M 1 0 0 1 28 = M 1 28 := F1 1 28 (by omega)
  refine gX12_putsBy i1 ?_
  intro M2 i2 f2 p2
  rw [g28] at f2 p2
  have st : ∀ (k : Nat) (j : Int), stM k j → k ≠ 15 → M2 k j = M k j := by
    intro k j h n
    rw [f2 k j (by omega), F1 k j (by omega)]
  refine hQ M2 i2 (fun k j h => ?_) (funext fun j => st 5 j (by omega) (by decide)) st (fun j p q => ?_) (fun j p q => ?_)
  · rw [st k j (Or.inl h) (by omega)]
    exact hE k j h
  · rw [f2 15 j (by omega), F1 15 j (by omega)]
  · rw [p2 j p q, F1 5 j (by omega)]
theorem gX12_turnsTo {p1 b : Int} {M E : Mem} {Q : Int → Mem → Prop} (hI : IM b M) (hE : CE E M) (hQ : ∀ M' : Mem, IM b M' → (isDn (tnA E (M 5) p1) → RACT M M' (tnR E (M 5) p1)) → (¬ isDn (tnA E (M 5) p1) → RNOP M M') → Q (tnA E (M 5) p1) M') : qX12_turnsTo p1 M Q := by
  unfold qX12_turnsTo
  intro M1 h1
  subst h1
  refine putsBy_a hI hE ?_
  intro M2 i2 E2 k5 st s15 sp
  refine gX12_turnsOne i2 E2 (Or.inl rfl) ?_
  intro M3 i3 f3 k3
  rw [k5] at k3 ⊢
  intro _
  refine gX12_counted (M0 := M) (r' := tnR E (M 5) p1) i3 (fun k j h n5 n15 => ?_) (fun j p q => ?_) (fun j p q => ?_) k3 tn_nd (fun M' i' a n _ => hQ M' i' a n)
  · rw [f3 k j (by omega)]; exact st k j h n15
  · rw [f3 15 j (by omega)]; exact s15 j p q
  · rw [f3 15 _ (by omega)]; exact sp j p q
theorem gX12_pushes {p1 p2 b : Int} {M E : Mem} {Q : Int → Mem → Prop} (hI : IM b M) (hE : CE E M) (hQ : ∀ M' : Mem, IM b M' → (isDn (psA E (M 5) p1 p2) → RACT M M' (psR E (M 5) p1 p2)) → (¬ isDn (psA E (M 5) p1 p2) → RNOP M M') → Q (psA E (M 5) p1 p2) M') : qX12_pushes p1 p2 M Q := by
  unfold qX12_pushes
  intro M1 h1
  subst h1
  refine putsBy_a hI hE ?_
  intro M2 i2 E2 k5 st s15 sp
  refine gX12_pushesOne i2 E2 (Or.inl rfl) ?_
  intro M3 i3 f3 k3
  rw [k5] at k3 ⊢
  intro _
  refine gX12_counted (M0 := M) (r' := psR E (M 5) p1 p2) i3 (fun k j h n5 n15 => ?_) (fun j p q => ?_) (fun j p q => ?_) k3 ps_nd (fun M' i' a n _ => hQ M' i' a n)
  · rw [f3 k j (by omega)]; exact st k j h n15
  · rw [f3 15 j (by omega)]; exact s15 j p q
  · rw [f3 15 _ (by omega)]; exact sp j p q
theorem gX12_swaps {p1 p2 b : Int} {M E : Mem} {Q : Int → Mem → Prop} (hI : IM b M) (hE : CE E M) (hQ : ∀ M' : Mem, IM b M' → (isDn (swA E (M 5) p1 p2) → RACT M M' (swR E (M 5) p1 p2)) → (¬ isDn (swA E (M 5) p1 p2) → RNOP M M') → Q (swA E (M 5) p1 p2) M') : qX12_swaps p1 p2 M Q := by
  unfold qX12_swaps
  intro M1 h1
  subst h1
  refine putsBy_a hI hE ?_
  intro M2 i2 E2 k5 st s15 sp
  refine gX12_swapsTwo i2 E2 ?_
  intro M3 i3 f3 k3
  rw [k5] at k3 ⊢
  intro _
  refine gX12_counted (M0 := M) (r' := swR E (M 5) p1 p2) i3 (fun k j h n5 n15 => ?_) (fun j p q => ?_) (fun j p q => ?_) k3 sw_nd (fun M' i' a n _ => hQ M' i' a n)
  · rw [f3 k j (by omega)]; exact st k j h n15
  · rw [f3 15 j (by omega)]; exact s15 j p q
  · rw [f3 15 _ (by omega)]; exact sp j p q
theorem gX12_steps {p1 b : Int} {M E : Mem} {Q : Int → Mem → Prop} (hI : IM b M) (hE : CE E M) (hb : b + 200 ≤ 2000000000) (hQ1 : 0 ≤ p1 ∧ p1 ≤ 60 → ∀ M' : Mem, IM (b + 200) M' → RACT M M' (itF E p1.toNat (M 5)) → Q (itF E p1.toNat (M 5) 12) M') (hQ2 : ¬ (0 ≤ p1 ∧ p1 ≤ 60) → ∀ M' : Mem, IM (b + 200) M' → RNOP M M' → Q (-1) M') : qX12_steps p1 M Q := by
  unfold qX12_steps
  intro M1 h1
  have i1 : IM b M1 := by rw [h1]; exact hI.up (by omega) (by simp [BM])
  refine sX12_in (p0 := p1) (p2 := 0) (p4 := 60) i1 ?_
  intro z hz _ _
  refine ⟨fun c => ?_, fun c => ?_⟩
  · have cp := hz.2.1 (by rcases hz.1 with q | q <;> omega)
    subst h1
    refine putsBy_a hI hE ?_
    intro M2 i2 E2 k5 st s15 sp
    refine fmX12_goesOn (gX12_goesOn (p2 := p1) i2 E2 hb (Or.inl rfl) (by omega) (Q := fun M' => IM (b + 200) M' ∧ M' 5 = itF E p1.toNat (M2 5)) (fun M' a _ c => ⟨a, c⟩)) ?_
    intro M5 f5 ⟨i5, k5'⟩
    rw [k5] at k5'
    intro M6 h6 x7 e7 _
    have i6 : IM (b + 200) M6 := by rw [h6]; exact i5.up (by omega) (bm_c1_1.mpr (by decide))
    have F6 : Ks (fun k j => k = 1 ∧ j = 1) M5 M6 := by rw [h6]; exact Ks.rf.wr ⟨rfl, rfl⟩
    have t6 : M6 1 1 = 0 := by rw [h6, up2_s]
    refine fmX12_enters (sX12_enters (p1 := x7) i6 (by omega) (Q := fun M' => IM (b + 200) M' ∧ M' 1 1 = 1) (fun M' a c => ⟨a, by omega⟩)) ?_
    intro M8 f8 ⟨i8, t8⟩ x9 e9 _
    refine fmX12_enters (sX12_enters (p1 := x9) i8 (by omega) (Q := fun M' => IM (b + 200) M') (fun M' a _ => a)) ?_
    intro M10 f10 i10 x11 e11 _
    have K : ∀ (k : Nat) (j : Int), (stM k j ∨ k = 5 ∨ k = 15) → M10 k j = M5 k j := by
      intro k j h
      rw [f10 k j (by omega), f8 k j (by omega), F6 k j (by omega)]
    have K5 : M10 5 = itF E p1.toNat (M 5) := by rw [← k5']; exact funext fun j => K 5 j (by omega)
    have f11 : x11 = itF E p1.toNat (M 5) 12 := by rw [e11, K5]
    rw [f11]
    refine gX12_addsR (M0 := M) (r' := itF E p1.toNat (M 5)) i10 (fun k j h n5 n15 => ?_) (fun j p q => ?_) (fun j p q => ?_) K5 (fun M' i' a _ => hQ1 cp M' i' a)
    · rw [K k j (Or.inl h), f5 k j (by omega)]; exact st k j h n15
    · rw [K 15 j (by omega), f5 15 j (by omega)]; exact s15 j p q
    · rw [K 15 _ (by omega), f5 15 _ (by omega)]; exact sp j p q
  · have cp := hz.2.2 c
    refine hQ2 (by omega) M1 (i1.mono (by omega)) ⟨fun k j h n5 n15 => ?_, ?_, fun j p q => ?_⟩
    · rw [h1, up2_a]
      by_cases ck : k = 1
      · rw [if_pos ck, if_neg (by omega)]
      · rw [if_neg ck]
    · rw [h1, up2_n (by decide)]
    · rw [h1, up2_n (by decide)]
-- the class
theorem gX11_turnsTo {p1 : Int} {M E : Mem} {r : Int → Int} {Q : Int → Mem → Prop} (hI : IX M) (hS : STR E M) (hC : SC E M 1 r) (hW : WR E r) (hQ : ∀ M' : Mem, IX M' → (isDn (tnA E r p1) → CACT E M M' r (tnR E r p1)) → (¬ isDn (tnA E r p1) → CNOP E M M' r) → Q (tnA E r p1) M') : qX11_turnsTo p1 M Q := by
  unfold qX11_turnsTo
  refine gX6_copyFrom hI (show isS 22 by decide) (show isS 1 by decide) (by decide) ?_
  intro M1 i1 k1 s1 _
  have S1 : STR E M1 := hS.fr (k1 _ _ (by omega)) (k1 _ _ (by omega)) (k1 _ _ (by omega)) (fun j => k1 159 j (by omega))
  have C1 : SC E M1 1 r := hC.fr (fun i j hi => k1 _ j (by omega))
  refine gX6_turn i1 (show isS 1 by decide) S1 C1 hW ?_
  intro M2 i2 k2 c2 _
  exact gX11_act i2 k1 (s1 E r hC) (fun k j _ h => k2 k j (by omega)) (fun k j a b => k2 k j (by omega)) c2 tn_nd (fun M' i' a n _ => hQ M' i' a n)
theorem gX11_pushes {p1 p2 : Int} {M E : Mem} {r : Int → Int} {Q : Int → Mem → Prop} (hI : IX M) (hS : STR E M) (hC : SC E M 1 r) (hW : WR E r) (hQ : ∀ M' : Mem, IX M' → (isDn (psA E r p1 p2) → CACT E M M' r (psR E r p1 p2)) → (¬ isDn (psA E r p1 p2) → CNOP E M M' r) → Q (psA E r p1 p2) M') : qX11_pushes p1 p2 M Q := by
  unfold qX11_pushes
  refine gX6_copyFrom hI (show isS 22 by decide) (show isS 1 by decide) (by decide) ?_
  intro M1 i1 k1 s1 _
  have S1 : STR E M1 := hS.fr (k1 _ _ (by omega)) (k1 _ _ (by omega)) (k1 _ _ (by omega)) (fun j => k1 159 j (by omega))
  have C1 : SC E M1 1 r := hC.fr (fun i j hi => k1 _ j (by omega))
  refine gX6_shove i1 (show isS 1 by decide) S1 C1 hW ?_
  intro M2 i2 k2 c2 _
  exact gX11_act i2 k1 (s1 E r hC) (fun k j _ h => k2 k j (by omega)) (fun k j a b => k2 k j (by omega)) c2 ps_nd (fun M' i' a n _ => hQ M' i' a n)
theorem gX11_swaps {p1 p2 : Int} {M E : Mem} {r : Int → Int} {Q : Int → Mem → Prop} (hI : IX M) (hS : STR E M) (hC : SC E M 1 r) (hW : WR E r) (hQ : ∀ M' : Mem, IX M' → (isDn (swA E r p1 p2) → CACT E M M' r (swR E r p1 p2)) → (¬ isDn (swA E r p1 p2) → CNOP E M M' r) → Q (swA E r p1 p2) M') : qX11_swaps p1 p2 M Q := by
  unfold qX11_swaps
  refine gX6_copyFrom hI (show isS 22 by decide) (show isS 1 by decide) (by decide) ?_
  intro M1 i1 k1 s1 _
  have S1 : STR E M1 := hS.fr (k1 _ _ (by omega)) (k1 _ _ (by omega)) (k1 _ _ (by omega)) (fun j => k1 159 j (by omega))
  have C1 : SC E M1 1 r := hC.fr (fun i j hi => k1 _ j (by omega))
  refine gX6_exchange i1 (show isS 1 by decide) S1 C1 hW ?_
  intro M2 i2 k2 c2 _
  exact gX11_act i2 k1 (s1 E r hC) (fun k j _ h => k2 k j (by omega)) (fun k j a b => k2 k j (by omega)) c2 sw_nd (fun M' i' a n _ => hQ M' i' a n)
theorem gX11_steps {p1 : Int} {M E : Mem} {r : Int → Int} {Q : Int → Mem → Prop} (hI : IX M) (hS : STR E M) (hL : LAW E M (M 155 16).toNat) (hw : WFC (E 11) (E 1 24)) (hC : SC E M 1 r) (hW : WR E r) (h37 : r 37 ≤ 1999999000) (hQ1 : 0 ≤ p1 ∧ p1 ≤ 60 → ∀ M' : Mem, IX M' → WR E (itF E p1.toNat r) → CACT E M M' r (itF E p1.toNat r) → Q (itF E p1.toNat r 12) M') (hQ2 : ¬ (0 ≤ p1 ∧ p1 ≤ 60) → Q (-1) M) : qX11_steps p1 M Q := by
  unfold qX11_steps
  refine ⟨fun c => hQ2 (by omega), fun c => ⟨fun c2 => ?_, fun c2 => hQ2 (by omega)⟩⟩
  refine gX6_copyFrom hI (show isS 22 by decide) (show isS 1 by decide) (by decide) ?_
  intro M1 i1 k1 s1 _
  have g16 : M1 155 16 = M 155 16 := k1 155 16 (by omega)
  have el : (M 155 16).toNat = 187 ∨ (M 155 16).toNat = 192 := hI.l16
  have S1 : STR E M1 := hS.fr (k1 _ _ (by omega)) (k1 _ _ (by omega)) (k1 _ _ (by omega)) (fun j => k1 159 j (by omega))
  have L1 : LAW E M1 (M 155 16).toNat := hL.fr (k1 _ _ (by omega)) (k1 _ _ (by omega)) (fun j => k1 _ j (by omega)) (fun j => k1 _ j (by omega))
  have C1 : SC E M1 1 r := hC.fr (fun i j hi => k1 _ j (by omega))
  rw [g16]
  refine ⟨hI.l16, ?_⟩
  refine gX10_walk i1 (show isS 1 by decide) hI.l16 S1 L1 hw C1 hW h37 (by omega) ?_
  intro M5 i5 k5 c5 w5 x6 _ _ x7 _ _
  refine fmX4_tellTwo (sX4_tellTwo (p1 := x6) (p3 := x7) i5 (Q := fun M' => IX M') (fun _ h => h)) ?_
  intro M8 k8 i8 x9 e9 _
  have c8 : SC E M8 1 (itF E p1.toNat r) := c5.fr (fun i j hi => k8 _ j (by omega))
  have f9 : x9 = itF E p1.toNat r 12 := by rw [e9]; exact c8.2.2.2.2.1
  rw [f9]
  have dn : isDn (itF E p1.toNat r 12) := by
    have := arF_b (itF E p1.toNat r) (eH E)
    have e := w5.2.2.2.1
    exact Or.inl (by omega)
  refine gX11_act (r' := itF E p1.toNat r) i8 k1 (s1 E r hC) (fun k j h h2 => ?_) (fun k j a b => ?_) c8 (fun n => absurd dn n) (fun M' i' a _ _ => hQ1 (by omega) M' i' w5 (a dn))
  · rw [k8 k j (by omega)]
    exact k5 k j (by omega)
  · rw [k8 k j (by omega)]
    exact k5 k j (by omega)
