/-! STRANGERS that are nearest -/
def pr (E : Mem) (r : Int → Int) (a b : Int) : Prop := (0 ≤ a ∧ a < b ∧ b < E 1 5) ∧ E 3 a ≠ E 3 b ∧ r (29 + a) < 0 ∧ r (29 + b) < 0
def ds (r : Int → Int) (a b : Int) : Int := ab (r (13 + a) - r (13 + b))
/-- of the pairs ahead of (i, j) -/
def MNP (E : Mem) (r : Int → Int) (B i j L : Int) : Prop := (∀ a b, (a < i ∨ a = i ∧ b < j) → pr E r a b → L ≤ ds r a b) ∧ (L = B ∨ L < 30 ∧ ∃ a b, pr E r a b ∧ L = ds r a b)
theorem ds_b {E : Mem} {r : Int → Int} {a b : Int} (hE : EBx E) (hW : WR E r) (h : (0 ≤ a ∧ a < E 1 5) ∧ 0 ≤ b ∧ b < E 1 5) : 0 ≤ ds r a b ∧ ds r a b ≤ 29 := by
  have g := hE.1
  have w1 := (hW.2.2.1 a h.1.1 h.1.2).2.1
  have w2 := (hW.2.2.1 b h.2.1 h.2.2).2.1
  have := ab_b (r (13 + a) - r (13 + b))
  have e : eG E = E 1 3 - 1 := rfl
  unfold ds
  omega
theorem MNP.skip {E : Mem} {r : Int → Int} {B i j L : Int} (h : MNP E r B i j L) (hn : pr E r i j → L ≤ ds r i j) : MNP E r B i (j + 1) L := by
  refine ⟨fun a b q p => ?_, h.2⟩
  by_cases c : a = i ∧ b = j
  · rw [c.1, c.2] at p ⊢
    exact hn p
  · exact h.1 a b (by omega) p
theorem MNP.take {E : Mem} {r : Int → Int} {B i j L : Int} (h : MNP E r B i j L) (hp : pr E r i j) (hl : ds r i j < L) (h30 : ds r i j < 30) : MNP E r B i (j + 1) (ds r i j) := by
  refine ⟨fun a b q p => ?_, Or.inr ⟨h30, i, j, hp, rfl⟩⟩
  by_cases c : a = i ∧ b = j
  · rw [c.1, c.2]
    exact Int.le_refl _
  · have := h.1 a b (by omega) p
    omega
theorem MNP.next {E : Mem} {r : Int → Int} {B i j L : Int} (h : MNP E r B i j L) (hj : E 1 5 ≤ j) : MNP E r B (i + 1) (i + 1 + 1) L := by
  refine ⟨fun a b q p => ?_, h.2⟩
  have := p.1
  exact h.1 a b (by omega) p
def SGA (E : Mem) (r : Int → Int) (z : Int) : Prop := (z = -2 ∧ ∀ a b, ¬ pr E r a b) ∨ ((∃ a b, pr E r a b ∧ z = ds r a b) ∧ ∀ a b, pr E r a b → z ≤ ds r a b)
theorem SGA.uq {E : Mem} {r : Int → Int} {z w : Int} (h : SGA E r z) (h2 : SGA E r w) : z = w := by
  rcases h with ⟨a, b⟩ | ⟨⟨a, b, p, e⟩, c⟩
  · rcases h2 with ⟨d, _⟩ | ⟨⟨a', b', p', _⟩, _⟩
    · omega
    · exact absurd p' (b a' b')
  · rcases h2 with ⟨_, n⟩ | ⟨⟨a', b', p', e'⟩, c'⟩
    · exact absurd p (n a b)
    · have := c a' b' p'
      have := c' a b p
      omega
theorem MNP.fin {E : Mem} {r : Int → Int} {B i j L : Int} (h : MNP E r B i j L) (hE : EBx E) (hW : WR E r) (hi : E 1 5 ≤ i) (hB : 30 ≤ B) : (L = B → SGA E r (-2)) ∧ (L ≠ B → SGA E r L ∧ 0 ≤ L ∧ L < 30) := by
  refine ⟨fun e => Or.inl ⟨rfl, fun a b p => ?_⟩, fun e => ?_⟩
  · have := h.1 a b (by have := p.1; omega) p
    have := ds_b hE hW (a := a) (b := b) (by have := p.1; omega)
    omega
  · rcases h.2 with q | ⟨q, a, b, p, u⟩
    · exact absurd q e
    · have := ds_b hE hW (a := a) (b := b) (by have := p.1; omega)
      exact ⟨Or.inr ⟨⟨a, b, p, u⟩, fun a' b' p' => h.1 a' b' (by have := p'.1; omega) p'⟩, by omega, q⟩
theorem gX11_strangers_L20 {X136 : Int → Int → Mem → Prop} {Q : Int → Mem → Prop} {E : Mem} {r : Int → Int} {v2 : Int} (hE : EBx E) (hW : WR E r) (h2 : 0 ≤ v2 ∧ v2 < E 1 5) (hX : ∀ (v1 v3 : Int) (M' : Mem), IX M' → SC E M' 1 r → MNP E r 30 v2 v3 v1 → E 1 5 ≤ v3 → 0 ≤ v1 → v1 ≤ 30 → X136 v1 v2 M') : ∀ (n : Nat) (v1 v3 : Int) (M : Mem), IX M → SC E M 1 r → MNP E r 30 v2 v3 v1 → (v2 < v3 ∧ v3 ≤ E 1 5) → (0 ≤ v1 ∧ v1 ≤ 30) → E 1 5 - v3 < (n : Int) → qX11_strangers_L20 X136 Q n v1 v2 v3 M := by
  have g := hE.2
  have g1 := hE.1
  intro n
  induction n with
  | zero => intro v1 v3 M hI hC hN h3 h1 hm; exact absurd hm (by omega)
  | succ n ih =>
    intro v1 v3 M hI hC hN h3 h1 hm
    rw [qX11_strangers_L20]
    intro x4 e4 _
    rw [hC.2.1] at e4
    refine ⟨⟨by omega, by omega⟩, ⟨fun c => hX v1 v3 M hI hC hN (by omega) h1.1 h1.2, fun c => ⟨⟨by omega, by omega⟩, ?_⟩⟩⟩
    have w2 := hW.2.2.1 v2 h2.1 h2.2
    have w3 := hW.2.2.1 v3 (by omega) (by omega)
    have e13 : M 4 v2 = r (13 + v2) := hC.2.2.2.2.2.1 v2 h2.1 (by omega)
    have e13' : M 4 v3 = r (13 + v3) := hC.2.2.2.2.2.1 v3 (by omega) (by omega)
    have J : ∀ t : Int, (t = 0 ∧ ¬ pr E r v2 v3 ∨ t = 1 ∧ pr E r v2 v3) → qX11_strangers_J79 (qX11_strangers_L20 X136 Q n) X136 Q v1 v2 v3 t M := by
      intro t ht
      unfold qX11_strangers_J79
      refine ⟨h2.1, by omega, ?_⟩
      intro x12 e12 _
      refine ⟨by omega, by omega, ?_⟩
      intro x15 e15 _
      refine ⟨⟨by omega, by omega⟩, ?_⟩
      intro x17 p17 n17
      have d17 : x17 = ds r v2 v3 := by
        have := ab_e p17 n17
        rw [this, e12, e15, e13, e13']
        rfl
      have db := ds_b hE hW (a := v2) (b := v3) (by omega)
      refine ⟨by rcases ht with q | q <;> exact ⟨by omega, by omega⟩, ⟨fun d => ?_, fun d => ⟨⟨by omega, by omega⟩, ⟨by omega, by omega⟩, ⟨fun d2 => ?_, fun d2 => ⟨⟨by omega, by omega⟩, ⟨by omega, by omega⟩, ?_⟩⟩⟩⟩⟩
      · refine ih _ _ M hI hC (hN.skip (fun p => ?_)) (by omega) h1 (by omega)
        rcases ht with q | q
        · exact absurd p q.2
        · omega
      · exact ih _ _ M hI hC (hN.skip (fun p => by omega)) (by omega) h1 (by omega)
      · refine tell2 hI ?_
        intro M25 i25 k25
        have p : pr E r v2 v3 := by
          rcases ht with q | q
          · omega
          · exact q.2
        rw [d17]
        exact ih _ _ M25 i25 (hC.fr (fun i j hi => k25 _ j (by omega))) (hN.take p (by omega) (by omega)) (by omega) (by omega) (by omega)
    have e29 : M (1 + 6) v2 = r (29 + v2) := hC.2.2.2.2.2.2.2.2.1 v2 h2.1 (by omega)
    have e29' : M (1 + 6) v3 = r (29 + v3) := hC.2.2.2.2.2.2.2.2.1 v3 (by omega) (by omega)
    refine gX6_hasEnded (k0 := 1) (by omega) ?_
    intro x8 h8 _ _
    rw [e29] at h8
    refine ⟨fun d => ?_, fun d => ?_⟩
    · unfold qX11_strangers_J78
      exact J 0 (Or.inl ⟨rfl, fun p => by have := p.2.2.1; omega⟩)
    · refine gX6_hasEnded (k0 := 1) (by omega) ?_
      intro x26 h26 _ _
      rw [e29'] at h26
      refine ⟨fun d2 => ?_, fun d2 => ⟨h2.1, by omega, ?_⟩⟩
      · unfold qX11_strangers_J78
        exact J 0 (Or.inl ⟨rfl, fun p => by have := p.2.2.2; omega⟩)
      · intro x30 e30 _
        refine ⟨by omega, by omega, ?_⟩
        intro x33 e33 _
        have o1 : M 5 v2 = E 3 v2 := hC.2.2.2.2.2.2.1 v2 h2.1 (by omega)
        have o2 : M 5 v3 = E 3 v3 := hC.2.2.2.2.2.2.1 v3 (by omega) (by omega)
        refine ⟨fun d3 => ?_, fun d3 => ?_⟩
        · unfold qX11_strangers_J78
          exact J 0 (Or.inl ⟨rfl, fun p => p.2.1 (by omega)⟩)
        · exact J 1 (Or.inr ⟨rfl, ⟨h2.1, h3.1, by omega⟩, by omega, by omega, by omega⟩)
theorem gX11_strangers_L5 {X142 : Int → Mem → Prop} {Q : Int → Mem → Prop} {E : Mem} {r : Int → Int} (hE : EBx E) (hW : WR E r) (hX : ∀ (v1 v2 : Int) (M' : Mem), IX M' → MNP E r 30 v2 (v2 + 1) v1 → E 1 5 ≤ v2 → 0 ≤ v1 → v1 ≤ 30 → X142 v1 M') : ∀ (n : Nat) (v1 v2 : Int) (M : Mem), IX M → SC E M 1 r → MNP E r 30 v2 (v2 + 1) v1 → (0 ≤ v2 ∧ v2 ≤ E 1 5) → (0 ≤ v1 ∧ v1 ≤ 30) → E 1 5 - v2 < (n : Int) → qX11_strangers_L5 X142 Q n v1 v2 M := by
  have g := hE.2
  intro n
  induction n with
  | zero => intro v1 v2 M hI hC hN h2 h1 hm; exact absurd hm (by omega)
  | succ n ih =>
    intro v1 v2 M hI hC hN h2 h1 hm
    rw [qX11_strangers_L5]
    intro x1 e1 _
    rw [hC.2.1] at e1
    refine ⟨⟨by omega, by omega⟩, ⟨fun c => hX v1 v2 M hI hN (by omega) h1.1 h1.2, fun c => ?_⟩⟩
    refine ⟨9, gX11_strangers_L20 (v2 := v2) hE hW ⟨h2.1, by omega⟩ ?_ 9 v1 (v2 + 1) M hI hC hN (by omega) h1 (by omega)⟩
    intro w1 w3 M' i' c' n' h3 a b
    exact ih w1 (v2 + 1) M' i' c' (n'.next h3) (by omega) ⟨a, b⟩ (by omega)
theorem gX11_strangers {M E : Mem} {r : Int → Int} {Q : Int → Mem → Prop} (hI : IX M) (hE : EBx E) (hC : SC E M 1 r) (hW : WR E r) (hQ : ∀ (z : Int) (M' : Mem), IX M' → SGA E r z → Q z M') : qX11_strangers M Q := by
  have g := hE.2
  unfold qX11_strangers
  refine ⟨10, gX11_strangers_L5 hE hW ?_ 10 30 0 M hI hC ⟨fun a b q p => by have := p.1; omega, Or.inl rfl⟩ (by omega) (by decide) (by omega)⟩
  intro v1 v2 M' i' n' h2 a b
  have fn := n'.fin hE hW h2 (by decide)
  refine ⟨⟨by omega, by omega⟩, ⟨fun c => hQ _ M' i' (fn.1 (by omega)), fun c => hQ _ M' i' (fn.2 (by omega)).1⟩⟩
-- the reference
theorem gX12_strangers_L31 {b : Int} {v4 : Int} {X128 : Int → Int → Int → Int → Mem → Prop} {Q : Int → Mem → Prop} {E M : Mem} (hI : IM b M) (hEE : CE E M) (hE : EBx E) (hW : WR E (M 5)) (h4 : 0 ≤ v4 ∧ v4 < E 1 5) (hX : ∀ (v1 v2 v3 v5 : Int), MNP E (M 5) 1000000 v4 v5 v1 → E 1 5 ≤ v5 → (v1 = 1000000 ∧ v2 = -1 ∨ (0 ≤ v1 ∧ v1 < 30) ∧ (0 ≤ v2 ∧ v2 ≤ 7)) → (-1 ≤ v3 ∧ v3 ≤ 7) → X128 v1 v2 v3 v4 M) : ∀ (n : Nat) (v1 v2 v3 v5 : Int), MNP E (M 5) 1000000 v4 v5 v1 → (v4 < v5 ∧ v5 ≤ E 1 5) → (v1 = 1000000 ∧ v2 = -1 ∨ (0 ≤ v1 ∧ v1 < 30) ∧ (0 ≤ v2 ∧ v2 ≤ 7)) → (-1 ≤ v3 ∧ v3 ≤ 7) → E 1 5 - v5 < (n : Int) → qX12_strangers_L31 X128 Q n v1 v2 v3 v4 v5 M := by
  have g := hE.2
  have g1 := hE.1
  intro n
  induction n with
  | zero => intro v1 v2 v3 v5 hN h5 h1 h3 hm; exact absurd hm (by omega)
  | succ n ih =>
    intro v1 v2 v3 v5 hN h5 h1 h3 hm
    rw [qX12_strangers_L31]
    intro x5 e5 _
    rw [hEE 1 5 cE15] at e5
    have w4 := hW.2.2.1 v4 h4.1 h4.2
    refine ⟨⟨by omega, by omega⟩, ⟨fun c => hX v1 v2 v3 v5 hN (by omega) h1 h3, fun c => ⟨by omega, by omega, ?_⟩⟩⟩
    have w5 := hW.2.2.1 v5 (by omega) (by omega)
    have db := ds_b hE hW (a := v4) (b := v5) (by omega)
    intro x10 e10 _
    refine ⟨by omega, by omega, ?_⟩
    intro x13 e13 _
    refine ⟨⟨by omega, by omega⟩, ?_⟩
    intro x15 p15 n15
    have d15 : x15 = ds (M 5) v4 v5 := by
      have := ab_e p15 n15
      rw [this, e10, e13]
      rfl
    refine ⟨h4.1, by omega, ?_⟩
    intro x18 e18 _
    refine ⟨by omega, by omega, ?_⟩
    intro x21 e21 _
    rw [hEE 3 v4 (cE3 v4)] at e18
    rw [hEE 3 v5 (cE3 v5)] at e21
    refine ⟨fun d => ih _ _ _ _ (hN.skip (fun p => absurd (by omega) p.2.1)) (by omega) h1 h3 (by omega), fun d => ⟨⟨by omega, by omega⟩, ?_⟩⟩
    refine gX12_isEnded (k0 := 5) (by omega) ?_
    intro x24 h24 _ _
    refine ⟨fun d2 => ih _ _ _ _ (hN.skip (fun p => by have := p.2.2.1; omega)) (by omega) h1 h3 (by omega), fun d2 => ?_⟩
    refine gX12_isEnded (k0 := 5) (by omega) ?_
    intro x26 h26 _ _
    refine ⟨fun d3 => ih _ _ _ _ (hN.skip (fun p => by have := p.2.2.2; omega)) (by omega) h1 h3 (by omega), fun d3 => ⟨⟨by omega, by omega⟩, ⟨by omega, by omega⟩, ⟨fun d4 => ?_, fun d4 => ?_⟩⟩⟩
    · exact ih _ _ _ _ (hN.skip (fun p => by omega)) (by omega) h1 h3 (by omega)
    · have p : pr E (M 5) v4 v5 := ⟨⟨h4.1, h5.1, by omega⟩, by omega, by omega, by omega⟩
      rw [d15]
      exact ih _ _ _ _ (hN.take p (by omega) (by omega)) (by omega) (Or.inr ⟨by omega, by omega⟩) (by omega) (by omega)
theorem gX12_strangers_L16 {b : Int} {X134 : Int → Int → Int → Mem → Prop} {Q : Int → Mem → Prop} {E M : Mem} (hI : IM b M) (hEE : CE E M) (hE : EBx E) (hW : WR E (M 5)) (hX : ∀ (v1 v2 v3 v4 : Int), MNP E (M 5) 1000000 v4 (v4 + 1) v1 → E 1 5 ≤ v4 → (v1 = 1000000 ∧ v2 = -1 ∨ (0 ≤ v1 ∧ v1 < 30) ∧ (0 ≤ v2 ∧ v2 ≤ 7)) → (-1 ≤ v3 ∧ v3 ≤ 7) → X134 v1 v2 v3 M) : ∀ (n : Nat) (v1 v2 v3 v4 : Int), MNP E (M 5) 1000000 v4 (v4 + 1) v1 → (0 ≤ v4 ∧ v4 ≤ E 1 5) → (v1 = 1000000 ∧ v2 = -1 ∨ (0 ≤ v1 ∧ v1 < 30) ∧ (0 ≤ v2 ∧ v2 ≤ 7)) → (-1 ≤ v3 ∧ v3 ≤ 7) → E 1 5 - v4 < (n : Int) → qX12_strangers_L16 X134 Q n v1 v2 v3 v4 M := by
  have g := hE.2
  intro n
  induction n with
  | zero => intro v1 v2 v3 v4 hN h4 h1 h3 hm; exact absurd hm (by omega)
  | succ n ih =>
    intro v1 v2 v3 v4 hN h4 h1 h3 hm
    rw [qX12_strangers_L16]
    intro x2 e2 _
    rw [hEE 1 5 cE15] at e2
    refine ⟨⟨by omega, by omega⟩, ⟨fun c => hX v1 v2 v3 v4 hN (by omega) h1 h3, fun c => ?_⟩⟩
    refine ⟨9, gX12_strangers_L31 (v4 := v4) hI hEE hE hW ⟨h4.1, by omega⟩ ?_ 9 v1 v2 v3 (v4 + 1) hN (by omega) h1 h3 (by omega)⟩
    intro w1 w2 w3 w5 n' h5 a c
    exact ih w1 w2 w3 (v4 + 1) (n'.next h5) (by omega) a c (by omega)
theorem gX12_strangers {b : Int} {M E : Mem} {Q : Int → Mem → Prop} (hI : IM b M) (hEE : CE E M) (hW : WR E (M 5)) (hQ : ∀ (z : Int) (M' : Mem), IM b M' → SGA E (M 5) z → Q z M') : qX12_strangers M Q := by
  have hE := hEE.eb hI
  have g := hE.2
  unfold qX12_strangers
  intro M1 h1
  obtain ⟨i1, E1, k5, _, _⟩ := th0 hI hEE h1
  rw [← k5] at hW hQ
  refine ⟨10, gX12_strangers_L16 i1 E1 hE hW ?_ 10 1000000 (-1) (-1) 0 ⟨fun a b q p => by have := p.1; omega, Or.inl rfl⟩ (by omega) (Or.inl ⟨rfl, rfl⟩) (by decide) (by omega)⟩
  intro v1 v2 v3 v4 n' h4 h1' h3
  have fn := n'.fin hE hW h4 (by decide)
  refine ⟨⟨by omega, by omega⟩, ⟨fun c => ?_, fun c => hQ _ M1 i1 (fn.1 (by omega))⟩⟩
  obtain ⟨sg, b1, b2⟩ := fn.2 (by omega)
  intro M35 h35
  have i35 : IM b M35 := by rw [h35]; exact i1.up (by omega) (bm_c1_1.mpr (by decide))
  have t35 : M35 1 1 = 0 := by rw [h35, up2_s]
  refine entC i35 (by omega) ?_
  intro M36 i36 _ t36
  refine ⟨⟨by omega, by omega⟩, ?_⟩
  refine entC i36 (by omega) ?_
  intro M38 i38 _ _
  exact ⟨⟨by omega, by omega⟩, hQ v1 M38 i38 sg⟩
