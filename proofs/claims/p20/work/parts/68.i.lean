section
theorem fzX11_rains_L42 {p1 : Int} {p2 : Int} {p3 : Int} {X112 X112' : Int → Mem → Prop} {Q Q' : Int → Mem → Prop} (hX112 : ∀ (w0 : Int) (M' : Mem), X112 w0 M' → X112' w0 M') : ∀ (n : Nat) (v4 v6 v8 : Int) (M : Mem), qX11_rains_L42 p1 p2 p3 X112 Q n v4 v6 v8 M → qX11_rains_L42 p1 p2 p3 X112' Q' n v4 v6 v8 M := by
  intro n
  induction n with
  | zero => intro v4 v6 v8 M h; exact h.elim
  | succ n ih =>
    intro v4 v6 v8 M h
    rw [qX11_rains_L42] at h
    rw [qX11_rains_L42]
    obtain ⟨v1, h1⟩ := h
    refine ⟨v1, ?_⟩
    obtain ⟨h2, h3⟩ := h1
    refine ⟨?_, ?_⟩
    · intro g4
      have h5 := h2 g4
      exact hX112 _ _ h5
    · intro g6
      have h7 := h3 g6
      obtain ⟨v8, h8⟩ := h7
      refine ⟨v8, ?_⟩
      obtain ⟨h9, h10⟩ := h8
      refine ⟨?_, ?_⟩
      · intro g11
        have h12 := h9 g11
        unfold qX11_rains_J88 at h12 ⊢
        intro x11_13 g14 g15
        have h13 := h12 x11_13 g14 g15
        intro x12_16 g17 g18
        have h16 := h13 x12_16 g17 g18
        intro x13_19 g20 g21
        have h19 := h16 x13_19 g20 g21
        obtain ⟨v22, h22⟩ := h19
        refine ⟨v22, ?_⟩
        obtain ⟨v23, h23⟩ := h22
        refine ⟨v23, ?_⟩
        intro x16_24 g25 g26
        have h24 := h23 x16_24 g25 g26
        exact ih _ _ _ _ h24
      · intro g27
        have h28 := h10 g27
        refine fmX11_power h28 ?_
        intro x17_30 M17_31 f29 h29
        intro g32
        have h33 := h29 g32
        intro x18_34 g35 g36
        have h34 := h33 x18_34 g35 g36
        intro x19_37 g38 g39
        have h37 := h34 x19_37 g38 g39
        intro x20_40 g41 g42
        have h40 := h37 x20_40 g41 g42
        intro x21_43 g44 g45
        have h43 := h40 x21_43 g44 g45
        refine fmX11_power h43 ?_
        intro x22_47 M22_48 f46 h46
        intro g49
        have h50 := h46 g49
        intro x23_51 g52 g53
        have h51 := h50 x23_51 g52 g53
        intro x24_54 g55 g56
        have h54 := h51 x24_54 g55 g56
        unfold qX11_rains_J88 at h54 ⊢
        intro x11_57 g58 g59
        have h57 := h54 x11_57 g58 g59
        intro x12_60 g61 g62
        have h60 := h57 x12_60 g61 g62
        intro x13_63 g64 g65
        have h63 := h60 x13_63 g64 g65
        obtain ⟨v66, h66⟩ := h63
        refine ⟨v66, ?_⟩
        obtain ⟨v67, h67⟩ := h66
        refine ⟨v67, ?_⟩
        intro x16_68 g69 g70
        have h68 := h67 x16_68 g69 g70
        exact ih _ _ _ _ h68
/-! rests, rains: what they answer -/
def gn (m o v : Int) : Int := (if o < m then v else if m = o then v / 2 else 0) - m - (if 2 * o < m then 3 else 0)
theorem gX11_gain {p0 p1 p2 : Int} (hp : 0 ≤ p0 ∧ p0 ≤ 9 ∧ 0 ≤ p1 ∧ p1 ≤ 9 ∧ 0 ≤ p2 ∧ p2 ≤ 20) {M : Mem} {Q : Int → Mem → Prop} (hQ : Q (gn p0 p1 p2) M) : qX11_gain p0 p1 p2 M Q := by
  have J : ∀ v3 : Int, v3 = (if p1 < p0 then p2 else if p0 = p1 then p2 / 2 else 0) → qX11_gain_J21 p0 p1 p2 Q v3 M := by
    intro v3 e
    have b : -1 ≤ v3 ∧ v3 ≤ 20 := by
      rw [e]
      split
      · omega
      · split <;> omega
    unfold qX11_gain_J21
    refine ⟨⟨by omega, by omega⟩, ⟨fun c => ⟨⟨by omega, by omega⟩, ?_⟩, fun c => ⟨⟨by omega, by omega⟩, ?_⟩⟩⟩
    · have : gn p0 p1 p2 = v3 - p0 - 0 := by unfold gn; rw [← e, if_neg (by omega)]
      rw [← this]; exact hQ
    · have : gn p0 p1 p2 = v3 - p0 - 3 := by unfold gn; rw [← e, if_pos (by omega)]
      rw [← this]; exact hQ
  unfold qX11_gain
  refine ⟨fun c => ⟨fun c2 => J _ (by rw [if_neg (by omega), if_neg c2]), fun c2 => ?_⟩, fun c => J _ (by rw [if_pos (by omega)])⟩
  intro x7 e7 _
  exact J _ (by rw [if_neg (by omega), if_pos c2, e7, dvI_e ⟨by omega, by omega⟩ ⟨by decide, by decide⟩])
theorem gX12_gets {p0 p1 p2 b : Int} (hp : 0 ≤ p0 ∧ p0 ≤ 9 ∧ 0 ≤ p1 ∧ p1 ≤ 9 ∧ 0 ≤ p2 ∧ p2 ≤ 20) {M : Mem} (hI : IM b M) {Q : Int → Mem → Prop} (hQ : Q (gn p0 p1 p2) M) : qX12_gets p0 p1 p2 M Q := by
  have J : ∀ v3 : Int, v3 = (if p1 < p0 then p2 else if p0 = p1 then p2 / 2 else 0) → qX12_gets_J21 p0 p1 p2 Q v3 M := by
    intro v3 e
    have b : -1 ≤ v3 ∧ v3 ≤ 20 := by
      rw [e]
      split
      · omega
      · split <;> omega
    unfold qX12_gets_J21 qX12_gets_J36
    refine ⟨⟨by omega, by omega⟩, ⟨fun c => ?_, fun c => ?_⟩⟩
    · have : gn p0 p1 p2 = v3 - p0 := by unfold gn; rw [← e, if_neg (by omega)]; omega
      refine ⟨⟨by omega, by omega⟩, ?_⟩
      refine sX12_flag (p0 := 0) hI ?_
      intro z hz _
      have hz0 : z = 0 := by omega
      subst hz0
      refine ⟨⟨by omega, by omega⟩, ?_⟩
      rw [show v3 - p0 - 3 * 0 = gn p0 p1 p2 from by omega]
      exact hQ
    · have : gn p0 p1 p2 = v3 - p0 - 3 := by unfold gn; rw [← e, if_pos (by omega)]
      refine ⟨⟨by omega, by omega⟩, ?_⟩
      refine sX12_flag (p0 := 1) hI ?_
      intro z hz _
      have hz0 : z = 1 := by omega
      subst hz0
      refine ⟨⟨by omega, by omega⟩, ?_⟩
      rw [show v3 - p0 - 3 * 1 = gn p0 p1 p2 from by omega]
      exact hQ
  unfold qX12_gets
  refine ⟨fun c => ⟨fun c2 => J _ (by rw [if_neg (by omega), if_neg c2]), fun c2 => ?_⟩, fun c => J _ (by rw [if_pos (by omega)])⟩
  intro x7 e7 _
  exact J _ (by rw [if_neg (by omega), if_pos c2, e7, dvI_e ⟨by omega, by omega⟩ ⟨by decide, by decide⟩])
theorem gn_b {m o v : Int} (h : 0 ≤ m ∧ m ≤ 9 ∧ 0 ≤ o ∧ o ≤ 9 ∧ 0 ≤ v ∧ v ≤ 20) : -30 ≤ gn m o v ∧ gn m o v ≤ 30 := by
  unfold gn
  split
  · split <;> omega
  · split
    · split <;> omega
    · split <;> omega
/-- none would have more by another number -/
def BA (m o v : Int) : Prop := ∀ a : Int, 0 ≤ a → a ≤ 9 → gn a o v ≤ gn m o v
theorem gX11_isBestAnswer_L10 {p0 p1 p2 : Int} (hp : 0 ≤ p0 ∧ p0 ≤ 9 ∧ 0 ≤ p1 ∧ p1 ≤ 9 ∧ 0 ≤ p2 ∧ p2 ≤ 20) {M : Mem} {Q : Int → Mem → Prop} (hQ : ∀ z : Int, (z = 1 ∧ BA p0 p1 p2 ∨ z = 0 ∧ ¬ BA p0 p1 p2) → Q z M) : ∀ (n : Nat) (v3 v4 : Int), v3 = gn p0 p1 p2 → (∀ a : Int, 0 ≤ a → a < v4 → gn a p1 p2 ≤ gn p0 p1 p2) → (0 ≤ v4 ∧ v4 ≤ 10) → 10 - v4 < (n : Int) → qX11_isBestAnswer_L10 p0 p1 p2 Q n v3 v4 M := by
  intro n
  induction n with
  | zero => intro v3 v4 h3 ha hv hm; exact absurd hm (by omega)
  | succ n ih =>
    intro v3 v4 h3 ha hv hm
    rw [qX11_isBestAnswer_L10]
    refine ⟨⟨by omega, by omega⟩, ⟨fun c => hQ _ (Or.inl ⟨rfl, fun a h0 h9 => ha a h0 (by omega)⟩), fun c => ?_⟩⟩
    refine gX11_gain ⟨by omega, by omega, by omega, by omega, by omega, by omega⟩ ?_
    intro _
    have b := gn_b (m := p0) (o := p1) (v := p2) (by omega)
    refine ⟨⟨by omega, by omega⟩, ⟨fun c2 => ih _ _ h3 (fun a h0 h1 => ?_) (by omega) (by omega), fun c2 => hQ _ (Or.inr ⟨rfl, fun hb => ?_⟩)⟩⟩
    · by_cases ca : a = v4
      · rw [ca]; omega
      · exact ha a h0 (by omega)
    · have := hb v4 (by omega) (by omega)
      omega
theorem gX11_isBestAnswer {p0 p1 p2 : Int} (hp : 0 ≤ p0 ∧ p0 ≤ 9 ∧ 0 ≤ p1 ∧ p1 ≤ 9 ∧ 0 ≤ p2 ∧ p2 ≤ 20) {M : Mem} {Q : Int → Mem → Prop} (hQ : ∀ z : Int, (z = 1 ∧ BA p0 p1 p2 ∨ z = 0 ∧ ¬ BA p0 p1 p2) → Q z M) : qX11_isBestAnswer p0 p1 p2 M Q := by
  unfold qX11_isBestAnswer
  refine gX11_gain hp ?_
  intro _
  exact ⟨11, gX11_isBestAnswer_L10 hp hQ _ _ _ rfl (fun a h0 h1 => by omega) (by omega) (by omega)⟩
theorem gX12_isRest_L5 {p0 p1 p2 b : Int} (hp : 0 ≤ p0 ∧ p0 ≤ 9 ∧ 0 ≤ p1 ∧ p1 ≤ 9 ∧ 0 ≤ p2 ∧ p2 ≤ 20) {M : Mem} (hI : IM b M) {Q : Int → Mem → Prop} (hQ : ∀ z : Int, (z = 1 ∧ BA p0 p1 p2 ∨ z = 0 ∧ ¬ BA p0 p1 p2) → Q z M) : ∀ (n : Nat) (v3 v4 : Int), (v3 = 1 ∧ (∀ a : Int, 0 ≤ a → a < v4 → gn a p1 p2 ≤ gn p0 p1 p2) ∨ v3 = 0 ∧ ¬ BA p0 p1 p2) → (0 ≤ v4 ∧ v4 ≤ 10) → 10 - v4 < (n : Int) → qX12_isRest_L5 p0 p1 p2 Q n v3 v4 M := by
  intro n
  induction n with
  | zero => intro v3 v4 ha hv hm; exact absurd hm (by omega)
  | succ n ih =>
    intro v3 v4 ha hv hm
    have h01 : v3 = 0 ∨ v3 = 1 := by rcases ha with h | h <;> omega
    rw [qX12_isRest_L5]
    refine ⟨⟨by omega, by omega⟩, ⟨fun c => ⟨⟨by omega, by omega⟩, h01, hQ _ ?_⟩, fun c => ⟨⟨by omega, by omega⟩, ⟨fun c2 => ?_, fun c2 => ?_⟩⟩⟩⟩
    · rcases ha with h | h
      · exact Or.inl ⟨h.1, fun a h0 h9 => h.2 a h0 (by omega)⟩
      · exact Or.inr h
    · rcases ha with h | h
      · omega
      · exact ih _ _ (Or.inr ⟨rfl, h.2⟩) (by omega) (by omega)
    · refine gX12_gets ⟨by omega, by omega, by omega, by omega, by omega, by omega⟩ hI ?_
      intro _
      refine gX12_gets hp hI ?_
      intro _
      refine ⟨fun c3 => ih _ _ (Or.inr ⟨rfl, fun hb => ?_⟩) (by omega) (by omega), fun c3 => ih _ _ (Or.inl ⟨rfl, fun a h0 h1 => ?_⟩) (by omega) (by omega)⟩
      · have := hb v4 (by omega) (by omega)
        omega
      · rcases ha with h | h
        · by_cases ca : a = v4
          · rw [ca]; omega
          · exact h.2 a h0 (by omega)
        · omega
theorem gX12_isRest {p0 p1 p2 b : Int} (hp : 0 ≤ p0 ∧ p0 ≤ 9 ∧ 0 ≤ p1 ∧ p1 ≤ 9 ∧ 0 ≤ p2 ∧ p2 ≤ 20) {M : Mem} (hI : IM b M) {Q : Int → Mem → Prop} (hQ : ∀ z : Int, (z = 1 ∧ BA p0 p1 p2 ∨ z = 0 ∧ ¬ BA p0 p1 p2) → Q z M) : qX12_isRest p0 p1 p2 M Q := by
  unfold qX12_isRest
  exact ⟨11, gX12_isRest_L5 hp hI hQ _ _ _ (Or.inl ⟨rfl, fun a h0 h1 => by omega⟩) (by omega) (by omega)⟩
noncomputable def b01 (P : Prop) : Int := @ite Int P (Classical.propDecidable P) 1 0
theorem b01_1 {P : Prop} (h : P) : b01 P = 1 := by unfold b01; rw [if_pos h]
theorem b01_0 {P : Prop} (h : ¬ P) : b01 P = 0 := by unfold b01; rw [if_neg h]
theorem b01_b (P : Prop) : 0 ≤ b01 P ∧ b01 P ≤ 1 := by
  by_cases h : P
  · rw [b01_1 h]; decide
  · rw [b01_0 h]; decide
noncomputable def rY (x v : Int) : Nat → Int
  | 0 => 0
  | y + 1 => rY x v y + b01 (BA x y v ∧ BA y x v)
noncomputable def rX (v : Int) : Nat → Int
  | 0 => 0
  | x + 1 => rX v x + rY x v 10
noncomputable def RSF (v : Int) : Int := if 0 ≤ v ∧ v ≤ 20 then rX v 10 else -1
theorem rY_b (x v : Int) (n : Nat) : 0 ≤ rY x v n ∧ rY x v n ≤ n := by
  induction n with
  | zero => exact ⟨Int.le_refl _, Int.le_refl _⟩
  | succ n ih =>
    have := b01_b (BA x n v ∧ BA n x v)
    unfold rY
    omega
theorem rX_b (v : Int) (n : Nat) : 0 ≤ rX v n ∧ rX v n ≤ 10 * n := by
  induction n with
  | zero => exact ⟨Int.le_refl _, Int.le_refl _⟩
  | succ n ih =>
    have := rY_b n v 10
    unfold rX
    omega
theorem rY_s {x v y : Int} (h : 0 ≤ y) : rY x v (y + 1).toNat = rY x v y.toNat + b01 (BA x y v ∧ BA y x v) := by
  rw [show (y + 1).toNat = y.toNat + 1 from by omega]
  show rY x v y.toNat + b01 (BA x (y.toNat : Nat) v ∧ BA (y.toNat : Nat) x v) = _
  rw [show ((y.toNat : Nat) : Int) = y from by omega]
theorem rX_s {v x : Int} (h : 0 ≤ x) : rX v (x + 1).toNat = rX v x.toNat + rY x v 10 := by
  rw [show (x + 1).toNat = x.toNat + 1 from by omega]
  show rX v x.toNat + rY (x.toNat : Nat) v 10 = _
  rw [show ((x.toNat : Nat) : Int) = x from by omega]
theorem gX11_rests_L32 {p1 : Int} (hp : 0 ≤ p1 ∧ p1 ≤ 20) {X85 : Int → Int → Mem → Prop} {Q : Int → Mem → Prop} {v3 : Int} (hv3 : 0 ≤ v3 ∧ v3 ≤ 9) (hX : ∀ M' : Mem, IX M' → X85 (rX p1 (v3 + 1).toNat) v3 M') : ∀ (n : Nat) (v2 v4 : Int) (M : Mem), IX M → v2 = rX p1 v3.toNat + rY v3 p1 v4.toNat → (0 ≤ v4 ∧ v4 ≤ 10) → 10 - v4 < (n : Int) → qX11_rests_L32 p1 X85 Q n v2 v3 v4 M := by
  intro n
  induction n with
  | zero => intro v2 v4 M hI h2 hv hm; exact absurd hm (by omega)
  | succ n ih =>
    intro v2 v4 M hI h2 hv hm
    have hb1 := rX_b p1 v3.toNat
    have hb2 := rY_b v3 p1 v4.toNat
    have hs := rY_s (x := v3) (v := p1) (y := v4) hv.1
    rw [qX11_rests_L32]
    refine ⟨⟨by omega, by omega⟩, ⟨fun c => ?_, fun c => ⟨⟨by omega, by omega⟩, ?_⟩⟩⟩
    · have e : v2 = rX p1 (v3 + 1).toNat := by
        rw [rX_s hv3.1, h2, show v4 = 10 from by omega]
        rfl
      rw [e]
      exact hX _ hI
    · refine gX11_isBestAnswer ⟨by omega, by omega, by omega, by omega, by omega, by omega⟩ ?_
      intro x10 p10' _ _
      refine ⟨fun c2 => ?_, fun c2 => ?_⟩
      · have hn : ¬ (BA v3 v4 p1 ∧ BA v4 v3 p1) := fun q => by
          rcases p10' with h | h
          · omega
          · exact h.2 q.1
        rw [b01_0 hn] at hs
        exact ih _ _ _ hI (by omega) (by omega) (by omega)
      · have ha : BA v3 v4 p1 := by
          rcases p10' with h | h
          · exact h.2
          · omega
        refine gX11_isBestAnswer ⟨by omega, by omega, by omega, by omega, by omega, by omega⟩ ?_
        intro x12 p12 _ _
        refine ⟨fun c3 => ?_, fun c3 => ⟨⟨by omega, by omega⟩, ?_⟩⟩
        · have hn : ¬ (BA v3 v4 p1 ∧ BA v4 v3 p1) := fun q => by
            rcases p12 with h | h
            · omega
            · exact h.2 q.2
          rw [b01_0 hn] at hs
          exact ih _ _ _ hI (by omega) (by omega) (by omega)
        · have hy : BA v3 v4 p1 ∧ BA v4 v3 p1 := ⟨ha, by
            rcases p12 with h | h
            · exact h.2
            · omega⟩
          rw [b01_1 hy] at hs
          refine ⟨fun c4 => ih _ _ _ hI (by omega) (by omega) (by omega), fun c4 => ?_⟩
          refine sX4_tellTwo hI ?_
          intro M16 h16
          exact ih _ _ _ h16 (by omega) (by omega) (by omega)
theorem gX11_rests_L23 {p1 : Int} (hp : 0 ≤ p1 ∧ p1 ≤ 20) {Q : Int → Mem → Prop} (hQ : ∀ M' : Mem, IX M' → Q (rX p1 10) M') : ∀ (n : Nat) (v2 v3 : Int) (M : Mem), IX M → v2 = rX p1 v3.toNat → (0 ≤ v3 ∧ v3 ≤ 10) → 10 - v3 < (n : Int) → qX11_rests_L23 p1 Q n v2 v3 M := by
  intro n
  induction n with
  | zero => intro v2 v3 M hI h2 hv hm; exact absurd hm (by omega)
  | succ n ih =>
    intro v2 v3 M hI h2 hv hm
    have hb1 := rX_b p1 v3.toNat
    rw [qX11_rests_L23]
    refine ⟨⟨by omega, by omega⟩, ⟨fun c => ⟨⟨by omega, by omega⟩, ?_⟩, fun c => ?_⟩⟩
    · rw [h2, show v3 = 10 from by omega]
      exact hQ _ hI
    · refine ⟨11, gX11_rests_L32 hp ⟨by omega, by omega⟩ ?_ _ _ _ _ hI ?_ (by omega) (by omega)⟩
      · intro M' i'
        exact ih _ _ _ i' rfl (by omega) (by omega)
      · rw [h2]
        show _ = _ + 0
        omega
theorem gX11_rests {p1 : Int} {M : Mem} {Q : Int → Mem → Prop} (hI : IX M) (hQ : ∀ (z : Int) (M' : Mem), IX M' → z = RSF p1 → Q z M') : qX11_rests p1 M Q := by
  unfold qX11_rests
  refine ⟨fun c => hQ _ _ hI (by unfold RSF; rw [if_neg (by omega)]), fun c => ⟨fun c2 => ?_, fun c2 => hQ _ _ hI (by unfold RSF; rw [if_neg (by omega)])⟩⟩
  refine sX4_clear hI ?_
  intro M3 h3
  refine ⟨11, gX11_rests_L23 ⟨by omega, by omega⟩ ?_ _ _ _ _ h3 rfl (by omega) (by omega)⟩
  intro M' i'
  exact hQ _ _ i' (by unfold RSF; rw [if_pos ⟨by omega, by omega⟩])
theorem gX12_rests_L37 {p1 b : Int} (hp : 0 ≤ p1 ∧ p1 ≤ 20) {X90 : Int → Int → Mem → Prop} {Q : Int → Mem → Prop} {v3 : Int} (hv3 : 0 ≤ v3 ∧ v3 ≤ 9) (hX : ∀ M' : Mem, IM b M' → (rX p1 (v3 + 1).toNat = 0 → M' 1 1 = 0) → X90 (rX p1 (v3 + 1).toNat) v3 M') : ∀ (n : Nat) (v2 v4 : Int) (M : Mem), IM b M → (v2 = 0 → M 1 1 = 0) → v2 = rX p1 v3.toNat + rY v3 p1 v4.toNat → (0 ≤ v4 ∧ v4 ≤ 10) → 10 - v4 < (n : Int) → qX12_rests_L37 p1 X90 Q n v2 v3 v4 M := by
  intro n
  induction n with
  | zero => intro v2 v4 M hI h0 h2 hv hm; exact absurd hm (by omega)
  | succ n ih =>
    intro v2 v4 M hI h0 h2 hv hm
    have hb1 := rX_b p1 v3.toNat
    have hb2 := rY_b v3 p1 v4.toNat
    have hs := rY_s (x := v3) (v := p1) (y := v4) hv.1
    rw [qX12_rests_L37]
    refine ⟨⟨by omega, by omega⟩, ⟨fun c => ?_, fun c => ⟨⟨by omega, by omega⟩, ?_⟩⟩⟩
    · have e : v2 = rX p1 (v3 + 1).toNat := by
        rw [rX_s hv3.1, h2, show v4 = 10 from by omega]
        rfl
      rw [e]
      exact hX _ hI (by rw [← e]; exact h0)
    · refine gX12_isRest ⟨by omega, by omega, by omega, by omega, by omega, by omega⟩ hI ?_
      intro x10 p10' _ _
      refine ⟨fun c2 => ?_, fun c2 => ?_⟩
      · have hn : ¬ (BA v3 v4 p1 ∧ BA v4 v3 p1) := fun q => by
          rcases p10' with h | h
          · omega
          · exact h.2 q.1
        rw [b01_0 hn] at hs
        exact ih _ _ _ hI h0 (by omega) (by omega) (by omega)
      · have ha : BA v3 v4 p1 := by
          rcases p10' with h | h
          · exact h.2
          · omega
        refine gX12_isRest ⟨by omega, by omega, by omega, by omega, by omega, by omega⟩ hI ?_
        intro x12 p12 _ _
        refine ⟨fun c3 => ?_, fun c3 => ⟨⟨by omega, by omega⟩, ?_⟩⟩
        · have hn : ¬ (BA v3 v4 p1 ∧ BA v4 v3 p1) := fun q => by
            rcases p12 with h | h
            · omega
            · exact h.2 q.2
          rw [b01_0 hn] at hs
          exact ih _ _ _ hI h0 (by omega) (by omega) (by omega)
        · have hy : BA v3 v4 p1 ∧ BA v4 v3 p1 := ⟨ha, by
            rcases p12 with h | h
            · exact h.2
            · omega⟩
          rw [b01_1 hy] at hs
          refine ⟨fun c4 => ih _ _ _ hI (fun q => by omega) (by omega) (by omega) (by omega), fun c4 => ?_⟩
          have h1 := h0 c4
          refine sX12_enters hI (by omega) ?_
          intro M17 h17 g17
          refine sX12_enters h17 (by omega) ?_
          intro M18 h18 g18
          exact ih _ _ _ h18 (fun q => by omega) (by omega) (by omega) (by omega)
theorem gX12_rests_L28 {p1 b : Int} (hp : 0 ≤ p1 ∧ p1 ≤ 20) {Q : Int → Mem → Prop} (hQ : ∀ M' : Mem, IM b M' → Q (rX p1 10) M') : ∀ (n : Nat) (v2 v3 : Int) (M : Mem), IM b M → (v2 = 0 → M 1 1 = 0) → v2 = rX p1 v3.toNat → (0 ≤ v3 ∧ v3 ≤ 10) → 10 - v3 < (n : Int) → qX12_rests_L28 p1 Q n v2 v3 M := by
  intro n
  induction n with
  | zero => intro v2 v3 M hI h0 h2 hv hm; exact absurd hm (by omega)
  | succ n ih =>
    intro v2 v3 M hI h0 h2 hv hm
    have hb1 := rX_b p1 v3.toNat
    rw [qX12_rests_L28]
    refine ⟨⟨by omega, by omega⟩, ⟨fun c => ⟨⟨by omega, by omega⟩, ?_⟩, fun c => ?_⟩⟩
    · rw [h2, show v3 = 10 from by omega]
      exact hQ _ hI
    · refine ⟨11, gX12_rests_L37 (b := b) hp ⟨by omega, by omega⟩ ?_ _ _ _ _ hI h0 ?_ (by omega) (by omega)⟩
      · intro M' i' h0'
        exact ih _ _ _ i' h0' rfl (by omega) (by omega)
      · rw [h2]
        show _ = _ + 0
        omega
theorem gX12_rests {p1 b : Int} {M : Mem} {Q : Int → Mem → Prop} (hI : IM b M) (hQ : ∀ (z : Int) (M' : Mem), IM b M' → z = RSF p1 → Q z M') : qX12_rests p1 M Q := by
  unfold qX12_rests
  intro M1 h1
  have i1 : IM b M1 := by rw [h1]; exact hI.up (by omega) (by simp [BM])
  refine sX12_in (p0 := p1) (p2 := 0) (p4 := 20) i1 ?_
  intro x2 p2 _ _
  refine ⟨fun c => ?_, fun c => hQ _ _ i1 (by unfold RSF; rw [if_neg (by omega)])⟩
  intro M4 h4
  have i4 : IM b M4 := by rw [h4]; exact i1.up (by omega) (bm_c1_1.mpr (by decide))
  refine ⟨11, gX12_rests_L28 (b := b) ⟨by omega, by omega⟩ ?_ _ _ _ _ i4 (fun _ => by rw [h4, up2_s]) rfl (by omega) (by omega)⟩
  intro M' i'
  exact hQ _ _ i' (by unfold RSF; rw [if_pos ⟨by omega, by omega⟩])
-- rains
theorem gX11_power10_L5 {p2 : Int} (hp : 0 ≤ p2 ∧ p2 ≤ 12) {M : Mem} {Q : Int → Mem → Prop} (hQ : Q (p10 p2) M) : ∀ (n : Nat) (v3 v5 : Int), v3 = p10 v5 → (0 ≤ v5 ∧ v5 ≤ p2) → p2 - v5 < (n : Int) → qX11_power_L5 10 p2 Q n v3 v5 M := by
  intro n
  induction n with
  | zero => intro v3 v5 h3 hv hm; exact absurd hm (by omega)
  | succ n ih =>
    intro v3 v5 h3 hv hm
    have hb := p10_b (z := v5) (by omega)
    rw [qX11_power_L5]
    refine ⟨⟨by omega, by omega⟩, ⟨fun c => ⟨show -9223372036854775808 ≤ v3 ∧ v3 ≤ 9223372036854775807 from ⟨by omega, by omega⟩, ?_⟩, fun c => ?_⟩⟩
    · rw [h3, show v5 = p2 from by omega]
      exact hQ
    · intro x4 e4 _
      have hb2 := p10_b (z := v5 + 1) (by omega)
      have hs := p10_s (z := v5) hv.1
      refine ih _ _ ?_ (by omega) (by omega)
      rw [e4, h3, ← hs]
      exact w64_id (show -9223372036854775808 ≤ p10 (v5 + 1) ∧ p10 (v5 + 1) ≤ 9223372036854775807 from ⟨by omega, by omega⟩)
theorem gX11_commonDivisor_L9 {p0 p2 : Int} {M : Mem} {Q : Int → Mem → Prop} (hQ : ∀ z : Int, 1 ≤ z → Q z M) : ∀ (n : Nat) (v4 v6 v8 : Int), lR v4 → lR v6 → (1 ≤ v4 ∨ v8 = 0 ∧ 0 < v6) → (0 ≤ v8 ∧ v8 ≤ 100) → 100 - v8 < (n : Int) → qX11_commonDivisor_L9 p0 p2 Q n v4 v6 v8 M := by
  intro n
  induction n with
  | zero => intro v4 v6 v8 h4 h6 ha hv hm; exact absurd hm (by omega)
  | succ n ih =>
    intro v4 v6 v8 h4 h6 ha hv hm
    rw [qX11_commonDivisor_L9]
    refine ⟨⟨by omega, by omega⟩, ⟨fun c => ⟨h4, hQ _ (by omega)⟩, fun c => ⟨h6, ?_⟩⟩⟩
    intro x5 _ c5
    refine ⟨fun c2 => ⟨h4, hQ _ (by omega)⟩, fun c2 => ⟨by omega, ?_⟩⟩
    intro x9 _ r9
    exact ih _ _ _ h6 r9 (Or.inl (by omega)) (by omega) (by omega)
theorem gX11_rains {p1 p2 p3 : Int} {M : Mem} {Q : Int → Mem → Prop} (hI : IX M) (hQ : ∀ (z : Int) (M' : Mem), IX M' → (z = if (1 ≤ p1 ∧ p1 ≤ 12) ∧ (0 ≤ p2 ∧ p2 ≤ 12) ∧ (0 ≤ p3 ∧ p3 ≤ 10) then 0 else -1) → Q z M') : qX11_rains p1 p2 p3 M Q := by
  unfold qX11_rains
  refine ⟨fun c => hQ _ _ hI (by rw [if_neg (by omega)]), fun c1 => ⟨fun c => hQ _ _ hI (by rw [if_neg (by omega)]), fun c2 => ⟨fun c => hQ _ _ hI (by rw [if_neg (by omega)]), fun c3 => ⟨fun c => hQ _ _ hI (by rw [if_neg (by omega)]), fun c4 => ⟨fun c => hQ _ _ hI (by rw [if_neg (by omega)]), fun c5 => ⟨fun c6 => ?_, fun c => hQ _ _ hI (by rw [if_neg (by omega)])⟩⟩⟩⟩⟩⟩
  refine ⟨13, ?_⟩
  refine fzX11_rains_L42 (Q := fun _ _ => True) ?_ _ _ _ _ _ (sX11_rains_L42 (p1 := p1) (p2 := p2) (p3 := p3) (X112 := fun w M' => IX M' ∧ lR w) (Q := fun _ _ => True) (fun _ _ _ => trivial) (fun w M' h hw => ⟨h, hw⟩) 13 0 1 0 M hI (by omega) ⟨by decide, by decide⟩ ⟨by decide, by decide⟩ (by omega))
  intro v4 M' hx
  obtain ⟨h', hw⟩ := hx
  have hb := p10_b (z := p1) (by omega)
  have hl : lR (p10 p1) := show -9223372036854775808 ≤ p10 p1 ∧ p10 p1 ≤ 9223372036854775807 from ⟨by omega, by omega⟩
  refine ⟨13, gX11_power10_L5 ⟨by omega, by omega⟩ ?_ _ _ _ rfl (by omega) (by omega)⟩
  intro _
  refine ⟨hw, ⟨101, gX11_commonDivisor_L9 ?_ _ _ _ _ hw hl (Or.inr ⟨rfl, by omega⟩) (by omega) (by omega)⟩⟩
  intro z hz _ x29 _ c29
  refine ⟨fun c7 => ⟨by omega, ?_⟩, fun c7 => by omega⟩
  intro x32 _ r32
  refine ⟨by omega, ?_⟩
  intro x34 _ r34
  refine sX4_tellTwo h' ?_
  intro M35 h35
  exact hQ _ _ h35 (by rw [if_pos ⟨by omega, by omega, by omega⟩])
end
section
/-! ===== Int32 by its bits: bt x i ===== -/
def bt (x : Int32) (i : Nat) : Bool := x.toBitVec.getLsbD i
theorem b_ext {x y : Int32} (h : ∀ i, i < 32 → bt x i = bt y i) : x = y := Int32.toBitVec_inj.mp (BitVec.eq_of_getLsbD_eq (fun i hi => h i hi))
theorem b_or (x y : Int32) (i : Nat) : bt (x ||| y) i = (bt x i || bt y i) := by unfold bt; rw [Int32.toBitVec_or, BitVec.getLsbD_or]
theorem b_and (x y : Int32) (i : Nat) : bt (x &&& y) i = (bt x i && bt y i) := by unfold bt; rw [Int32.toBitVec_and, BitVec.getLsbD_and]
theorem b_big {x : Int32} {i : Nat} (h : 32 ≤ i) : bt x i = false := BitVec.getLsbD_of_ge _ _ h
theorem b_255 (i : Nat) : bt 255 i = decide (i < 8) := by
  rcases Nat.lt_or_ge i 32 with h | h
  · exact (by decide +kernel : ∀ i, i < 32 → bt 255 i = decide (i < 8)) i h
  · rw [b_big h, decide_eq_false (by omega)]
theorem b_0 (i : Nat) : bt 0 i = false := BitVec.getLsbD_zero
theorem s_l : ∀ n, n < 32 → ((nI n &&& 31).toBitVec.smod 32).toNat = n := by decide +kernel
theorem s_u : ∀ n, n < 32 → (((nI n).toUInt32 &&& Int32.toUInt32 31).toBitVec % 32).toNat = n := by decide +kernel
theorem b_shl (n : Nat) (hn : n < 32) (x : Int32) {i : Nat} (hi : i < 32) : bt (x <<< (nI n &&& 31)) i = (decide (n ≤ i) && bt x (i - n)) := by
  unfold bt
  rw [Int32.toBitVec_shiftLeft]
  show (x.toBitVec <<< ((nI n &&& 31).toBitVec.smod 32).toNat).getLsbD i = _
  rw [s_l n hn, BitVec.getLsbD_shiftLeft]
  rcases Nat.lt_or_ge i n with h | h
  · simp [h, Nat.not_le.mpr h]
  · simp [hi, h, Nat.not_lt.mpr h]
theorem b_ushr (n : Nat) (hn : n < 32) (x : Int32) (i : Nat) : bt ((x.toUInt32 >>> ((nI n).toUInt32 &&& Int32.toUInt32 31)).toInt32) i = bt x (n + i) := by
  show (x.toUInt32 >>> ((nI n).toUInt32 &&& Int32.toUInt32 31)).toBitVec.getLsbD i = x.toUInt32.toBitVec.getLsbD (n + i)
  rw [UInt32.toBitVec_shiftRight]
  show (x.toUInt32.toBitVec >>> (((nI n).toUInt32 &&& Int32.toUInt32 31).toBitVec % 32).toNat).getLsbD i = _
  rw [s_u n hn, BitVec.getLsbD_ushiftRight]
theorem b_sshr (n : Nat) (hn : n < 32) (x : Int32) {i : Nat} (hi : i < 32) : bt (x >>> (nI n &&& 31)) i = if n + i < 32 then bt x (n + i) else bt x 31 := by
  unfold bt
  rw [Int32.toBitVec_shiftRight]
  show (x.toBitVec.sshiftRight ((nI n &&& 31).toBitVec.smod 32).toNat).getLsbD i = _
  rw [s_l n hn, BitVec.getLsbD_sshiftRight, BitVec.msb_eq_getLsbD_last]
  simp [hi]
end
section
/-! THE TEXT'S SIGNS: they are the same on both sides; avenue and weather answer the same by them -/
theorem us_key (n : Nat) (hn : n ≤ 24) (x : Int32) : ((x.toUInt32 >>> ((nI n).toUInt32 &&& Int32.toUInt32 31)).toInt32) &&& (255 : Int32) = (x >>> (nI n &&& 31)) &&& (255 : Int32) := by
  refine b_ext (fun i hi => ?_)
  rw [b_and, b_and, b_255, b_ushr n (by omega), b_sshr n (by omega) x hi]
  by_cases h8 : i < 8
  · rw [if_pos (show n + i < 32 by omega)]
  · rw [decide_eq_false h8, Bool.and_false, Bool.and_false]
theorem us_sr {v s : Int} (hs : s = 0 ∨ s = 8 ∨ s = 16 ∨ s = 24) : aI (usI v s) 255 = aI (srI v s) 255 := by
  unfold aI usI srI
  rw [iI_toI, iI_toI, show iI 255 = (255 : Int32) from by decide]
  rcases hs with rfl | rfl | rfl | rfl
  · rw [show iI 0 = nI 0 from by decide, us_key 0 (by decide)]
  · rw [show iI 8 = nI 8 from by decide, us_key 8 (by decide)]
  · rw [show iI 16 = nI 16 from by decide, us_key 16 (by decide)]
  · rw [show iI 24 = nI 24 from by decide, us_key 24 (by decide)]
def byt (v i : Int) : Int := aI (srI v (24 - 8 * i)) 255
theorem gX9_addFour_C {p1 : Int} {Q : Int → Mem → Prop} {L : Int} {M0 : Mem} (hQ : ∀ M' : Mem, IX M' → M' 156 1 = L + 4 → (∀ j, 0 ≤ j → j < L → M' 157 j = M0 157 j) → (∀ i, 0 ≤ i → i < 4 → M' 157 (L + i) = byt p1 i) → Q 1 M') : ∀ (n : Nat) (v2 : Int) (M : Mem), IX M → (8 * M 156 1 + v2 = 8 * L + 24 ∧ -8 ≤ v2 ∧ v2 ≤ 24 ∧ 0 ≤ L ∧ L ≤ 76) → (∀ j, 0 ≤ j → j < L → M 157 j = M0 157 j) → (∀ i, 0 ≤ i → i < M 156 1 - L → M 157 (L + i) = byt p1 i) → v2 + 8 < (n : Int) → qX9_addFour_L16 p1 Q n v2 M := by
  intro n
  induction n with
  | zero => intro v2 M hI hv h0 h1 hm; exact absurd hm (by omega)
  | succ n ih =>
    intro v2 M hI hv h0 h1 hm
    rw [qX9_addFour_L16]
    refine ⟨⟨by omega, by omega⟩, ⟨fun c => hQ _ hI (by omega) h0 (fun i a q => h1 i a (by omega)), fun c => ?_⟩⟩
    intro x6 e6 _ x7 e7 _ x8 e8 _
    have b6 : 0 ≤ x6 ∧ x6 ≤ 80 := by rw [e6]; exact bx_c156_1.mp (hI.bx _ _)
    have f8 := aI_255 x7
    rw [← e8] at f8
    refine ⟨by omega, by omega, ?_⟩
    intro M11 h11 x12 e12 _
    have i11 : IX M11 := by rw [h11]; exact hI.up (by decide) (bx_c157.mpr ⟨by omega, by omega⟩)
    have f12 : x12 = x6 := by rw [e12, h11, up2_n (by decide), e6]
    refine ⟨⟨by omega, by omega⟩, ?_⟩
    intro M14 h14
    have i14 : IX M14 := by rw [h14]; exact i11.up (by decide) (bx_c156_1.mpr ⟨by omega, by omega⟩)
    have k14 : M14 156 1 = x6 + 1 := by rw [h14, up2_s, f12]
    have hb : x8 = byt p1 (x6 - L) := by
      unfold byt
      rw [e8, e7, us_sr (by omega), show 24 - 8 * (x6 - L) = v2 from by omega]
    refine ih _ _ i14 ⟨by omega, by omega, by omega, by omega, by omega⟩ ?_ ?_ (by omega)
    · intro j a q
      rw [h14, up2_n (by decide), h11, up2_j (by omega)]
      exact h0 j a q
    · intro i a q
      rw [h14, up2_n (by decide), h11]
      by_cases ci : L + i = x6
      · rw [ci, up2_s, hb, show x6 - L = i from by omega]
      · rw [up2_j ci]
        exact h1 i a (by omega)
theorem gX11_signC {p1 : Int} {M : Mem} {Q : Int → Mem → Prop} (hI : IX M) (hQ : ∀ (z : Int) (M' : Mem), IX M' → (77 ≤ M 156 1 ∧ z = -1 ∧ M' 156 1 = M 156 1 ∧ (∀ j, M' 157 j = M 157 j) ∨ M 156 1 ≤ 76 ∧ z = M 156 1 + 4 ∧ M' 156 1 = M 156 1 + 4 ∧ (∀ j, 0 ≤ j → j < M 156 1 → M' 157 j = M 157 j) ∧ (∀ i, 0 ≤ i → i < 4 → M' 157 (M 156 1 + i) = byt p1 i)) → Q z M') : qX11_sign p1 M Q := by
  unfold qX11_sign qX9_addFour
  intro x1 e1 _
  have b1 : 0 ≤ x1 ∧ x1 ≤ 80 := by rw [e1]; exact bx_c156_1.mp (hI.bx _ _)
  refine ⟨⟨by omega, by omega⟩, ⟨fun c => ⟨40, ?_⟩, fun c => ?_⟩⟩
  · refine gX9_addFour_C (L := x1) (M0 := M) ?_ _ _ _ hI (by omega) (fun _ _ _ => rfl) (fun i a q => by omega) (by omega)
    intro M' i' h' k0 k1 _ _
    refine ⟨fun q => absurd q (by decide), fun _ => ?_⟩
    intro x3 e3 _
    exact hQ _ _ i' (Or.inr ⟨by omega, by rw [e3, h', e1], by rw [h', e1], by rw [← e1]; exact k0, by rw [← e1]; exact k1⟩)
  · intro _ _
    exact ⟨fun _ => hQ _ _ hI (Or.inl ⟨by omega, rfl, rfl, fun _ => rfl⟩), fun q => absurd rfl q⟩
theorem gX12_sign_C {p1 b L : Int} {X53 : Mem → Prop} {Q : Int → Mem → Prop} {M0 : Mem} (hX : ∀ M' : Mem, IM b M' → M' 1 14 = L → (∀ j, 0 ≤ j → j < L → M' 7 j = M0 7 j) → (∀ i, 0 ≤ i → i < 4 → M' 7 (L + i) = byt p1 i) → X53 M') : ∀ (n : Nat) (v2 : Int) (M : Mem), IM b M → M 1 14 = L → (∀ j, 0 ≤ j → j < L → M 7 j = M0 7 j) → (∀ i, 0 ≤ i → i < v2 → M 7 (L + i) = byt p1 i) → (0 ≤ v2 ∧ v2 ≤ 4 ∧ L ≤ 76) → 4 - v2 < (n : Int) → qX12_sign_L18 p1 X53 Q n v2 M := by
  intro n
  induction n with
  | zero => intro v2 M hI hL h0 h1 hv hm; exact absurd hm (by omega)
  | succ n ih =>
    intro v2 M hI hL h0 h1 hv hm
    rw [qX12_sign_L18]
    refine ⟨⟨by omega, by omega⟩, ⟨fun c => hX _ hI hL h0 (fun i a q => h1 i a (by omega)), fun c => ?_⟩⟩
    intro x6 e6 _ x7 e7 _ x8 e8 _
    have b6 : 0 ≤ x6 ∧ x6 ≤ 80 := by rw [e6]; exact bm_c1_14.mp (hI.bx _ _)
    have f8 := aI_255 x7
    rw [← e8] at f8
    refine ⟨by omega, by omega, ?_⟩
    intro M11 h11
    refine ih _ _ (by rw [h11]; exact hI.up (by omega) (bm_c7.mpr ⟨by omega, by omega⟩)) (by rw [h11, up2_n (by decide)]; exact hL) ?_ ?_ (by omega) (by omega)
    · intro j a q
      rw [h11, up2_j (by omega)]
      exact h0 j a q
    · intro i a q
      rw [h11]
      by_cases ci : i = v2
      · rw [ci, show L + v2 = x6 + v2 from by omega, up2_s, e8, e7]
        rfl
      · rw [up2_j (by omega)]
        exact h1 i a (by omega)
theorem gX12_signC {p1 b : Int} {M : Mem} {Q : Int → Mem → Prop} (hI : IM b M) (hQ : ∀ (z : Int) (M' : Mem), IM b M' → (77 ≤ M 1 14 ∧ z = -1 ∧ M' 1 14 = M 1 14 ∧ (∀ j, M' 7 j = M 7 j) ∨ M 1 14 ≤ 76 ∧ z = M 1 14 + 4 ∧ M' 1 14 = M 1 14 + 4 ∧ (∀ j, 0 ≤ j → j < M 1 14 → M' 7 j = M 7 j) ∧ (∀ i, 0 ≤ i → i < 4 → M' 7 (M 1 14 + i) = byt p1 i)) → Q z M') : qX12_sign p1 M Q := by
  unfold qX12_sign
  intro M1 h1 x2 e2 _
  have i1 : IM b M1 := by rw [h1]; exact hI.up (by omega) (by simp [BM])
  have f2 : x2 = M 1 14 := by rw [e2, h1, up2_j (by decide)]
  have b2 : 0 ≤ x2 ∧ x2 ≤ 80 := by rw [e2]; exact bm_c1_14.mp (i1.bx _ _)
  have g1 : M1 1 14 = M 1 14 := by rw [h1, up2_j (by decide)]
  refine ⟨fun c => ⟨5, ?_⟩, fun c => hQ _ _ i1 (Or.inl ⟨by omega, rfl, g1, fun j => by rw [h1, up2_n (by decide)]⟩)⟩
  refine gX12_sign_C (b := b) (L := M 1 14) (M0 := M) ?_ _ _ _ i1 g1 (fun j _ _ => by rw [h1, up2_n (by decide)]) (fun i a q => by omega) (by omega) (by omega)
  intro M' i' h' k0 k1 x13 e13 _
  refine ⟨⟨by omega, by omega⟩, ?_⟩
  intro M15 h15 x16 e16 _
  have k15 : M15 1 14 = M 1 14 + 4 := by rw [h15, up2_s]; omega
  exact hQ _ _ (by rw [h15]; exact i'.up (by omega) (bm_c1_14.mpr ⟨by omega, by omega⟩)) (Or.inr ⟨by omega, by rw [e16, k15], k15, fun j a q => by rw [h15, up2_n (by decide)]; exact k0 j a q, fun i a q => by rw [h15, up2_n (by decide)]; exact k1 i a q⟩)
-- avenue: the first sign that can't stand there
def vA (c : Int) : Prop := c = 46 ∨ c = 99
def AV (f : Int → Int) (len q : Int) : Prop := (0 ≤ q ∧ q ≤ len ∧ q ≤ 30) ∧ (∀ i, 0 ≤ i → i < q → vA (f i)) ∧ (q = len ∨ q = 30 ∨ ¬ vA (f q))
def avz (len q : Int) : Int := if q = len ∧ 4 ≤ q then q else -1 - q
theorem AV.uq {f g : Int → Int} {len p q : Int} (h : AV f len p) (h2 : AV g len q) (hf : ∀ j, 0 ≤ j → j < len → f j = g j) : p = q := by
  obtain ⟨a, b, c⟩ := h
  obtain ⟨a2, b2, c2⟩ := h2
  rcases Int.lt_or_le p q with h | h
  · exfalso
    have := b2 p a.1 h
    rcases c with c | c | c
    · omega
    · omega
    · exact c (by rw [hf p a.1 (by omega)]; exact this)
  · rcases Int.lt_or_le q p with h' | h'
    · exfalso
      have := b q a2.1 h'
      rcases c2 with c | c | c
      · omega
      · omega
      · exact c (by rw [← hf q a2.1 (by omega)]; exact this)
    · omega
theorem gX11_avenueFault_L2 {X48 : Mem → Prop} {Q : Int → Mem → Prop} {M : Mem} (hI : IX M) (hX : AV (M 157) (M 156 1) (M 156 1) → X48 M) (hQ : ∀ q : Int, q < M 156 1 → AV (M 157) (M 156 1) q → Q q M) : ∀ (n : Nat) (v1 : Int), (0 ≤ v1 ∧ v1 ≤ 30 ∧ v1 ≤ M 156 1) → (∀ i, 0 ≤ i → i < v1 → vA (M 157 i)) → 30 - v1 < (n : Int) → qX11_avenueFault_L2 X48 Q n v1 M := by
  intro n
  induction n with
  | zero => intro v1 hv ha hm; exact absurd hm (by omega)
  | succ n ih =>
    intro v1 hv ha hm
    rw [qX11_avenueFault_L2]
    intro x1 e1 _
    have b1 : 0 ≤ x1 ∧ x1 ≤ 80 := by rw [e1]; exact bx_c156_1.mp (hI.bx _ _)
    refine ⟨⟨by omega, by omega⟩, ⟨fun c => ?_, fun c => ?_⟩⟩
    · have e : M 156 1 = v1 := by omega
      rw [e] at hX
      exact hX ⟨by omega, ha, Or.inl rfl⟩
    · unfold qX9_signAt
      refine ⟨fun c2 => by omega, fun _ => ?_⟩
      intro x2 e2 _
      refine ⟨fun c3 => by omega, fun _ => ⟨by omega, by omega, ?_⟩⟩
      intro x6 e6 _ _
      refine ⟨fun c4 => hQ _ (by omega) ⟨by omega, ha, Or.inr (Or.inl c4)⟩, fun c4 => ⟨fun c5 => ?_, fun c5 => ⟨fun c6 => ?_, fun c6 => ?_⟩⟩⟩
      · refine ih _ (by omega) (fun i a q => ?_) (by omega)
        by_cases ci : i = v1
        · rw [ci, ← e6]; exact Or.inl c5
        · exact ha i a (by omega)
      · refine ih _ (by omega) (fun i a q => ?_) (by omega)
        by_cases ci : i = v1
        · rw [ci, ← e6]; exact Or.inr c6
        · exact ha i a (by omega)
      · refine hQ _ (by omega) ⟨by omega, ha, Or.inr (Or.inr (fun q => ?_))⟩
        rw [← e6] at q
        rcases q with q | q
        · exact c5 q
        · exact c6 q
-- takesOf
theorem gX12_takesOf_L2 {bs : List Int} {X38 : Int → Mem → Prop} {Q : Int → Mem → Prop} {b : Int} {M : Mem} (hI : IM b M) (hl : (bs.length : Int) ≤ 7) (hX : ∀ z : Int, M 1 15 < M 1 16 → (0 ≤ z ∧ z < bs.length) → bs.getD z.toNat 0 = M 7 (M 1 15) → X38 z M) (hQ : (M 1 16 ≤ M 1 15 ∨ ∀ i : Int, 0 ≤ i → i < bs.length → bs.getD i.toNat 0 ≠ M 7 (M 1 15)) → Q (-1) M) : ∀ (n : Nat) (v2 : Int), (0 ≤ v2 ∧ v2 ≤ bs.length) → (∀ i : Int, 0 ≤ i → i < v2 → bs.getD i.toNat 0 ≠ M 7 (M 1 15)) → (bs.length : Int) - v2 < (n : Int) → qX12_takesOf_L2 bs X38 Q n v2 M := by
  intro n
  induction n with
  | zero => intro v2 hv ha hm; exact absurd hm (by omega)
  | succ n ih =>
    intro v2 hv ha hm
    rw [qX12_takesOf_L2]
    intro x1 e1 _
    refine ⟨⟨by omega, by omega⟩, ⟨fun c => hQ (Or.inr (fun i a q => ha i a (by omega))), fun c => ?_⟩⟩
    intro x4 e4 _ x5 e5 _
    have b4 : 0 ≤ x4 ∧ x4 ≤ 80 := by rw [e4]; exact bm_c1_15.mp (hI.bx _ _)
    have b5 : 0 ≤ x5 ∧ x5 ≤ 80 := by rw [e5]; exact bm_c1_16.mp (hI.bx _ _)
    refine ⟨fun c2 => hQ (Or.inl (by omega)), fun c2 => ⟨by omega, by omega, ?_⟩⟩
    intro x9 e9 _ x10 e10 _
    refine ⟨by omega, by omega, ?_⟩
    intro x13 e13 _
    refine ⟨fun c3 => ih _ (by omega) (fun i a q => ?_) (by omega), fun c3 => hX _ (by omega) (by omega) (by rw [← e9, c3, e13, e10])⟩
    by_cases ci : i = v2
    · rw [ci, ← e9, ← e10, ← e13]; exact c3
    · exact ha i a (by omega)
theorem gX12_takesOf {bs : List Int} {Q : Int → Mem → Prop} {b : Int} {M : Mem} (hI : IM b M) (hl : (bs.length : Int) ≤ 7) (hQ : ∀ (z : Int) (M' : Mem), IM b M' → FrJ (fun k j => k = 1 ∧ j = 15) M M' → ((M 1 15 < M 1 16 ∧ (0 ≤ z ∧ z < bs.length) ∧ bs.getD z.toNat 0 = M 7 (M 1 15) ∧ M' 1 15 = M 1 15 + 1) ∨ (z = -1 ∧ M' 1 15 = M 1 15 ∧ (M 1 16 ≤ M 1 15 ∨ ∀ i : Int, 0 ≤ i → i < bs.length → bs.getD i.toNat 0 ≠ M 7 (M 1 15)))) → Q z M') : qX12_takesOf bs M Q := by
  unfold qX12_takesOf
  have b5 := bm_c1_16.mp (hI.bx 1 16)
  refine ⟨bs.length + 1, gX12_takesOf_L2 hI hl ?_ (fun h => hQ _ _ hI FrJ.rf (Or.inr ⟨rfl, rfl, h⟩)) _ _ (by omega) (fun i a q => by omega) (by omega)⟩
  intro z h1 h2 h3 x16 e16 _
  have b4 : 0 ≤ x16 ∧ x16 ≤ 80 := by rw [e16]; exact bm_c1_15.mp (hI.bx _ _)
  refine ⟨⟨by omega, by omega⟩, ?_⟩
  intro M18 h18
  refine ⟨⟨by omega, by omega⟩, hQ _ _ (by rw [h18]; exact hI.up (by omega) (bm_c1_15.mpr ⟨by omega, by omega⟩)) (by rw [h18]; exact FrJ.rf.up ⟨rfl, rfl⟩) (Or.inl ⟨h1, h2, h3, by rw [h18, up2_s, e16]⟩)⟩
theorem gX12_begins {p1 b : Int} {M : Mem} {Q : Int → Mem → Prop} (hI : IM b M) (hp : 0 ≤ p1 ∧ p1 ≤ 80) (hQ : ∀ M' : Mem, IM b M' → FrJ (fun k j => k = 1 ∧ (j = 14 ∨ j = 15 ∨ j = 16 ∨ j = 17)) M M' → M' 1 15 = 0 → M' 1 16 = min (M 1 14) p1 → M' 1 17 = 0 → M' 1 14 = 0 → Q (M 1 14) M') : qX12_begins p1 M Q := by
  have b14 := bm_c1_14.mp (hI.bx 1 14)
  unfold qX12_begins
  intro x1 e1 _ M2 h2 M3 h3 M4 h4 x5 e5 _ M6 h6
  have i2 : IM b M2 := by rw [h2]; exact hI.up (by omega) (bm_c1_14.mpr (by decide))
  have i3 : IM b M3 := by rw [h3]; exact i2.up (by omega) (bm_c1_15.mpr (by decide))
  have i4 : IM b M4 := by rw [h4]; exact i3.up (by omega) (by simp [BM])
  have i6 : IM b M6 := by rw [h6]; exact i4.up (by omega) (bm_c1_16.mpr ⟨by omega, by omega⟩)
  rw [e1]
  refine hQ _ i6 ?_ ?_ ?_ ?_ ?_
  · rw [h6, h4, h3, h2]
    exact (((FrJ.rf.up (by omega)).up (by omega)).up (by omega)).up (by omega)
  · rw [h6, up2_j (by decide), h4, up2_j (by decide), h3, up2_s]
  · rw [h6, up2_s, e5, e1]
  · rw [h6, up2_j (by decide), h4, up2_s]
  · rw [h6, up2_j (by decide), h4, up2_j (by decide), h3, up2_j (by decide), h2, up2_s]
end
section
/-! READING THE TEXT: digits and numbers, the same on both sides -/
def vW (c : Int) : Prop := 48 ≤ c ∧ c ≤ 57
def nmV (f : Int → Int) (a : Int) : Nat → Int
  | 0 => 0
  | k + 1 => 10 * nmV f a k + f (a + k) - 48
theorem nmV_cg {f g : Int → Int} {a : Int} (k : Nat) (h : ∀ i : Int, 0 ≤ i → i < k → f (a + i) = g (a + i)) : nmV f a k = nmV g a k := by
  induction k with
  | zero => rfl
  | succ k ih =>
    unfold nmV
    rw [ih (fun i p q => h i p (by omega)), h k (by omega) (by omega)]
theorem nmV_b {f : Int → Int} {a : Int} (k : Nat) (h : ∀ i : Int, 0 ≤ i → i < k → vW (f (a + i))) : 0 ≤ nmV f a k ∧ (k ≤ 1 → nmV f a k ≤ 9) ∧ (k ≤ 2 → nmV f a k ≤ 99) ∧ (k ≤ 3 → nmV f a k ≤ 999) := by
  induction k with
  | zero => exact ⟨Int.le_refl _, fun _ => by show (0 : Int) ≤ 9; decide, fun _ => by show (0 : Int) ≤ 99; decide, fun _ => by show (0 : Int) ≤ 999; decide⟩
  | succ k ih =>
    have i := ih (fun i p q => h i p (by omega))
    have d := h k (by omega) (by omega)
    have d1 : 48 ≤ f (a + k) := d.1
    have d2 : f (a + k) ≤ 57 := d.2
    have z0 : k = 0 → nmV f a k = 0 := fun e => by rw [e]; rfl
    unfold nmV
    refine ⟨by omega, fun q => ?_, fun q => ?_, fun q => ?_⟩
    · have := z0 (by omega)
      omega
    · have := i.2.1 (by omega)
      omega
    · have := i.2.2.1 (by omega)
      omega
theorem nmV_s {f : Int → Int} {a k : Int} (h : 0 ≤ k) : nmV f a (k + 1).toNat = 10 * nmV f a k.toNat + f (a + k) - 48 := by
  rw [show (k + 1).toNat = k.toNat + 1 from by omega]
  show 10 * nmV f a k.toNat + f (a + (k.toNat : Nat)) - 48 = _
  rw [show ((k.toNat : Nat) : Int) = k from by omega]
/-- a number of p digits at most stands at a: z (-1: none), a' is behind it -/
def NUM (f : Int → Int) (a t p z a' : Int) : Prop := (z = -1 ∧ a' = a ∧ ¬ (a < t ∧ vW (f a))) ∨ (∃ k : Int, (1 ≤ k ∧ k ≤ p) ∧ a' = a + k ∧ a + k ≤ t ∧ (∀ i, 0 ≤ i → i < k → vW (f (a + i))) ∧ (k = p ∨ t ≤ a + k ∨ ¬ vW (f (a + k))) ∧ z = nmV f a k.toNat)
theorem NUM.b {f : Int → Int} {a t p z a' : Int} (h : NUM f a t p z a') (hp : p ≤ 3) : -1 ≤ z ∧ z ≤ 999 ∧ (p = 1 → z ≤ 9) ∧ (p = 2 → z ≤ 99) ∧ a ≤ a' ∧ (a ≤ t → a' ≤ t) ∧ (0 ≤ z → a + 1 ≤ a') ∧ (z < 0 → a' = a) := by
  rcases h with ⟨h1, h2, _⟩ | ⟨k, hk, h2, h3, h4, _, h6⟩
  · exact ⟨by omega, by omega, fun _ => by omega, fun _ => by omega, by omega, fun _ => by omega, fun _ => by omega, fun _ => by omega⟩
  · have b := nmV_b (f := f) (a := a) k.toNat (fun i p q => h4 i p (by omega))
    rw [← h6] at b
    exact ⟨by omega, b.2.2.2 (by omega), fun e => b.2.1 (by omega), fun e => b.2.2.1 (by omega), by omega, fun _ => by omega, fun _ => by omega, fun _ => by omega⟩
theorem NUM.uq {f g : Int → Int} {a t p z a' z2 a2 : Int} (h : NUM f a t p z a') (h2 : NUM g a t p z2 a2) (hf : ∀ j, a ≤ j → j < t → f j = g j) : z = z2 ∧ a' = a2 := by
  rcases h with ⟨h1, h3, hn⟩ | ⟨k, hk, h3, h4, h5, h6, h7⟩
  · rcases h2 with ⟨g1, g3, gn⟩ | ⟨k2, gk, g3, g4, g5, g6, g7⟩
    · omega
    · exfalso
      have := g5 0 (by omega) (by omega)
      rw [show a + 0 = a from by omega] at this
      exact hn ⟨by omega, by rw [hf a (by omega) (by omega)]; exact this⟩
  · rcases h2 with ⟨g1, g3, gn⟩ | ⟨k2, gk, g3, g4, g5, g6, g7⟩
    · exfalso
      have := h5 0 (by omega) (by omega)
      rw [show a + 0 = a from by omega] at this
      exact gn ⟨by omega, by rw [← hf a (by omega) (by omega)]; exact this⟩
    · have ek : k = k2 := by
        rcases Int.lt_or_le k k2 with w | w
        · exfalso
          have := g5 k (by omega) w
          rcases h6 with c | c | c
          · omega
          · omega
          · exact c (by rw [hf (a + k) (by omega) (by omega)]; exact this)
        · rcases Int.lt_or_le k2 k with w2 | w2
          · exfalso
            have := h5 k2 (by omega) w2
            rcases g6 with c | c | c
            · omega
            · omega
            · exact c (by rw [← hf (a + k2) (by omega) (by omega)]; exact this)
          · omega
      subst ek
      refine ⟨?_, by omega⟩
      rw [h7, g7]
      exact nmV_cg _ (fun i p q => hf _ (by omega) (by omega))
abbrev kA (k : Nat) (j : Int) : Prop := k = 156 ∧ j = 2
theorem gX9_look {M : Mem} {Q : Int → Mem → Prop} (hI : IX M) (hQ : ∀ z : Int, (M 156 2 < M 156 3 ∧ z = M 157 (M 156 2) ∨ M 156 3 ≤ M 156 2 ∧ z = -1) → Q z M) : qX9_look M Q := by
  unfold qX9_look
  intro x1 e1 _ x2 e2 _
  have b1 : 0 ≤ x1 ∧ x1 ≤ 80 := by rw [e1]; exact bx_c156_2.mp (hI.bx _ _)
  have b2 : 0 ≤ x2 ∧ x2 ≤ 80 := by rw [e2]; exact bx_c156_3.mp (hI.bx _ _)
  refine ⟨fun c => hQ _ (Or.inr ⟨by omega, rfl⟩), fun c => ?_⟩
  intro x4 e4 _
  refine ⟨by omega, by omega, ?_⟩
  intro x7 e7 _
  exact hQ _ (Or.inl ⟨by omega, by rw [e7, e4]⟩)
theorem gX9_pass {M : Mem} {Q : Mem → Prop} (hI : IX M) (hQ : ∀ M' : Mem, IX M' → Ks kA M M' → (M 156 2 < M 156 3 ∧ M' 156 2 = M 156 2 + 1 ∨ M 156 3 ≤ M 156 2 ∧ M' 156 2 = M 156 2) → Q M') : qX9_pass M Q := by
  unfold qX9_pass
  intro x1 e1 _ x2 e2 _
  have b2 : 0 ≤ x2 ∧ x2 ≤ 80 := by rw [e2]; exact bx_c156_3.mp (hI.bx _ _)
  refine ⟨fun c => hQ _ hI Ks.rf (Or.inr ⟨by omega, rfl⟩), fun c => ?_⟩
  intro x4 e4 _
  have b4 : 0 ≤ x4 ∧ x4 ≤ 80 := by rw [e4]; exact bx_c156_2.mp (hI.bx _ _)
  refine ⟨⟨by omega, by omega⟩, ?_⟩
  intro M6 h6
  exact hQ _ (by rw [h6]; exact hI.up (by decide) (bx_c156_2.mpr ⟨by omega, by omega⟩)) (by rw [h6]; exact Ks.rf.wr ⟨rfl, rfl⟩) (Or.inl ⟨by omega, by rw [h6, up2_s, e4]⟩)
theorem gX9_back {M : Mem} {Q : Mem → Prop} (hI : IX M) (hQ : ∀ M' : Mem, IX M' → Ks kA M M' → (0 < M 156 2 → M' 156 2 = M 156 2 - 1) → Q M') : qX9_back M Q := by
  unfold qX9_back
  intro x1 e1 _
  refine ⟨fun c => hQ _ hI Ks.rf (fun q => by omega), fun c => ?_⟩
  intro x3 e3 _
  have b3 : 0 ≤ x3 ∧ x3 ≤ 80 := by rw [e3]; exact bx_c156_2.mp (hI.bx _ _)
  refine ⟨⟨by omega, by omega⟩, ?_⟩
  intro M5 h5
  exact hQ _ (by rw [h5]; exact hI.up (by decide) (bx_c156_2.mpr ⟨by omega, by omega⟩)) (by rw [h5]; exact Ks.rf.wr ⟨rfl, rfl⟩) (fun _ => by rw [h5, up2_s, e3])
theorem gX9_digit {M : Mem} {Q : Int → Mem → Prop} (hI : IX M) (hQ : ∀ (z : Int) (M' : Mem), IX M' → Ks kA M M' → ((M 156 2 < M 156 3 ∧ vW (M 157 (M 156 2))) ∧ z = M 157 (M 156 2) - 48 ∧ M' 156 2 = M 156 2 + 1 ∨ ¬ (M 156 2 < M 156 3 ∧ vW (M 157 (M 156 2))) ∧ z = -1 ∧ M' 156 2 = M 156 2) → Q z M') : qX9_digit M Q := by
  unfold qX9_digit
  refine gX9_look hI ?_
  intro x1 p1 _
  have hn : ¬ (48 ≤ x1 ∧ x1 ≤ 57) → Q (-1) M := fun w => hQ _ _ hI Ks.rf (Or.inr ⟨fun u => by
    have a : 48 ≤ M 157 (M 156 2) := u.2.1
    have b : M 157 (M 156 2) ≤ 57 := u.2.2
    omega, rfl, rfl⟩)
  refine ⟨fun c => hn (by omega), fun c => ⟨fun c2 => ?_, fun c2 => hn (by omega)⟩⟩
  refine gX9_pass hI ?_
  intro M4 i4 k4 p4
  refine ⟨⟨by omega, by omega⟩, hQ _ _ i4 k4 (Or.inl ⟨⟨by omega, ⟨by omega, by omega⟩⟩, by omega, by omega⟩)⟩
theorem gX9_number_L10 {p1 : Int} {Q : Int → Mem → Prop} {M0 : Mem} (hp : 1 ≤ p1 ∧ p1 ≤ 3) (hQ : ∀ (z : Int) (M' : Mem), IX M' → Ks kA M0 M' → NUM (M0 157) (M0 156 2) (M0 156 3) p1 z (M' 156 2) → Q z M') : ∀ (n : Nat) (v2 v3 v4 : Int) (M : Mem), IX M → Ks kA M0 M → (v3 = -1 ∧ v4 ≤ p1 + 1 ∧ NUM (M0 157) (M0 156 2) (M0 156 3) p1 v2 (M 156 2) ∨ 0 ≤ v3 ∧ v3 ≤ 9 ∧ M 156 2 = M0 156 2 + v4 ∧ M0 156 2 + v4 ≤ M0 156 3 ∧ (∀ i, 0 ≤ i → i < v4 → vW (M0 157 (M0 156 2 + i))) ∧ v2 = nmV (M0 157) (M0 156 2) v4.toNat ∧ v4 ≤ p1) → (1 ≤ v4) → (p1 - v4 < (n : Int) ∧ 0 < n) → qX9_number_L10 p1 Q n v2 v3 v4 M := by
  intro n
  induction n with
  | zero => intro v2 v3 v4 M hI hK hs hv hm; exact absurd hm.2 (by decide)
  | succ n ih =>
    intro v2 v3 v4 M hI hK hs hv hm
    rw [qX9_number_L10]
    have fin : v3 = -1 ∨ p1 ≤ v4 ∧ v4 ≤ p1 → iR v2 ∧ Q v2 M := by
      intro hf
      have hN : NUM (M0 157) (M0 156 2) (M0 156 3) p1 v2 (M 156 2) := by
        rcases hs with h | h
        · exact h.2.2
        · exact Or.inr ⟨v4, by omega, h.2.2.1, h.2.2.2.1, h.2.2.2.2.1, Or.inl (by omega), h.2.2.2.2.2.1⟩
      have b := hN.b hp.2
      exact ⟨⟨by omega, by omega⟩, hQ _ _ hI hK hN⟩
    have hv4 : v4 ≤ p1 + 1 := by rcases hs with h | h <;> omega
    by_cases cv : v3 = -1
    · refine ⟨⟨by omega, by omega⟩, ⟨fun c => fin (Or.inl cv), fun c => ⟨⟨by omega, by omega⟩, ⟨fun _ => fin (Or.inl cv), fun c2 => absurd cv c2⟩⟩⟩⟩
    · rcases hs with h | h
      · exact absurd h.1 cv
      · obtain ⟨h0, h9, ha, ht, hd, h2, hp4⟩ := h
        refine ⟨⟨by omega, by omega⟩, ⟨fun c => fin (Or.inr ⟨c, hp4⟩), fun c => ⟨⟨by omega, by omega⟩, ⟨fun c2 => absurd c2 cv, fun _ => ?_⟩⟩⟩⟩
        refine gX9_digit hI ?_
        intro x8 M8 i8 k8 p8 _
        have k156 : M 156 3 = M0 156 3 := hK 156 3 (by omega)
        have k157 : M 157 (M 156 2) = M0 157 (M0 156 2 + v4) := by rw [ha]; exact hK 157 _ (by omega)
        have K8 : Ks kA M0 M8 := hK.tr k8
        rw [k156, k157, ha] at p8
        refine ⟨fun c3 => ?_, fun c3 => ?_⟩
        · rcases p8 with q | q
          · have w1 : 48 ≤ M0 157 (M0 156 2 + v4) := q.1.2.1
            have w2 : M0 157 (M0 156 2 + v4) ≤ 57 := q.1.2.2
            refine ih _ _ _ _ i8 K8 (Or.inr ⟨by omega, by omega, by omega, by omega, fun i a w => ?_, ?_, by omega⟩) (by omega) ⟨by omega, by omega⟩
            · by_cases ci : i = v4
              · rw [ci]; exact q.1.2
              · exact hd i a (by omega)
            · rw [nmV_s (by omega), ← h2]
              omega
          · omega
        · rcases p8 with q | q
          · have w1 : 48 ≤ M0 157 (M0 156 2 + v4) := q.1.2.1
            omega
          · refine ih _ _ _ _ i8 K8 (Or.inl ⟨c3, by omega, Or.inr ⟨v4, by omega, by omega, ht, hd, ?_, h2⟩⟩) (by omega) ⟨by omega, by omega⟩
            by_cases ct : M0 156 3 ≤ M0 156 2 + v4
            · exact Or.inr (Or.inl ct)
            · exact Or.inr (Or.inr (fun w => q.1 ⟨by omega, w⟩))
theorem gX9_number {p1 : Int} {M : Mem} {Q : Int → Mem → Prop} (hI : IX M) (hp : 1 ≤ p1 ∧ p1 ≤ 3) (hQ : ∀ (z : Int) (M' : Mem), IX M' → Ks kA M M' → NUM (M 157) (M 156 2) (M 156 3) p1 z (M' 156 2) → Q z M') : qX9_number p1 M Q := by
  unfold qX9_number
  refine gX9_digit hI ?_
  intro x1 M1 i1 k1 p1' _
  refine ⟨4, gX9_number_L10 hp hQ _ _ _ _ _ i1 k1 ?_ (by omega) ⟨by omega, by omega⟩⟩
  rcases p1' with q | q
  · have w1 : 48 ≤ M 157 (M 156 2) := q.1.2.1
    have w2 : M 157 (M 156 2) ≤ 57 := q.1.2.2
    refine Or.inr ⟨by omega, by omega, q.2.2, by omega, fun i a w => ?_, ?_, by omega⟩
    · rw [show M 156 2 + i = M 156 2 from by omega]
      exact q.1.2
    · show x1 = 10 * 0 + M 157 (M 156 2 + ((0 : Nat) : Int)) - 48
      rw [show M 156 2 + ((0 : Nat) : Int) = M 156 2 from by omega]
      omega
  · refine Or.inl ⟨q.2.1, by omega, Or.inl ⟨q.2.1, q.2.2, q.1⟩⟩
abbrev k15 (k : Nat) (j : Int) : Prop := k = 1 ∧ j = 15
theorem gX12_number_L13 {p1 : Int} {Q : Int → Mem → Prop} {b : Int} {M0 : Mem} (hp : 1 ≤ p1 ∧ p1 ≤ 3) (hQ : ∀ (z : Int) (M' : Mem), IM b M' → FrJ (fun k j => k = 1 ∧ j = 15) M0 M' → NUM (M0 7) (M0 1 15) (M0 1 16) p1 z (M' 1 15) → Q z M') : ∀ (n : Nat) (v2 v3 : Int) (M : Mem), IM b M → FrJ (fun k j => k = 1 ∧ j = 15) M0 M → (0 ≤ v3 ∧ v3 ≤ p1) → M 1 15 = M0 1 15 + v3 → M0 1 15 + v3 ≤ M0 1 16 → (∀ i, 0 ≤ i → i < v3 → vW (M0 7 (M0 1 15 + i))) → v2 = nmV (M0 7) (M0 1 15) v3.toNat → (v3 = 0 → M0 1 15 < M0 1 16 ∧ vW (M0 7 (M0 1 15))) → p1 - v3 < (n : Int) → qX12_number_L13 p1 Q n v2 v3 M := by
  intro n
  induction n with
  | zero => intro v2 v3 M hI hF hv ha ht hd h2 h0 hm; exact absurd hm (by omega)
  | succ n ih =>
    intro v2 v3 M hI hF hv ha ht hd h2 h0 hm
    have bb := nmV_b (f := M0 7) (a := M0 1 15) v3.toNat (fun i a w => hd i a (by omega))
    rw [← h2] at bb
    have b3 := bb.2.2.2 (by omega)
    rw [qX12_number_L13]
    refine ⟨⟨by omega, by omega⟩, ⟨fun c => ⟨⟨by omega, by omega⟩, hQ _ _ hI hF (Or.inr ⟨v3, by omega, ha, ht, hd, Or.inl (by omega), h2⟩)⟩, fun c => ?_⟩⟩
    refine sX12_isDigit hI ?_
    intro x6 p6 _ _
    have k16 : M 1 16 = M0 1 16 := hF 1 16 (by omega)
    have k7 : M 7 (M 1 15) = M0 7 (M0 1 15 + v3) := by rw [ha]; exact hF 7 _ (by omega)
    rw [k7, k16, ha] at p6
    have b16 := bm_c1_16.mp (hI.bx 1 16)
    rw [k16] at b16
    refine ⟨fun c2 => ⟨⟨by omega, by omega⟩, hQ _ _ hI hF ?_⟩, fun c2 => ?_⟩
    · have n6 := p6.2.1 c2
      by_cases c0 : v3 = 0
      · exfalso
        have := h0 c0
        rw [c0, show M0 1 15 + 0 = M0 1 15 from by omega] at n6
        exact n6 ⟨this.1, b16.2, this.2.1, this.2.2⟩
      · refine Or.inr ⟨v3, by omega, ha, ht, hd, ?_, h2⟩
        by_cases ct : M0 1 16 ≤ M0 1 15 + v3
        · exact Or.inr (Or.inl ct)
        · exact Or.inr (Or.inr (fun w => n6 ⟨by omega, b16.2, w.1, w.2⟩))
    · have d6 := p6.1 (by omega)
      intro x9 e9 _
      have f9 : x9 = M0 1 15 + v3 := by rw [e9, ha]
      have b9 : 0 ≤ x9 ∧ x9 ≤ 80 := by rw [e9]; exact bm_c1_15.mp (hI.bx _ _)
      refine ⟨by omega, by omega, ?_⟩
      intro x12 e12 _ x13 e13 _
      refine ⟨⟨by omega, by omega⟩, ?_⟩
      intro M15 hE
      have f12 : x12 = M0 7 (M0 1 15 + v3) := by rw [e12, f9]; exact hF 7 _ (by omega)
      refine ih _ _ _ (by rw [hE]; exact hI.up (by omega) (bm_c1_15.mpr ⟨by omega, by omega⟩)) (by rw [hE]; exact hF.up ⟨rfl, rfl⟩) (by omega) (by rw [hE, up2_s, e13, ha]; omega) (by omega) (fun i a w => ?_) ?_ (fun q => by omega) (by omega)
      · by_cases ci : i = v3
        · rw [ci]; exact ⟨d6.2.2.1, d6.2.2.2⟩
        · exact hd i a (by omega)
      · rw [nmV_s hv.1, ← h2, f12]
theorem gX12_number {p1 : Int} {Q : Int → Mem → Prop} {b : Int} {M : Mem} (hI : IM b M) (hp : 1 ≤ p1 ∧ p1 ≤ 3) (hQ : ∀ (z : Int) (M' : Mem), IM b M' → FrJ (fun k j => k = 1 ∧ j = 15) M M' → NUM (M 7) (M 1 15) (M 1 16) p1 z (M' 1 15) → Q z M') : qX12_number p1 M Q := by
  unfold qX12_number
  refine sX12_isDigit hI ?_
  intro x1 p _ _
  have b16 := bm_c1_16.mp (hI.bx 1 16)
  refine ⟨fun c => ?_, fun c => ?_⟩
  · have d := p.1 (by omega)
    exact ⟨4, gX12_number_L13 hp hQ _ _ _ _ hI FrJ.rf (by omega) (by omega) (by omega) (fun i a w => by omega) rfl (fun _ => ⟨d.1, d.2.2.1, d.2.2.2⟩) (by omega)⟩
  · exact hQ _ _ hI FrJ.rf (Or.inl ⟨rfl, rfl, fun w => p.2.1 c ⟨w.1, b16.2, w.2.1, w.2.2⟩⟩)
-- weather: the first sign that can't stand there
def WV (f : Int → Int) (len q : Int) : Prop := (0 ≤ q ∧ q ≤ len ∧ q ≤ 20) ∧ (∀ i, 0 ≤ i → i < q → vW (f i)) ∧ (q = len ∨ q = 20 ∨ ¬ vW (f q))
def wvz (len q : Int) : Int := if q = len ∧ 1 ≤ q then q else -1 - q
theorem WV.uq {f g : Int → Int} {len p q : Int} (h : WV f len p) (h2 : WV g len q) (hf : ∀ j, 0 ≤ j → j < len → f j = g j) : p = q := by
  obtain ⟨a, b, c⟩ := h
  obtain ⟨a2, b2, c2⟩ := h2
  rcases Int.lt_or_le p q with h | h
  · exfalso
    have := b2 p a.1 h
    rcases c with c | c | c
    · omega
    · omega
    · exact c (by rw [hf p a.1 (by omega)]; exact this)
  · rcases Int.lt_or_le q p with h' | h'
    · exfalso
      have := b q a2.1 h'
      rcases c2 with c | c | c
      · omega
      · omega
      · exact c (by rw [← hf q a2.1 (by omega)]; exact this)
    · omega
theorem gX11_weatherFault_L2 {X48 : Mem → Prop} {Q : Int → Mem → Prop} {M : Mem} (hI : IX M) (hX : WV (M 157) (M 156 1) (M 156 1) → X48 M) (hQ : ∀ q : Int, q < M 156 1 → WV (M 157) (M 156 1) q → Q q M) : ∀ (n : Nat) (v1 : Int), (0 ≤ v1 ∧ v1 ≤ 20 ∧ v1 ≤ M 156 1) → (∀ i, 0 ≤ i → i < v1 → vW (M 157 i)) → 20 - v1 < (n : Int) → qX11_weatherFault_L2 X48 Q n v1 M := by
  intro n
  induction n with
  | zero => intro v1 hv ha hm; exact absurd hm (by omega)
  | succ n ih =>
    intro v1 hv ha hm
    rw [qX11_weatherFault_L2]
    intro x1 e1 _
    have b1 : 0 ≤ x1 ∧ x1 ≤ 80 := by rw [e1]; exact bx_c156_1.mp (hI.bx _ _)
    refine ⟨⟨by omega, by omega⟩, ⟨fun c => ?_, fun c => ?_⟩⟩
    · have e : M 156 1 = v1 := by omega
      rw [e] at hX
      exact hX ⟨by omega, ha, Or.inl rfl⟩
    · unfold qX9_signAt
      refine ⟨fun c2 => by omega, fun _ => ?_⟩
      intro x2 e2 _
      refine ⟨fun c3 => by omega, fun _ => ⟨by omega, by omega, ?_⟩⟩
      intro x6 e6 _ _
      have hn : ¬ (48 ≤ x6 ∧ x6 ≤ 57) → WV (M 157) (M 156 1) v1 := fun q => ⟨by omega, ha, Or.inr (Or.inr (fun w => q (by rw [e6]; exact w)))⟩
      refine ⟨fun c4 => hQ _ (by omega) ⟨by omega, ha, Or.inr (Or.inl c4)⟩, fun c4 => ⟨fun c5 => hQ _ (by omega) (hn (by omega)), fun c5 => ⟨fun c6 => ?_, fun c6 => hQ _ (by omega) (hn (by omega))⟩⟩⟩
      refine ih _ (by omega) (fun i a q => ?_) (by omega)
      by_cases ci : i = v1
      · rw [ci, ← e6]; exact ⟨by omega, c6⟩
      · exact ha i a (by omega)
end
section
/-! THE STEP, PURE: on a row of 38 numbers (cells 0 .., ranks 6 .., arrived 12, places 13 .., followed 21 .., graves 29 .., step 37) -/
theorem upS (f : Int → Int) (j v : Int) : up f j v j = v := by unfold up; rw [if_pos rfl]
theorem up_j {f : Int → Int} {j v i : Int} (h : i ≠ j) : up f j v i = f i := by unfold up; rw [if_neg h]
theorem up2_up (M : Mem) (k : Nat) (j v : Int) : up2 M k j v k = up (M k) j v := by unfold up2; rw [if_pos rfl]
def ab (x : Int) : Int := if 0 ≤ x then x else -x
theorem ab_e {x y : Int} (h1 : 0 ≤ x → y = x) (h2 : x < 0 → y = -x) : y = ab x := by
  unfold ab
  by_cases c : 0 ≤ x
  · rw [if_pos c]; exact h1 c
  · rw [if_neg c]; exact h2 (by omega)
theorem ab_b (x : Int) : 0 ≤ ab x ∧ (ab x = x ∨ ab x = -x) ∧ (0 ≤ x → ab x = x) ∧ (x < 0 → ab x = -x) := by
  unfold ab
  split <;> omega
/-- the last one of the first n that is on v -/
def onF (c : Int → Int) : Nat → Int → Int
  | 0, _ => -1
  | n + 1, v => if c n = v then (n : Int) else onF c n v
theorem onF_s {c : Int → Int} {i v : Int} (h : 0 ≤ i) : onF c (i + 1).toNat v = if c i = v then i else onF c i.toNat v := by
  rw [show (i + 1).toNat = i.toNat + 1 from by omega]
  show (if c (i.toNat : Nat) = v then ((i.toNat : Nat) : Int) else onF c i.toNat v) = _
  rw [show ((i.toNat : Nat) : Int) = i from by omega]
theorem onF_b (c : Int → Int) (n : Nat) (v : Int) : -1 ≤ onF c n v ∧ onF c n v < n := by
  induction n with
  | zero => exact ⟨by show (-1 : Int) ≤ -1; decide, by show (-1 : Int) < 0; decide⟩
  | succ n ih =>
    unfold onF
    split <;> omega
theorem onF_c {c : Int → Int} {n : Nat} {v : Int} (h : 0 ≤ onF c n v) : c (onF c n v) = v := by
  induction n with
  | zero => exact absurd h (by show ¬ (0 : Int) ≤ -1; decide)
  | succ n ih =>
    unfold onF at h ⊢
    by_cases e : c n = v
    · rw [if_pos e]; exact e
    · rw [if_neg e] at h ⊢; exact ih h
theorem onF_n {c : Int → Int} {n : Nat} {v : Int} (h : onF c n v < 0) : ∀ i : Int, 0 ≤ i → i < n → c i ≠ v := by
  induction n with
  | zero => intro i a q; omega
  | succ n ih =>
    intro i a q
    unfold onF at h
    by_cases e : c n = v
    · rw [if_pos e] at h; omega
    · rw [if_neg e] at h
      by_cases ci : i = n
      · rw [ci]; exact e
      · exact ih h i a (by omega)
theorem onF_z {c : Int → Int} {n : Nat} {v : Int} (h : ∀ i : Int, 0 ≤ i → i < n → c i ≠ v) : onF c n v = -1 := by
  induction n with
  | zero => rfl
  | succ n ih =>
    unfold onF
    rw [if_neg (h n (by omega) (by omega))]
    exact ih (fun i a q => h i a (by omega))
theorem onF_cg {c d : Int → Int} {n : Nat} {v : Int} (h : ∀ i : Int, 0 ≤ i → i < n → (c i = v ↔ d i = v)) : onF c n v = onF d n v := by
  induction n with
  | zero => rfl
  | succ n ih =>
    unfold onF
    have e := h n (by omega) (by omega)
    rw [ih (fun i a q => h i a (by omega))]
    by_cases q : c n = v
    · rw [if_pos q, if_pos (e.mp q)]
    · rw [if_neg q, if_neg (fun w => q (e.mpr w))]
/-- no two on one -/
def DST (c : Int → Int) (n : Int) : Prop := ∀ i j, 0 ≤ i → i < n → 0 ≤ j → j < n → c i = c j → 0 ≤ c i → i = j
theorem onF_u {c : Int → Int} {n : Nat} {v i : Int} (hd : DST c n) (h0 : 0 ≤ i) (h1 : i < n) (hv : c i = v) (hp : 0 ≤ v) : onF c n v = i := by
  have b := onF_b c n v
  by_cases h : 0 ≤ onF c n v
  · have e := onF_c h
    exact hd _ _ h b.2 h0 h1 (by rw [e, hv]) (by omega)
  · exact absurd hv (onF_n (by omega) i h0 h1)
def frF (c : Int → Int) (H : Nat) (g v : Int) : Nat → Int → Int
  | 0, m => m
  | n + 1, m => if g ≤ v + m then m else if v + m + 1 = g then frF c H g v n (m + 1) else if 0 ≤ onF c H (v + m + 1) then m else frF c H g v n (m + 1)
def nearF (c : Int → Int) (v : Int) : Nat → Int
  | 0 => -1
  | n + 1 => if 0 ≤ c n ∧ (nearF c v n < 0 ∨ ab (c n - v) < ab (c (nearF c v n) - v) ∨ (ab (c n - v) = ab (c (nearF c v n) - v) ∧ c (nearF c v n) < c n)) then (n : Int) else nearF c v n
theorem nearF_s {c : Int → Int} {v i : Int} (h : 0 ≤ i) : nearF c v (i + 1).toNat = if 0 ≤ c i ∧ (nearF c v i.toNat < 0 ∨ ab (c i - v) < ab (c (nearF c v i.toNat) - v) ∨ (ab (c i - v) = ab (c (nearF c v i.toNat) - v) ∧ c (nearF c v i.toNat) < c i)) then i else nearF c v i.toNat := by
  rw [show (i + 1).toNat = i.toNat + 1 from by omega]
  show (if 0 ≤ c (i.toNat : Nat) ∧ (nearF c v i.toNat < 0 ∨ ab (c (i.toNat : Nat) - v) < ab (c (nearF c v i.toNat) - v) ∨ (ab (c (i.toNat : Nat) - v) = ab (c (nearF c v i.toNat) - v) ∧ c (nearF c v i.toNat) < c (i.toNat : Nat))) then ((i.toNat : Nat) : Int) else nearF c v i.toNat) = _
  rw [show ((i.toNat : Nat) : Int) = i from by omega]
theorem nearF_b (c : Int → Int) (v : Int) (n : Nat) : -1 ≤ nearF c v n ∧ nearF c v n < n ∧ (0 ≤ nearF c v n → 0 ≤ c (nearF c v n)) := by
  induction n with
  | zero => exact ⟨by show (-1 : Int) ≤ -1; decide, by show (-1 : Int) < 0; decide, fun h => absurd h (by show ¬ (0 : Int) ≤ -1; decide)⟩
  | succ n ih =>
    unfold nearF
    split
    · rename_i h
      exact ⟨by omega, by omega, fun _ => h.1⟩
    · exact ⟨ih.1, by omega, ih.2.2⟩
def bitF (f : Int → Int) (x : Int) : Nat → Int
  | 0 => 0
  | n + 1 => if f n = x then oI (bitF f x n) (slI 1 n) else oI (bitF f x n) 0
theorem bitF_s {f : Int → Int} {x i : Int} (h : 0 ≤ i) : bitF f x (i + 1).toNat = if f i = x then oI (bitF f x i.toNat) (slI 1 i) else oI (bitF f x i.toNat) 0 := by
  rw [show (i + 1).toNat = i.toNat + 1 from by omega]
  show (if f (i.toNat : Nat) = x then oI (bitF f x i.toNat) (slI 1 (i.toNat : Nat)) else oI (bitF f x i.toNat) 0) = _
  rw [show ((i.toNat : Nat) : Int) = i from by omega]
theorem bitF_R (f : Int → Int) (x : Int) (n : Nat) : iR (bitF f x n) := by
  cases n with
  | zero => exact ⟨by show -2147483648 ≤ (0 : Int); decide, by show (0 : Int) ≤ 2147483647; decide⟩
  | succ n =>
    unfold bitF
    split
    · exact oI_R _ _
    · exact oI_R _ _
theorem bitF_cg {f g : Int → Int} {x : Int} {n : Nat} (h : ∀ i : Int, 0 ≤ i → i < n → f i = g i) : bitF f x n = bitF g x n := by
  induction n with
  | zero => rfl
  | succ n ih =>
    unfold bitF
    rw [ih (fun i a q => h i a (by omega)), h n (by omega) (by omega)]
def bc2 (p x2 : Int) : Int := aI (p - x2) 858993459 + aI (usI (p - x2) 2) 858993459
def bc7 (s : Int) : Int := aI (s + usI s 4) 252645135
def bcF (p : Int) : Int := aI ((bc7 (bc2 p (aI (usI p 1) 1431655765)) + usI (bc7 (bc2 p (aI (usI p 1) 1431655765))) 8) + usI (bc7 (bc2 p (aI (usI p 1) 1431655765)) + usI (bc7 (bc2 p (aI (usI p 1) 1431655765))) 8) 16) 63
theorem gJ6_bitCount {p0 : Int} {M : Mem} {Q : Int → Mem → Prop} (hQ : Q (bcF p0) M) : qJ6_bitCount_0f7a4 p0 M Q := by
  unfold qJ6_bitCount_0f7a4
  intro x1 e1 _ x2 e2 _ x3 e3 _ x4 e4 _ x5 e5 _ x6 e6 _ x7 e7 _ x8 e8 _ x9 e9 _ x10 e10 _
  have e : x10 = bcF p0 := by
    subst e1; subst e2; subst e3; subst e4; subst e5; subst e6; subst e7; subst e8; subst e9
    rw [e10]
    rfl
  rw [e]
  exact hQ
-- the rule
def wkF (o a b : Int) : Int := if o = 0 then (if a < b then 1 else 0) else if o = 1 then (if b < a then 1 else 0) else if o = 2 then (if a = b then 1 else 0) else if o = 3 then w32 (a + b) else if o = 4 then w32 (a - b) else if o = 5 then w32 (a * b) else (if b = 0 then 0 else dvI a b)
def evS (f e : Int → Int) : Nat → Int → Int
  | 0 => fun _ => 0
  | n + 1 => if f n = 3000 then up (evS f e n) (dpc f n - 1) (w32 (-(evS f e n (dpc f n - 1)))) else if 2000 ≤ f n then up (evS f e n) (dpc f n - 2) (wkF (f n - 2000) (evS f e n (dpc f n - 2)) (evS f e n (dpc f n - 1))) else up (evS f e n) (dpc f n) (if 1000 ≤ f n then e (f n - 1000) else f n)
abbrev cE (k : Nat) (j : Int) : Prop := (k = 1 ∧ (j = 3 ∨ j = 4 ∨ j = 5 ∨ j = 7 ∨ j = 24)) ∨ k = 2 ∨ k = 3 ∨ k = 4 ∨ k = 11
theorem cE13 : cE 1 3 := by decide
theorem cE14 : cE 1 4 := by decide
theorem cE15 : cE 1 5 := by decide
theorem cE17 : cE 1 7 := by decide
theorem cE124 : cE 1 24 := by decide
theorem cE2 (j : Int) : cE 2 j := Or.inr (Or.inl rfl)
theorem cE3 (j : Int) : cE 3 j := Or.inr (Or.inr (Or.inl rfl))
theorem cE4 (j : Int) : cE 4 j := Or.inr (Or.inr (Or.inr (Or.inl rfl)))
theorem cE11 (j : Int) : cE 11 j := Or.inr (Or.inr (Or.inr (Or.inr rfl)))
/-- what no step changes is as in E -/
def CE (E M : Mem) : Prop := ∀ k j, cE k j → M k j = E k j
theorem CE.up {E M : Mem} (h : CE E M) {k : Nat} {j v : Int} (hk : ¬ cE k j) : CE E (up2 M k j v) := by
  intro k' j' hc
  rw [up2_a]
  by_cases c : k' = k
  · by_cases c2 : j' = j
    · exact absurd (by rw [← c, ← c2]; exact hc) hk
    · rw [if_pos c, if_neg c2]; exact h k' j' hc
  · rw [if_neg c]; exact h k' j' hc
theorem CE.fr {E M M' : Mem} {P : Nat → Int → Prop} (h : CE E M) (f : FrJ P M M') (hP : ∀ k j, cE k j → ¬ P k j) : CE E M' := fun k j hc => (f k j (hP k j hc)).trans (h k j hc)
abbrev eH (E : Mem) : Nat := (E 1 4).toNat
abbrev eO (E : Mem) : Nat := (E 1 5).toNat
abbrev eG (E : Mem) : Int := E 1 3 - 1
def envF (E : Mem) (r : Int → Int) (h j : Int) : Int := if j = 0 then r h else if j = 1 then frF r (eH E) (eG E) (r h) 31 0 else if j = 2 then (if E 2 (r h) = 0 then 0 else 1) else if j = 3 then E 4 (rmI (r 37) (E 1 7)) else if j = 4 then rmI (r 37) 10 else if j = 5 then h else bcF (bitF (fun m => r (21 + m)) h (eO E))
def ruF (E : Mem) (e : Int → Int) : Int := if E 1 24 = 0 then w32 (1 + (if e 1 ≤ 2 then 0 else 1)) else evS (E 11) e (E 1 24).toNat 0
def paF (E : Mem) (r : Int → Int) (h : Int) : Int := max 0 (min 3 (ruF E (envF E r h)))
-- where a hearse goes
def okF (E : Mem) (r : Int → Int) (f z : Int) : Prop := (z = eG E ∨ onF r (eH E) z < 0) ∧ ((∀ x, f < x → x < z → onF r (eH E) x < 0) ∨ ∀ x, f ≤ x → x ≤ z → E 2 x = 0)
noncomputable def gdF (ok : Int → Prop) (f : Int) : Nat → Int
  | 0 => f
  | k + 1 => @ite Int (ok (f + (k + 1))) (Classical.propDecidable _) (f + (k + 1)) (gdF ok f k)
theorem gdF_c (ok : Int → Prop) (f : Int) (k : Nat) : (f ≤ gdF ok f k ∧ gdF ok f k ≤ f + k) ∧ (gdF ok f k = f ∨ ok (gdF ok f k)) ∧ ∀ x, gdF ok f k < x → x ≤ f + k → ¬ ok x := by
  induction k with
  | zero => exact ⟨⟨Int.le_refl _, by show f ≤ f + 0; omega⟩, Or.inl rfl, fun x a q => by
      have : gdF ok f 0 = f := rfl
      omega⟩
  | succ k ih =>
    unfold gdF
    by_cases h : ok (f + (k + 1))
    · rw [if_pos h]
      exact ⟨by omega, Or.inr h, fun x a q => by omega⟩
    · rw [if_neg h]
      refine ⟨by omega, ih.2.1, fun x a q => ?_⟩
      by_cases cx : x = f + (k + 1)
      · rw [cx]; exact h
      · exact ih.2.2 x a (by omega)
theorem gdF_u {ok : Int → Prop} {f z : Int} {k : Nat} (h : (f ≤ z ∧ z ≤ f + k) ∧ (z = f ∨ ok z) ∧ ∀ x, z < x → x ≤ f + k → ¬ ok x) : gdF ok f k = z := by
  have g := gdF_c ok f k
  rcases Int.lt_trichotomy (gdF ok f k) z with w | w | w
  · exfalso
    rcases h.2.1 with q | q
    · omega
    · exact g.2.2 z w h.1.2 q
  · exact w
  · exfalso
    rcases g.2.1 with q | q
    · omega
    · exact h.2.2 _ w g.1.2 q
noncomputable def goF (E : Mem) (r : Int → Int) (h p : Int) : Int := gdF (okF E r (r h)) (r h) (min (eG E) (r h + p) - r h).toNat
noncomputable def mhF (E : Mem) (r : Int → Int) (h : Int) : Int → Int := if goF E r h (paF E r h) = r h then r else if goF E r h (paF E r h) = eG E then up (up (up r 12 (w32 (r 12 + 1))) (6 + h) (w32 (r 12 + 1))) h (-1) else up r h (goF E r h (paF E r h))
-- where a mourner goes
abbrev chF (E : Mem) (r : Int → Int) (m : Int) : Prop := 0 ≤ nearF r (r (13 + m)) (eH E) ∧ (r (21 + m) < 0 ∨ ab (r (nearF r (r (13 + m)) (eH E)) - r (13 + m)) < ab (r (r (21 + m)) - r (13 + m)))
def goM (r : Int → Int) (m f : Int) : Int := if r f ≤ r (13 + m) then max (r f) (r (13 + m) - 2) else min (r f) (r (13 + m) + 2)
def mmF (E : Mem) (r : Int → Int) (m : Int) : Int → Int := if 0 ≤ r (21 + m) ∧ r (r (21 + m)) < 0 then up r (29 + m) (r (21 + m)) else if chF E r m then up (up r (21 + m) (nearF r (r (13 + m)) (eH E))) (13 + m) (goM r m (nearF r (r (13 + m)) (eH E))) else if r (21 + m) < 0 then r else up r (13 + m) (goM r m (r (21 + m)))
-- a step
def lnL (r : Int → Int) (H : Nat) : Nat → List Int
  | 0 => []
  | c + 1 => if 0 ≤ onF r H c then onF r H c :: lnL r H c else lnL r H c
noncomputable def hsF (E : Mem) : List Int → (Int → Int) → Int → Int
  | [], r => r
  | h :: t, r => hsF E t (mhF E r h)
def msF (E : Mem) : Nat → (Int → Int) → Int → Int
  | 0, r => r
  | n + 1, r => if 0 ≤ msF E n r (29 + n) then msF E n r else mmF E (msF E n r) n
noncomputable def stF (E : Mem) (r : Int → Int) : Int → Int := up (msF E (eO E) (hsF E (lnL r (eH E) (eG E).toNat) r)) 37 (msF E (eO E) (hsF E (lnL r (eH E) (eG E).toNat) r) 37 + 1)
end
section
/-! THE STEP of the reference: what it makes of its row -/
theorem CE.h {E M : Mem} {b : Int} (h : CE E M) (hI : IM b M) : ((eH E : Nat) : Int) = M 1 4 ∧ 0 ≤ M 1 4 ∧ M 1 4 ≤ 6 := by
  have e : M 1 4 = E 1 4 := h 1 4 cE14
  have := bm_c1_4.mp (hI.bx 1 4)
  exact ⟨by show (((E 1 4).toNat : Nat) : Int) = M 1 4; omega, by omega, by omega⟩
theorem CE.o {E M : Mem} {b : Int} (h : CE E M) (hI : IM b M) : ((eO E : Nat) : Int) = M 1 5 ∧ 0 ≤ M 1 5 ∧ M 1 5 ≤ 8 := by
  have e : M 1 5 = E 1 5 := h 1 5 cE15
  have := bm_c1_5.mp (hI.bx 1 5)
  exact ⟨by show (((E 1 5).toNat : Nat) : Int) = M 1 5; omega, by omega, by omega⟩
theorem CE.g {E M : Mem} {b : Int} (h : CE E M) (hI : IM b M) : M 1 3 - 1 = eG E ∧ 3 ≤ eG E ∧ eG E ≤ 29 := by
  have e : M 1 3 = E 1 3 := h 1 3 cE13
  have := bm_c1_3.mp (hI.bx 1 3)
  show M 1 3 - 1 = E 1 3 - 1 ∧ 3 ≤ E 1 3 - 1 ∧ E 1 3 - 1 ≤ 29
  omega
theorem gX12_gate {b : Int} {M E : Mem} {Q : Int → Mem → Prop} (hI : IM b M) (hE : CE E M) (hQ : Q (eG E) M) : qX12_gate M Q := by
  refine sX12_gate hI ?_
  intro z hz
  rw [show z = eG E from by have := hE.g hI; omega]
  exact hQ
theorem gX12_onCell_L5 {k1 : Nat} {p2 b : Int} {Q : Int → Mem → Prop} {M E : Mem} (hI : IM b M) (hE : CE E M) (hQ : Q (onF (M k1) (eH E) p2) M) : ∀ (n : Nat) (v3 v4 : Int), v3 = onF (M k1) v4.toNat p2 → (0 ≤ v4 ∧ v4 ≤ M 1 4) → M 1 4 - v4 < (n : Int) → qX12_onCell_L5 k1 p2 Q n v3 v4 M := by
  intro n
  induction n with
  | zero => intro v3 v4 h3 hv hm; exact absurd hm (by omega)
  | succ n ih =>
    intro v3 v4 h3 hv hm
    have bH := hE.h hI
    have bo := onF_b (M k1) v4.toNat p2
    rw [qX12_onCell_L5]
    intro x1 e1 _
    refine ⟨⟨by omega, by omega⟩, ⟨fun c => ⟨⟨by omega, by omega⟩, ?_⟩, fun c => ⟨by omega, by omega, ?_⟩⟩⟩
    · rw [h3, show v4.toNat = eH E from by omega]
      exact hQ
    · intro x7 e7 _
      have hs := onF_s (c := M k1) (v := p2) hv.1
      refine ⟨fun c2 => ih _ _ ?_ (by omega) (by omega), fun c2 => ih _ _ ?_ (by omega) (by omega)⟩
      · rw [hs, if_neg (by rw [← e7]; exact c2), h3]
      · rw [hs, if_pos (by rw [← e7]; exact c2)]
theorem gX12_onCell {k1 : Nat} {p2 b : Int} {Q : Int → Mem → Prop} {M E : Mem} (hI : IM b M) (hE : CE E M) (hQ : Q (onF (M k1) (eH E) p2) M) : qX12_onCell k1 p2 M Q := by
  have bH := hE.h hI
  unfold qX12_onCell
  exact ⟨7, gX12_onCell_L5 hI hE hQ _ _ _ rfl (by omega) (by omega)⟩
theorem frF_s {c : Int → Int} {H : Nat} {g v m : Int} (h : 0 ≤ m ∧ m ≤ 30) : frF c H g v (31 - m).toNat m = if g ≤ v + m then m else if v + m + 1 = g then frF c H g v (31 - (m + 1)).toNat (m + 1) else if 0 ≤ onF c H (v + m + 1) then m else frF c H g v (31 - (m + 1)).toNat (m + 1) := by
  rw [show (31 - m).toNat = (31 - (m + 1)).toNat + 1 from by omega]
  rfl
theorem gX12_freeAhead_L2 {k1 : Nat} {p2 b T : Int} {Q : Int → Mem → Prop} {M E : Mem} (hI : IM b M) (hE : CE E M) (hp : 0 ≤ p2 ∧ p2 ≤ 29) (hQ : Q T M) : ∀ (n : Nat) (v3 : Int), frF (M k1) (eH E) (eG E) p2 (31 - v3).toNat v3 = T → (0 ≤ v3 ∧ v3 ≤ 30) → 30 - v3 < (n : Int) → qX12_freeAhead_L2 k1 p2 Q n v3 M := by
  intro n
  induction n with
  | zero => intro v3 h3 hv hm; exact absurd hm (by omega)
  | succ n ih =>
    intro v3 h3 hv hm
    have bg := hE.g hI
    rw [frF_s hv] at h3
    rw [qX12_freeAhead_L2]
    refine gX12_gate hI hE ?_
    intro _
    refine ⟨⟨by omega, by omega⟩, ⟨fun c => ⟨⟨by omega, by omega⟩, ?_⟩, fun c => ?_⟩⟩
    · rw [if_pos c] at h3
      rw [h3]; exact hQ
    · rw [if_neg c] at h3
      refine gX12_gate hI hE ?_
      intro _
      refine ⟨⟨by omega, by omega⟩, ⟨fun c2 => ?_, fun c2 => ?_⟩⟩
      · rw [if_pos c2] at h3
        exact ih _ h3 (by omega) (by omega)
      · rw [if_neg c2] at h3
        refine gX12_onCell hI hE ?_
        intro _
        refine ⟨fun c3 => ⟨⟨by omega, by omega⟩, ?_⟩, fun c3 => ?_⟩
        · rw [if_pos c3] at h3
          rw [h3]; exact hQ
        · rw [if_neg c3] at h3
          exact ih _ h3 (by omega) (by omega)
theorem gX12_freeAhead {k1 : Nat} {p2 b : Int} {Q : Int → Mem → Prop} {M E : Mem} (hI : IM b M) (hE : CE E M) (hp : 0 ≤ p2 ∧ p2 ≤ 29) (hQ : Q (frF (M k1) (eH E) (eG E) p2 31 0) M) : qX12_freeAhead k1 p2 M Q := by
  unfold qX12_freeAhead
  exact ⟨31, gX12_freeAhead_L2 hI hE hp hQ _ _ rfl (by omega) (by omega)⟩
theorem gX12_isOn {k0 : Nat} {p1 : Int} {M : Mem} {Q : Int → Mem → Prop} (hp : 0 ≤ p1 ∧ p1 ≤ 37) (hQ : ∀ z : Int, (z = 1 ∧ 0 ≤ M k0 p1 ∨ z = 0 ∧ M k0 p1 < 0) → Q z M) : qX12_isOn k0 p1 M Q := by
  unfold qX12_isOn
  refine ⟨by omega, by omega, ?_⟩
  intro x3 e3 _
  exact ⟨fun c => hQ _ (Or.inr ⟨rfl, by omega⟩), fun c => hQ _ (Or.inl ⟨rfl, by omega⟩)⟩
theorem gX12_isEnded {k0 : Nat} {p1 : Int} {M : Mem} {Q : Int → Mem → Prop} (hp : 0 ≤ p1 ∧ p1 ≤ 7) (hQ : ∀ z : Int, (z = 1 ∧ 0 ≤ M k0 (29 + p1) ∨ z = 0 ∧ M k0 (29 + p1) < 0) → Q z M) : qX12_isEnded k0 p1 M Q := by
  unfold qX12_isEnded
  refine ⟨by omega, by omega, ?_⟩
  intro x3 e3 _
  exact ⟨fun c => hQ _ (Or.inr ⟨rfl, by omega⟩), fun c => hQ _ (Or.inl ⟨rfl, by omega⟩)⟩
theorem gX12_weatherOn {p1 b : Int} {M : Mem} {Q : Int → Mem → Prop} (hI : IM b M) (hp : 0 ≤ p1 ∧ p1 ≤ 2147483647) (hQ : Q (M 4 (rmI p1 (M 1 7))) M) : qX12_weatherOn p1 M Q := by
  unfold qX12_weatherOn
  intro x1 e1 _
  have b1 : 1 ≤ x1 ∧ x1 ≤ 20 := by rw [e1]; exact bm_c1_7.mp (hI.bx _ _)
  refine ⟨by omega, ?_⟩
  intro x3 e3 _
  have b3 := rmI_b (a := p1) (b := x1) hp ⟨by omega, by omega⟩
  rw [← e3] at b3
  refine ⟨by omega, by omega, ?_⟩
  intro x6 e6 _
  rw [e6, e3, e1]
  exact hQ
theorem gX12_bitsBy_L6 {k1 : Nat} {p2 p3 b : Int} {Q : Int → Mem → Prop} {M E : Mem} (hI : IM b M) (hE : CE E M) (hp : 0 ≤ p2 ∧ p2 ≤ 29) (hQ : Q (bitF (fun m => M k1 (p2 + m)) p3 (eO E)) M) : ∀ (n : Nat) (v4 v5 : Int), v4 = bitF (fun m => M k1 (p2 + m)) p3 v5.toNat → (0 ≤ v5 ∧ v5 ≤ M 1 5) → M 1 5 - v5 < (n : Int) → qX12_bitsBy_L6 k1 p2 p3 Q n v4 v5 M := by
  intro n
  induction n with
  | zero => intro v4 v5 h4 hv hm; exact absurd hm (by omega)
  | succ n ih =>
    intro v4 v5 h4 hv hm
    have bO := hE.o hI
    have r4 := bitF_R (fun m => M k1 (p2 + m)) p3 v5.toNat
    rw [← h4] at r4
    rw [qX12_bitsBy_L6]
    intro x1 e1 _
    refine ⟨⟨by omega, by omega⟩, ⟨fun c => ⟨r4, ?_⟩, fun c => ⟨by omega, by omega, ?_⟩⟩⟩
    · rw [h4, show v5.toNat = eO E from by omega]
      exact hQ
    · intro x7 e7 _
      have hs := bitF_s (f := fun m => M k1 (p2 + m)) (x := p3) hv.1
      refine ⟨fun c2 => ?_, fun c2 => ?_⟩
      · intro x9 e9 _
        refine ih _ _ ?_ (by omega) (by omega)
        rw [hs, if_neg (by show ¬ M k1 (p2 + v5) = p3; rw [← e7]; exact c2), e9, h4]
      · intro x10 e10 _ x11 e11 _
        refine ih _ _ ?_ (by omega) (by omega)
        rw [hs, if_pos (by show M k1 (p2 + v5) = p3; rw [← e7]; exact c2), e11, e10, h4]
theorem gX12_bitsBy {k1 : Nat} {p2 p3 b : Int} {Q : Int → Mem → Prop} {M E : Mem} (hI : IM b M) (hE : CE E M) (hp : 0 ≤ p2 ∧ p2 ≤ 29) (hQ : Q (bitF (fun m => M k1 (p2 + m)) p3 (eO E)) M) : qX12_bitsBy k1 p2 p3 M Q := by
  have bO := hE.o hI
  unfold qX12_bitsBy
  exact ⟨9, gX12_bitsBy_L6 hI hE hp hQ _ _ _ rfl (by omega) (by omega)⟩
theorem gX12_flag {p0 b : Int} {M : Mem} {Q : Int → Mem → Prop} (hI : IM b M) (hQ : Q (if p0 = 0 then 0 else 1) M) : qX12_flag p0 M Q := by
  refine sX12_flag (p0 := p0) hI ?_
  intro z hz
  have e : z = if p0 = 0 then 0 else 1 := by
    split
    · rcases hz.1 with h | h
      · exact h
      · exact absurd (by assumption) (hz.2.2 h)
    · rcases hz.1 with h | h
      · exact absurd (hz.2.1 h) (by assumption)
      · exact h
  rw [e]
  exact hQ
theorem gX12_worked {p0 p1 p2 b : Int} {M : Mem} {Q : Int → Mem → Prop} (hI : IM b M) (hQ : Q (wkF p0 p1 p2) M) : qX12_worked p0 p1 p2 M Q := by
  unfold wkF at hQ
  unfold qX12_worked
  refine ⟨fun c => ?_, fun c => ?_, fun c => ?_, fun c => ?_, fun c => ?_, fun c => ?_, fun c => ?_⟩
  · rw [if_pos c] at hQ
    refine ⟨fun c2 => ?_, fun c2 => ?_⟩ <;> unfold qX12_worked_J50 <;> refine ⟨by decide, ?_⟩ <;> refine gX12_flag hI ?_ <;> intro _
    · rw [if_neg (by omega)] at hQ; exact hQ
    · rw [if_pos (by omega)] at hQ; exact hQ
  · rw [if_neg (by omega), if_pos c] at hQ
    refine ⟨fun c2 => ?_, fun c2 => ?_⟩ <;> unfold qX12_worked_J64 <;> refine ⟨by decide, ?_⟩ <;> refine gX12_flag hI ?_ <;> intro _
    · rw [if_neg (by omega)] at hQ; exact hQ
    · rw [if_pos (by omega)] at hQ; exact hQ
  · rw [if_neg (by omega), if_neg (by omega), if_pos c] at hQ
    refine ⟨fun c2 => ?_, fun c2 => ?_⟩ <;> unfold qX12_worked_J78 <;> refine ⟨by decide, ?_⟩ <;> refine gX12_flag hI ?_ <;> intro _
    · rw [if_neg c2] at hQ; exact hQ
    · rw [if_pos c2] at hQ; exact hQ
  · rw [if_neg (by omega), if_neg (by omega), if_neg (by omega), if_pos c] at hQ
    intro x e _
    rw [e]; exact hQ
  · rw [if_neg (by omega), if_neg (by omega), if_neg (by omega), if_neg (by omega), if_pos c] at hQ
    intro x e _
    rw [e]; exact hQ
  · rw [if_neg (by omega), if_neg (by omega), if_neg (by omega), if_neg (by omega), if_neg (by omega), if_pos c] at hQ
    intro x e _
    rw [e]; exact hQ
  · rw [if_neg (by omega), if_neg (by omega), if_neg (by omega), if_neg (by omega), if_neg (by omega), if_neg (by omega)] at hQ
    refine ⟨fun c2 => ⟨c2, ?_⟩, fun c2 => ?_⟩
    · rw [if_neg c2] at hQ
      intro x e _
      rw [e]; exact hQ
    · rw [if_pos c2] at hQ; exact hQ
-- the rule is worked
theorem evS_s {f e : Int → Int} {n : Int} (h : 0 ≤ n) : evS f e (n + 1).toNat = if f n = 3000 then up (evS f e n.toNat) (dpc f n.toNat - 1) (w32 (-(evS f e n.toNat (dpc f n.toNat - 1)))) else if 2000 ≤ f n then up (evS f e n.toNat) (dpc f n.toNat - 2) (wkF (f n - 2000) (evS f e n.toNat (dpc f n.toNat - 2)) (evS f e n.toNat (dpc f n.toNat - 1))) else up (evS f e n.toNat) (dpc f n.toNat) (if 1000 ≤ f n then e (f n - 1000) else f n) := by
  rw [show (n + 1).toNat = n.toNat + 1 from by omega]
  have hc : ((n.toNat : Nat) : Int) = n := by omega
  show (if f (n.toNat : Nat) = 3000 then _ else if 2000 ≤ f (n.toNat : Nat) then _ else _) = _
  rw [hc]
theorem dpc_s {f : Int → Int} {n : Int} (h : 0 ≤ n) : dpc f (n + 1).toNat = dpc f n.toNat + (if f n = 3000 then 0 else if f n < 2000 then 1 else -1) := by
  rw [show (n + 1).toNat = n.toNat + 1 from by omega]
  show dpc f n.toNat + (if f (n.toNat : Nat) = 3000 then 0 else if f (n.toNat : Nat) < 2000 then 1 else -1) = _
  rw [show ((n.toNat : Nat) : Int) = n from by omega]
theorem evS_cg {f e e' : Int → Int} {m : Int} (hw : WFC f m) (he : ∀ j, 0 ≤ j → j < 7 → e j = e' j) (k : Nat) (hk : (k : Int) ≤ m) : evS f e k = evS f e' k := by
  induction k with
  | zero => rfl
  | succ k ih =>
    have i := ih (by omega)
    have w := hw k (by omega)
    unfold evS
    rw [i]
    by_cases c1 : f k = 3000
    · rw [if_pos c1, if_pos c1]
    · rw [if_neg c1, if_neg c1]
      by_cases c2 : 2000 ≤ f k
      · rw [if_pos c2, if_pos c2]
      · rw [if_neg c2, if_neg c2]
        by_cases c3 : 1000 ≤ f k
        · rw [if_pos c3, if_pos c3, he _ (by omega) (by have := w.2.2 c3 (by omega); omega)]
        · rw [if_neg c3, if_neg c3]
theorem dpc_p {f : Int → Int} {m : Int} (h : WFC f m) (n : Nat) (h1 : 1 ≤ n) (hn : (n : Int) ≤ m) : 1 ≤ dpc f n := by
  obtain ⟨k, rfl⟩ : ∃ k, n = k + 1 := ⟨n - 1, by omega⟩
  have i := dpc_nn h k (by omega)
  obtain ⟨a, b, _⟩ := h k (by omega)
  unfold dpc
  split
  · have := a (by assumption)
    omega
  · rename_i c
    split
    · omega
    · have := b (by omega) c
      omega
theorem gX12_ruled_L4 {X125 : Mem → Prop} {Q : Int → Mem → Prop} {b : Int} {M0 : Mem} (hX : ∀ M' : Mem, IM b M' → FrJ (fun k j => k = 13) M0 M' → (∀ i, 0 ≤ i → i < dpc (M0 11) (M0 1 24).toNat → M' 13 i = evS (M0 11) (M0 14) (M0 1 24).toNat i) → X125 M') : ∀ (n : Nat) (v1 v2 : Int) (M : Mem), IM b M → FrJ (fun k j => k = 13) M0 M → (v1 = dpc (M0 11) v2.toNat ∧ 0 ≤ v2 ∧ v2 ≤ M0 1 24) → (∀ i, 0 ≤ i → i < v1 → M 13 i = evS (M0 11) (M0 14) v2.toNat i) → M0 1 24 - v2 < (n : Int) → qX12_ruled_L4 X125 Q n v1 v2 M := by
  intro n
  induction n with
  | zero => intro v1 v2 M hI hF hv hs hm; exact absurd hm (by omega)
  | succ n ih =>
    intro v1 v2 M hI hF hv hs hm
    rw [qX12_ruled_L4]
    intro x1 e1 _
    have b1 : 0 ≤ x1 ∧ x1 ≤ 80 := by rw [e1]; exact bm_c1_24.mp (hI.bx _ _)
    have f1 : x1 = M0 1 24 := by rw [e1]; exact hF 1 24 (by omega)
    refine ⟨⟨by omega, by omega⟩, ⟨fun c => hX _ hI hF ?_, fun c => ?_⟩⟩
    · rw [show (M0 1 24).toNat = v2.toNat from by omega, ← hv.1]
      exact hs
    refine ⟨by omega, by omega, ?_⟩
    intro x6 e6 r6
    have k11 : M 11 = M0 11 := funext fun j => hF 11 j (by omega)
    have k14 : M 14 = M0 14 := funext fun j => hF 14 j (by omega)
    have hW : WFC (M0 11) (M0 1 24) := by
      have w := hI.2
      rw [k11, show M 1 24 = M0 1 24 from hF 1 24 (by omega)] at w
      exact w
    have hw := hW v2.toNat (by omega)
    have hc : ((v2.toNat : Nat) : Int) = v2 := by omega
    have hn := dpc_nn hW v2.toNat (by omega)
    have hl := dpc_le (M0 11) v2.toNat
    have e6' : x6 = M0 11 v2 := by rw [e6, k11]
    rw [hc, ← e6'] at hw
    have hd := dpc_s (f := M0 11) (n := v2) hv.2.1
    have hev := evS_s (f := M0 11) (e := M0 14) (n := v2) hv.2.1
    rw [← e6'] at hd hev
    rw [← hv.1] at hd hev hw
    have key : ∀ (M' : Mem) (j v w : Int), M' = up2 M 13 j v → w = v1 + (if x6 = 3000 then 0 else if x6 < 2000 then 1 else -1) → evS (M0 11) (M0 14) (v2 + 1).toNat = up (evS (M0 11) (M0 14) v2.toNat) j v → (0 ≤ j ∧ w - 1 = j ∧ j ≤ v1) → qX12_ruled_L4 X125 Q n w (v2 + 1) M' := by
      intro M' j v w hM' hw' hE hj
      refine ih _ _ _ (by rw [hM']; exact hI.up (by omega) (by simp [BM])) (by rw [hM']; exact hF.up rfl) ⟨by rw [hd]; exact hw', by omega, by omega⟩ ?_ (by omega)
      intro i a q
      rw [hM', hE]
      by_cases ci : i = j
      · rw [ci, up2_s, upS]
      · rw [up2_j ci, up_j ci]
        exact hs i a (by omega)
    refine ⟨fun c1 => ⟨fun c2 => ⟨fun c3 => ?_, fun c3 => ?_⟩, fun c2 => ?_⟩, fun c1 => ?_⟩
    · unfold qX12_ruled_J115
      refine ⟨by omega, by omega, r6, ?_⟩
      intro M13 h13
      exact key _ _ _ _ h13 (by rw [if_neg c1, if_pos c2]) (by rw [hev, if_neg c1, if_neg (by omega), if_neg (by omega)]) ⟨by omega, by omega, by omega⟩
    · intro x14 e14 _
      have f14 : x14 = x6 - 1000 := by rw [e14]; exact w32_id ⟨by omega, by omega⟩
      have := hw.2.2 (by omega) (by omega)
      refine ⟨by omega, by omega, ?_⟩
      intro x17 e17 r17
      unfold qX12_ruled_J115
      refine ⟨by omega, by omega, r17, ?_⟩
      intro M13 h13
      exact key _ _ _ _ h13 (by rw [if_neg c1, if_pos c2]) (by rw [hev, if_neg c1, if_neg (by omega), if_pos (by omega), e17, f14, k14]) ⟨by omega, by omega, by omega⟩
    · have h2 := hw.2.1 (by omega) c1
      intro x18 e18 _ x19 e19 _ x20 e20 _
      have f18 : x18 = v1 + (-1) - 1 := by rw [e18]; exact w32_id ⟨by omega, by omega⟩
      have f20 : x20 = v1 + (-1) - 1 := by rw [e20]; exact w32_id ⟨by omega, by omega⟩
      have f19 : x19 = x6 - 2000 := by rw [e19]; exact w32_id ⟨by have : -2147483648 ≤ x6 ∧ x6 ≤ 2147483647 := r6; omega, by have : -2147483648 ≤ x6 ∧ x6 ≤ 2147483647 := r6; omega⟩
      refine ⟨by omega, by omega, ?_⟩
      intro x23 e23 _
      refine ⟨by omega, by omega, ?_⟩
      intro x26 e26 _
      refine gX12_worked hI ?_
      intro r27
      refine ⟨by omega, by omega, ?_⟩
      intro M30 h30
      have a23 : x23 = evS (M0 11) (M0 14) v2.toNat (v1 - 2) := by rw [e23, show x20 = v1 - 2 from by omega]; exact hs _ (by omega) (by omega)
      have a26 : x26 = evS (M0 11) (M0 14) v2.toNat (v1 - 1) := by rw [e26, show v1 + (-1) = v1 - 1 from by omega]; exact hs _ (by omega) (by omega)
      exact key _ _ _ _ h30 (by rw [if_neg c1, if_neg c2]) (by rw [hev, if_neg c1, if_pos (by omega), ← a23, ← a26, f19, show v1 - 2 = x18 from by omega]) ⟨by omega, by omega, by omega⟩
    · have h1 := hw.1 c1
      intro x31 e31 _ x32 e32 _
      have f31 : x31 = v1 - 1 := by rw [e31]; exact w32_id ⟨by omega, by omega⟩
      have f32 : x32 = v1 - 1 := by rw [e32]; exact w32_id ⟨by omega, by omega⟩
      refine ⟨by omega, by omega, ?_⟩
      intro x35 e35 _ x36 e36 _
      refine ⟨by omega, by omega, ?_⟩
      intro M39 h39
      have a35 : x35 = evS (M0 11) (M0 14) v2.toNat (v1 - 1) := by rw [e35, f32]; exact hs _ (by omega) (by omega)
      exact key _ _ _ _ h39 (by rw [if_pos c1]; omega) (by rw [hev, if_pos c1, e36, a35, f31]) ⟨by omega, by omega, by omega⟩
theorem gX12_ruled {b : Int} {M E : Mem} {Q : Int → Mem → Prop} (hI : IM b M) (hE : CE E M) (hQ : ∀ M' : Mem, IM b M' → FrJ (fun k j => k = 13) M M' → Q (ruF E (M 14)) M') : qX12_ruled M Q := by
  have b24 := bm_c1_24.mp (hI.bx 1 24)
  have k24 : M 1 24 = E 1 24 := hE 1 24 cE124
  have k11 : M 11 = E 11 := funext fun j => hE 11 j (cE11 j)
  unfold ruF at hQ
  unfold qX12_ruled
  refine ⟨81, gX12_ruled_L4 (b := b) (M0 := M) ?_ _ _ _ _ hI FrJ.rf ⟨rfl, by omega, by omega⟩ (fun i a q => ?_) (by omega)⟩
  · intro M' h' hF hs x41 e41 _
    have f41 : x41 = E 1 24 := by rw [e41, hF 1 24 (by omega), k24]
    refine ⟨fun c => ?_, fun c => ?_⟩
    · intro x43 e43 _
      have H := hQ M' h' hF
      rw [if_neg (by omega)] at H
      have : x43 = evS (E 11) (M 14) (E 1 24).toNat 0 := by
        rw [e43, ← k11, ← k24]
        refine hs 0 (by decide) ?_
        have := dpc_p hI.2 (M 1 24).toNat (by omega) (by omega)
        omega
      rw [this]
      exact H
    · intro x44 e44 _
      have H := hQ M' h' hF
      rw [if_pos (by omega)] at H
      have f44 : x44 = M 14 1 := by rw [e44]; exact hF 14 1 (by omega)
      refine ⟨fun c2 => ?_, fun c2 => ?_⟩
      · unfold qX12_ruled_J148
        refine ⟨by decide, ?_⟩
        refine gX12_flag h' ?_
        intro _ x48 e48 _
        rw [if_pos (by omega)] at H
        rw [e48]
        exact H
      · unfold qX12_ruled_J148
        refine ⟨by decide, ?_⟩
        refine gX12_flag h' ?_
        intro _ x48 e48 _
        rw [if_neg (by omega)] at H
        rw [e48]
        exact H
  · have : dpc (M 11) (0 : Int).toNat = 0 := rfl
    omega
end
section
theorem ruF_cg {E : Mem} {e e' : Int → Int} (hw : WFC (E 11) (E 1 24)) (h0 : 0 ≤ E 1 24) (he : ∀ j, 0 ≤ j → j < 7 → e j = e' j) : ruF E e = ruF E e' := by
  unfold ruF
  rw [he 1 (by decide) (by decide), evS_cg hw he (E 1 24).toNat (by omega)]
theorem CE.w {E M : Mem} {b : Int} (h : CE E M) (hI : IM b M) : WFC (E 11) (E 1 24) ∧ 0 ≤ E 1 24 := by
  have k24 : M 1 24 = E 1 24 := h 1 24 cE124
  have k11 : M 11 = E 11 := funext fun j => h 11 j (cE11 j)
  have b := bm_c1_24.mp (hI.bx 1 24)
  have w := hI.2
  rw [k24, k11] at w
  exact ⟨w, by omega⟩
theorem gX12_paceOf {k1 : Nat} {p2 b : Int} {M E : Mem} {Q : Int → Mem → Prop} (hI : IM b M) (hE : CE E M) (hk1 : isN k1) (hp : 0 ≤ p2 ∧ p2 ≤ 5 ∧ 0 ≤ M k1 p2) (hQ : ∀ M' : Mem, IM b M' → FrJ (fun k j => k = 14 ∨ k = 13) M M' → Q (paF E (M k1) p2) M') : qX12_paceOf k1 p2 M Q := by
  have hk : k1 = 5 ∨ k1 = 6 := hk1
  have b29 : M k1 p2 ≤ 29 := (((bm_n hk1).mp (hI.bx k1 p2)).1 ⟨by omega, by omega⟩).2
  have n37 := ((bm_n hk1).mp (hI.bx k1 37)).2.2.2 rfl
  unfold qX12_paceOf
  refine gX12_isOn (p1 := p2) ⟨by omega, by omega⟩ ?_
  intro x1 p1 _ _
  refine ⟨fun c => ⟨by omega, by omega, ?_⟩, fun c => by omega⟩
  intro x5 e5 _ M6 h6 x7 e7 _
  have i6 : IM b M6 := by rw [h6]; exact hI.up (by omega) (by simp [BM])
  have E6 : CE E M6 := by rw [h6]; exact hE.up (by intro h; rcases h with h | h | h | h | h <;> omega)
  have K6 : M6 k1 = M k1 := by rw [h6, up2_n (by omega)]
  have F6 : FrJ (fun k j => k = 14 ∨ k = 13) M M6 := by rw [h6]; exact FrJ.rf.up (Or.inl rfl)
  have f7 : x7 = M k1 p2 := by rw [e7, K6]
  refine gX12_freeAhead i6 E6 (by omega) ?_
  intro _ M9 h9 x10 e10 _
  have i9 : IM b M9 := by rw [h9]; exact i6.up (by omega) (by simp [BM])
  have E9 : CE E M9 := by rw [h9]; exact E6.up (by intro h; rcases h with h | h | h | h | h <;> omega)
  have K9 : M9 k1 = M k1 := by rw [h9, up2_n (by omega), K6]
  have F9 : FrJ (fun k j => k = 14 ∨ k = 13) M M9 := by rw [h9]; exact F6.up (Or.inl rfl)
  have f10 : x10 = M k1 p2 := by rw [e10, K9]
  refine ⟨by omega, by omega, ?_⟩
  intro x13 e13 _
  have f13 : x13 = E 2 (M k1 p2) := by rw [e13, f10]; exact E9 2 _ (cE2 _)
  refine gX12_flag i9 ?_
  intro _ M15 h15 x16 e16 r16
  have i15 : IM b M15 := by rw [h15]; exact i9.up (by omega) (by simp [BM])
  have E15 : CE E M15 := by rw [h15]; exact E9.up (by intro h; rcases h with h | h | h | h | h <;> omega)
  have K15 : M15 k1 = M k1 := by rw [h15, up2_n (by omega), K9]
  have F15 : FrJ (fun k j => k = 14 ∨ k = 13) M M15 := by rw [h15]; exact F9.up (Or.inl rfl)
  have f16 : x16 = M k1 37 := by rw [e16, K15]
  refine gX12_weatherOn i15 (by have : -2147483648 ≤ x16 ∧ x16 ≤ 2147483647 := r16; omega) ?_
  intro _ M18 h18 x19 e19 _ x20 e20 _ M21 h21 M22 h22
  have i18 : IM b M18 := by rw [h18]; exact i15.up (by omega) (by simp [BM])
  have E18 : CE E M18 := by rw [h18]; exact E15.up (by intro h; rcases h with h | h | h | h | h <;> omega)
  have K18 : M18 k1 = M k1 := by rw [h18, up2_n (by omega), K15]
  have F18 : FrJ (fun k j => k = 14 ∨ k = 13) M M18 := by rw [h18]; exact F15.up (Or.inl rfl)
  have i21 : IM b M21 := by rw [h21]; exact i18.up (by omega) (by simp [BM])
  have E21 : CE E M21 := by rw [h21]; exact E18.up (by intro h; rcases h with h | h | h | h | h <;> omega)
  have K21 : M21 k1 = M k1 := by rw [h21, up2_n (by omega), K18]
  have F21 : FrJ (fun k j => k = 14 ∨ k = 13) M M21 := by rw [h21]; exact F18.up (Or.inl rfl)
  have i22 : IM b M22 := by rw [h22]; exact i21.up (by omega) (by simp [BM])
  have E22 : CE E M22 := by rw [h22]; exact E21.up (by intro h; rcases h with h | h | h | h | h <;> omega)
  have K22 : M22 k1 = M k1 := by rw [h22, up2_n (by omega), K21]
  have F22 : FrJ (fun k j => k = 14 ∨ k = 13) M M22 := by rw [h22]; exact F21.up (Or.inl rfl)
  have f19 : x19 = M k1 37 := by rw [e19, K18]
  refine gX12_bitsBy i22 E22 (by omega) ?_
  intro _
  refine gJ6_bitCount ?_
  intro _ M25 h25
  have i25 : IM b M25 := by rw [h25]; exact i22.up (by omega) (by simp [BM])
  have E25 : CE E M25 := by rw [h25]; exact E22.up (by intro h; rcases h with h | h | h | h | h <;> omega)
  have F25 : FrJ (fun k j => k = 14 ∨ k = 13) M M25 := by rw [h25]; exact F22.up (Or.inl rfl)
  have he : ∀ j, 0 ≤ j → j < 7 → M25 14 j = envF E (M k1) p2 j := by
    intro j a q
    have : j = 0 ∨ j = 1 ∨ j = 2 ∨ j = 3 ∨ j = 4 ∨ j = 5 ∨ j = 6 := by omega
    rcases this with rfl | rfl | rfl | rfl | rfl | rfl | rfl
    · rw [h25, up2_j (by decide), h22, up2_j (by decide), h21, up2_j (by decide), h18, up2_j (by decide), h15, up2_j (by decide), h9, up2_j (by decide), h6, up2_s, e5]
      rfl
    · rw [h25, up2_j (by decide), h22, up2_j (by decide), h21, up2_j (by decide), h18, up2_j (by decide), h15, up2_j (by decide), h9, up2_s, K6, f7]
      rfl
    · rw [h25, up2_j (by decide), h22, up2_j (by decide), h21, up2_j (by decide), h18, up2_j (by decide), h15, up2_s, f13]
      rfl
    · rw [h25, up2_j (by decide), h22, up2_j (by decide), h21, up2_j (by decide), h18, up2_s, f16, E15 1 7 cE17, E15 4 _ (cE4 _)]
      rfl
    · rw [h25, up2_j (by decide), h22, up2_j (by decide), h21, up2_s, e20, f19]
      rfl
    · rw [h25, up2_j (by decide), h22, up2_s]
      rfl
    · rw [h25, up2_s, K22]
      rfl
  refine gX12_ruled i25 E25 ?_
  intro M26 i26 f26 _ x27 e27 _ x28 e28 _
  have hw := hE.w hI
  have e : x28 = paF E (M k1) p2 := by
    rw [e28, e27]
    unfold paF
    rw [ruF_cg hw.1 hw.2 he]
  rw [e]
  exact hQ _ i26 (F25.tr (f26.mono (by intro k j h; exact Or.inr h)))
theorem gX12_goal_L27 {k1 : Nat} {p2 p3 b f : Int} {M E : Mem} {Q : Int → Mem → Prop} (hI : IM b M) (hE : CE E M) (hk1 : isN k1) (hf : 0 ≤ f ∧ f < eG E) (hp : 0 ≤ p3 ∧ p3 ≤ 3) (hQ : ∀ z : Int, f ≤ z → z ≤ min (eG E) (f + p3) → (z = f ∨ okF E (M k1) f z) → (∀ x, z < x → x ≤ min (eG E) (f + p3) → ¬ okF E (M k1) f x) → Q z M) : ∀ (n : Nat) (v5 v6 v7 v8 : Int), (f < v8 ∧ v8 ≤ min (eG E) (f + p3) + 1) → (f ≤ v5 ∧ v5 < v8) → (v5 = f ∨ okF E (M k1) f v5) → (∀ x, v5 < x → x < v8 → ¬ okF E (M k1) f x) → ((v6 = 0 ∧ ∀ x, f < x → x < v8 → x < eG E → onF (M k1) (eH E) x < 0) ∨ (v6 = 1 ∧ ∃ x, f < x ∧ x < v8 ∧ 0 ≤ onF (M k1) (eH E) x)) → (iR v7 ∧ ((v7 = 0 ∧ ∀ x, f ≤ x → x < v8 → E 2 x = 0) ∨ (v7 ≠ 0 ∧ ∃ x, f ≤ x ∧ x < v8 ∧ E 2 x ≠ 0))) → 30 - v8 < (n : Int) → qX12_goal_L27 k1 p2 p3 Q n f v5 v6 v7 v8 M := by
  intro n
  induction n with
  | zero => intro v5 v6 v7 v8 h8 h5 hb hx h6 h7 hm; have bg := hE.g hI; exact absurd hm (by clear h6 h7; omega)
  | succ n ih =>
    intro v5 v6 v7 v8 h8 h5 hb hx h6 h7 hm
    have bg := hE.g hI
    rw [qX12_goal_L27]
    refine gX12_gate hI hE ?_
    intro _
    refine ⟨⟨by omega, by omega⟩, ?_⟩
    intro x9 e9 _
    refine ⟨⟨by clear h6 h7; omega, by clear h6 h7; omega⟩, ⟨fun c => ⟨⟨by clear h6 h7; omega, by clear h6 h7; omega⟩, hQ _ h5.1 (by clear h6 h7; omega) hb (fun x a q => hx x a (by clear h6 h7; omega))⟩, fun c => ⟨h7.1, ?_⟩⟩⟩
    have hle : v8 ≤ min (eG E) (f + p3) := by clear h6 h7; omega
    -- whether it can stand there
    have fin : ∀ (t0 fr : Int), ((t0 = 0 ∧ ∀ x, f ≤ x → x ≤ v8 → E 2 x = 0) ∨ (t0 = 1 ∧ ∃ x, f ≤ x ∧ x ≤ v8 ∧ E 2 x ≠ 0)) → ((fr = 1 ∧ (v8 = eG E ∨ onF (M k1) (eH E) v8 < 0)) ∨ (fr = 0 ∧ v8 ≠ eG E ∧ 0 ≤ onF (M k1) (eH E) v8)) → ∀ t : Int, ((okF E (M k1) f v8 ∧ t = v8) ∨ (¬ okF E (M k1) f v8 ∧ t = v5)) → qX12_goal_J113 k1 p2 p3 (qX12_goal_L27 k1 p2 p3 Q n) Q f v6 t0 v8 fr t M := by
      intro t0 fr h0 hfr t ht
      have tb : f ≤ t ∧ t < v8 + 1 := by rcases ht with w | w <;> omega
      have tok : t = f ∨ okF E (M k1) f t := by
        rcases ht with w | w
        · rw [w.2]; exact Or.inr w.1
        · rw [w.2]; exact hb
      have tx : ∀ x, t < x → x < v8 + 1 → ¬ okF E (M k1) f x := by
        intro x a q
        rcases ht with w | w
        · omega
        · by_cases cx : x = v8
          · rw [cx]; exact w.1
          · exact hx x (by omega) (by omega)
      have t7 : iR t0 ∧ ((t0 = 0 ∧ ∀ x, f ≤ x → x < v8 + 1 → E 2 x = 0) ∨ (t0 ≠ 0 ∧ ∃ x, f ≤ x ∧ x < v8 + 1 ∧ E 2 x ≠ 0)) := by
        rcases h0 with w | w
        · exact ⟨⟨by omega, by omega⟩, Or.inl ⟨w.1, fun x a q => w.2 x a (by omega)⟩⟩
        · obtain ⟨x, a, q, u⟩ := w.2
          exact ⟨⟨by omega, by omega⟩, Or.inr ⟨by omega, x, a, by omega, u⟩⟩
      unfold qX12_goal_J113
      refine ⟨by rcases h6 with w | w <;> exact ⟨by omega, by omega⟩, ⟨fun c6 => ?_, fun c6 => ⟨by rcases hfr with w | w <;> exact ⟨by omega, by omega⟩, ⟨fun c9 => ?_, fun c9 => ?_⟩⟩⟩⟩
      · refine ih _ _ _ _ (by omega) tb tok tx (Or.inr ⟨rfl, ?_⟩) t7 (by omega)
        rcases h6 with w | w
        · exact absurd w.1 c6
        · obtain ⟨x, a, q, u⟩ := w.2
          exact ⟨x, a, by omega, u⟩
      · refine ih _ _ _ _ (by omega) tb tok tx (Or.inl ⟨rfl, fun x a q u => ?_⟩) t7 (by omega)
        by_cases cx : x = v8
        · rcases hfr with w | w
          · rcases w.2 with y | y
            · omega
            · rw [cx]; exact y
          · exact absurd w.1 c9
        · rcases h6 with w | w
          · exact w.2 x a (by omega) u
          · omega
      · refine ih _ _ _ _ (by omega) tb tok tx (Or.inr ⟨rfl, v8, by omega, by omega, ?_⟩) t7 (by omega)
        rcases hfr with w | w
        · omega
        · exact w.2.2
    have pass : v6 = 0 ↔ ∀ x, f < x → x < v8 → onF (M k1) (eH E) x < 0 := by
      refine ⟨fun w => ?_, fun w => ?_⟩
      · rcases h6 with y | y
        · exact fun x a q => y.2 x a q (by omega)
        · omega
      · rcases h6 with y | y
        · exact y.1
        · obtain ⟨x, a, q, u⟩ := y.2
          have := w x a q
          omega
    have J89 : ∀ (t0 fr : Int), ((t0 = 0 ∧ ∀ x, f ≤ x → x ≤ v8 → E 2 x = 0) ∨ (t0 = 1 ∧ ∃ x, f ≤ x ∧ x ≤ v8 ∧ E 2 x ≠ 0)) → ((fr = 1 ∧ (v8 = eG E ∨ onF (M k1) (eH E) v8 < 0)) ∨ (fr = 0 ∧ v8 ≠ eG E ∧ 0 ≤ onF (M k1) (eH E) v8)) → qX12_goal_J89 k1 p2 p3 (qX12_goal_L27 k1 p2 p3 Q n) Q f v5 v6 t0 v8 fr M := by
      intro t0 fr h0 hfr
      unfold qX12_goal_J89
      refine ⟨by rcases hfr with w | w <;> exact ⟨by omega, by omega⟩, ⟨fun c1 => ?_, fun c1 => ⟨by rcases h6 with w | w <;> exact ⟨by omega, by omega⟩, ⟨fun c2 => ?_, fun c2 => ⟨by rcases h0 with w | w <;> exact ⟨by omega, by omega⟩, ⟨fun c3 => ?_, fun c3 => ?_⟩⟩⟩⟩⟩⟩
      · unfold qX12_goal_J111
        refine fin _ _ h0 hfr _ (Or.inr ⟨fun ok => ?_, rfl⟩)
        rcases hfr with w | w
        · omega
        · rcases ok.1 with y | y
          · exact w.2.1 y
          · omega
      · unfold qX12_goal_J106
        refine fin _ _ h0 hfr _ (Or.inl ⟨⟨?_, Or.inl (pass.mp c2)⟩, rfl⟩)
        rcases hfr with w | w
        · exact w.2
        · exact absurd w.1 c1
      · unfold qX12_goal_J111
        refine fin _ _ h0 hfr _ (Or.inr ⟨fun ok => ?_, rfl⟩)
        rcases ok.2 with y | y
        · exact c2 (pass.mpr y)
        · rcases h0 with w | w
          · exact c3 w.1
          · obtain ⟨x, a, q, u⟩ := w.2
            exact u (y x a q)
      · unfold qX12_goal_J106
        refine fin _ _ h0 hfr _ (Or.inl ⟨⟨?_, Or.inr ?_⟩, rfl⟩)
        · rcases hfr with w | w
          · exact w.2
          · exact absurd w.1 c1
        · rcases h0 with w | w
          · exact w.2
          · omega
    have J63 : ∀ t0 : Int, ((t0 = 0 ∧ ∀ x, f ≤ x → x ≤ v8 → E 2 x = 0) ∨ (t0 = 1 ∧ ∃ x, f ≤ x ∧ x ≤ v8 ∧ E 2 x ≠ 0)) → qX12_goal_J63 k1 p2 p3 (qX12_goal_L27 k1 p2 p3 Q n) Q f v5 v6 v8 t0 M := by
      intro t0 h0
      unfold qX12_goal_J63
      refine gX12_gate hI hE ?_
      intro _
      refine ⟨⟨by omega, by omega⟩, ⟨fun c1 => ?_, fun c1 => ?_⟩⟩
      · unfold qX12_goal_J84
        exact J89 _ _ h0 (Or.inl ⟨rfl, Or.inl c1⟩)
      · refine gX12_onCell hI hE ?_
        intro _
        refine ⟨fun c2 => J89 _ _ h0 (Or.inr ⟨rfl, c1, c2⟩), fun c2 => ?_⟩
        unfold qX12_goal_J84
        exact J89 _ _ h0 (Or.inl ⟨rfl, Or.inr (by omega)⟩)
    have J58 : (∃ x, f ≤ x ∧ x ≤ v8 ∧ E 2 x ≠ 0) → qX12_goal_J58 k1 p2 p3 (qX12_goal_L27 k1 p2 p3 Q n) Q f v5 v6 v8 M := by
      intro h
      unfold qX12_goal_J58
      exact J63 _ (Or.inr ⟨rfl, h⟩)
    refine ⟨fun c7 => J58 ?_, fun c7 => ⟨by clear h6 h7; omega, by clear h6 h7; omega, ?_⟩⟩
    · rcases h7.2 with w | w
      · exact absurd w.1 c7
      · obtain ⟨x, a, q, u⟩ := w.2
        exact ⟨x, a, by omega, u⟩
    · intro x32 e32 _
      have f32 : x32 = E 2 v8 := by rw [e32]; exact hE 2 _ (cE2 _)
      refine ⟨fun c8 => J63 _ (Or.inl ⟨rfl, fun x a q => ?_⟩), fun c8 => J58 ⟨v8, by omega, by omega, by rw [← f32]; exact c8⟩⟩
      by_cases cx : x = v8
      · rw [cx, ← f32]; exact c8
      · rcases h7.2 with w | w
        · exact w.2 x a (by omega)
        · exact absurd c7 w.1
theorem gX12_goal {k1 : Nat} {p2 p3 b : Int} {M E : Mem} {Q : Int → Mem → Prop} (hI : IM b M) (hE : CE E M) (hk1 : isN k1) (hp2 : 0 ≤ p2 ∧ p2 ≤ 5) (hf : 0 ≤ M k1 p2 ∧ M k1 p2 < eG E) (hp : 0 ≤ p3 ∧ p3 ≤ 3) (hQ : Q (goF E (M k1) p2 p3) M) : qX12_goal k1 p2 p3 M Q := by
  have bg := hE.g hI
  unfold qX12_goal
  refine ⟨by omega, by omega, ?_⟩
  intro x3 e3 _
  rw [← e3] at hf
  refine ⟨by omega, by omega, ?_⟩
  intro x6 e6 r6
  have f6 : x6 = E 2 x3 := by rw [e6]; exact hE 2 _ (cE2 _)
  refine ⟨31, gX12_goal_L27 hI hE hk1 hf hp ?_ _ _ _ _ _ (by omega) (by omega) (Or.inl rfl) (fun x a q => by omega) (Or.inl ⟨rfl, fun x a q => by omega⟩) ⟨r6, ?_⟩ (by omega)⟩
  · intro z z0 z1 zo zx
    have e : goF E (M k1) p2 p3 = z := by
      unfold goF
      rw [← e3]
      refine gdF_u ⟨⟨z0, by omega⟩, zo, fun x a q => zx x a (by omega)⟩
    rw [← e]
    exact hQ
  · by_cases c : x6 = 0
    · exact Or.inl ⟨c, fun x a q => by rw [show x = x3 from by omega, ← f6]; exact c⟩
    · exact Or.inr ⟨c, x3, by omega, by omega, by rw [← f6]; exact c⟩
end
section
theorem gX12_hearseGoes {k1 : Nat} {p2 b : Int} {M E : Mem} {Q : Mem → Prop} (hI : IM b M) (hE : CE E M) (hk1 : isN k1) (hp : 0 ≤ p2 ∧ p2 ≤ 5) (hf : 0 ≤ M k1 p2 ∧ M k1 p2 < eG E) (hQ : ∀ M' : Mem, IM b M' → FrJ (fun k j => k = k1 ∨ k = 14 ∨ k = 13 ∨ (k = 1 ∧ j = 30) ∨ k = 16) M M' → M' k1 = mhF E (M k1) p2 → Q M') : qX12_hearseGoes k1 p2 M Q := by
  have hk : k1 = 5 ∨ k1 = 6 := hk1
  have bg := hE.g hI
  unfold qX12_hearseGoes
  refine gX12_paceOf hI hE hk1 ⟨hp.1, hp.2, hf.1⟩ ?_
  intro M1 i1 f1 _
  have K1 : M1 k1 = M k1 := funext fun j => f1 k1 j (by omega)
  have E1 : CE E M1 := hE.fr f1 (by intro k j h; rcases h with h | h | h | h | h <;> omega)
  have F1 : FrJ (fun k j => k = k1 ∨ k = 14 ∨ k = 13 ∨ (k = 1 ∧ j = 30) ∨ k = 16) M M1 := f1.mono (by intro k j h; omega)
  have bp : 0 ≤ paF E (M k1) p2 ∧ paF E (M k1) p2 ≤ 3 := by unfold paF; omega
  refine gX12_goal (p2 := p2) i1 E1 hk1 hp (by rw [K1]; exact hf) bp ?_
  rw [K1]
  intro _
  have gb := gdF_c (okF E (M k1) (M k1 p2)) (M k1 p2) (min (eG E) (M k1 p2 + paF E (M k1) p2) - M k1 p2).toNat
  have gl : M k1 p2 ≤ goF E (M k1) p2 (paF E (M k1) p2) ∧ goF E (M k1) p2 (paF E (M k1) p2) ≤ eG E := by
    have h1 := gb.1
    show M k1 p2 ≤ gdF _ _ _ ∧ gdF _ _ _ ≤ eG E
    omega
  refine ⟨by omega, by omega, ?_⟩
  intro x5 e5 _
  have f5 : x5 = M k1 p2 := e5
  refine ⟨fun c => ?_, fun c => ?_⟩
  · rw [f5] at c
    refine gX12_gate i1 E1 ?_
    intro _
    refine ⟨fun c2 => ?_, fun c2 => ?_⟩
    · intro M9 h9
      refine hQ _ (by rw [h9]; exact i1.up (isN.nu hk1 _) ((bm_n hk1).mpr ⟨by omega, by omega, by omega, by omega⟩)) (by rw [h9]; exact F1.up (Or.inl rfl)) ?_
      rw [h9, up2_up, K1]
      unfold mhF
      rw [if_neg c, if_neg c2]
    · intro x10 e10 _ x11 e11 r11 M12 h12 x13 e13 _
      have f10 : x10 = M k1 12 := by rw [e10, K1]
      have f13 : x13 = x11 := by rw [e13, h12, up2_s]
      have i12 : IM b M12 := by rw [h12]; exact i1.up (isN.nu hk1 _) ((bm_n hk1).mpr ⟨by omega, by omega, by omega, by omega⟩)
      refine ⟨by omega, by omega, ?_⟩
      intro M16 h16 M17 h17
      have i16 : IM b M16 := by rw [h16]; exact i12.up (isN.nu hk1 _) ((bm_n hk1).mpr ⟨by omega, by omega, by omega, by omega⟩)
      refine hQ _ (by rw [h17]; exact i16.up (isN.nu hk1 _) ((bm_n hk1).mpr ⟨by omega, by omega, by omega, by omega⟩)) (by rw [h17, h16, h12]; exact ((F1.up (Or.inl rfl)).up (Or.inl rfl)).up (Or.inl rfl)) ?_
      rw [h17, up2_up, h16, up2_up, h12, up2_up, K1, f13, e11, f10]
      unfold mhF
      rw [if_neg c, if_pos c2]
  · rw [f5] at c
    intro x18 _ _ x19 _ _ M20 h20
    have i20 : IM b M20 := by rw [h20]; exact i1.up (by omega) (by simp [BM])
    refine ⟨by omega, by omega, ?_⟩
    intro x23 _ _ x24 _ _ M25 h25
    refine hQ _ (by rw [h25]; exact i20.up (by omega) (by simp [BM])) (by rw [h25, h20]; exact (F1.up (by omega)).up (by omega)) ?_
    rw [h25, up2_n (by omega), h20, up2_n (by omega), K1]
    unfold mhF
    rw [if_pos c]
theorem gX12_nearest_L5 {k1 : Nat} {p2 b : Int} {Q : Int → Mem → Prop} {M E : Mem} (hI : IM b M) (hE : CE E M) (hk1 : isN k1) (hp : -1 ≤ p2 ∧ p2 ≤ 29) (hQ : Q (nearF (M k1) p2 (eH E)) M) : ∀ (n : Nat) (v3 v4 : Int), v3 = nearF (M k1) p2 v4.toNat → (0 ≤ v4 ∧ v4 ≤ M 1 4) → M 1 4 - v4 < (n : Int) → qX12_nearest_L5 k1 p2 Q n v3 v4 M := by
  intro n
  induction n with
  | zero => intro v3 v4 h3 hv hm; exact absurd hm (by omega)
  | succ n ih =>
    intro v3 v4 h3 hv hm
    have hk : k1 = 5 ∨ k1 = 6 := hk1
    have bH := hE.h hI
    have bn := nearF_b (M k1) p2 v4.toNat
    have hs := nearF_s (c := M k1) (v := p2) hv.1
    rw [← h3] at bn hs
    rw [qX12_nearest_L5]
    intro x1 e1 _
    refine ⟨⟨by omega, by omega⟩, ⟨fun c => ⟨⟨by omega, by omega⟩, ?_⟩, fun c => ?_⟩⟩
    · rw [h3, show v4.toNat = eH E from by omega]
      exact hQ
    · refine gX12_isOn (p1 := v4) ⟨by omega, by omega⟩ ?_
      intro x5 p5 _ _
      refine ⟨fun c5 => ?_, fun c5 => ?_⟩
      · refine ih _ _ ?_ (by omega) (by omega)
        rw [hs, if_neg (fun w => by omega)]
      · refine ⟨by omega, by omega, ?_⟩
        intro x9 e9 _
        have b9 : -1 ≤ x9 ∧ x9 ≤ 29 := by rw [e9]; exact ((bm_n hk1).mp (hI.bx _ _)).1 ⟨by omega, by omega⟩
        refine ⟨⟨by omega, by omega⟩, ?_⟩
        intro x11 p11 n11
        have a11 := ab_e p11 n11
        have b11 := ab_b (x9 - p2)
        have YES : (v3 < 0 ∨ ab (M k1 v4 - p2) < ab (M k1 v3 - p2) ∨ (ab (M k1 v4 - p2) = ab (M k1 v3 - p2) ∧ M k1 v3 < M k1 v4)) → qX12_nearest_L5 k1 p2 Q n v4 (v4 + 1) M := fun w => ih _ _ (by rw [hs, if_pos ⟨by omega, w⟩]) (by omega) (by omega)
        have NO : ¬ (v3 < 0 ∨ ab (M k1 v4 - p2) < ab (M k1 v3 - p2) ∨ (ab (M k1 v4 - p2) = ab (M k1 v3 - p2) ∧ M k1 v3 < M k1 v4)) → qX12_nearest_L5 k1 p2 Q n v3 (v4 + 1) M := fun w => ih _ _ (by rw [hs, if_neg (fun u => w u.2)]) (by omega) (by omega)
        rw [← e9, ← a11] at YES NO
        refine ⟨⟨by omega, by omega⟩, ⟨fun c3 => ⟨by omega, by omega, ?_⟩, fun c3 => ?_⟩⟩
        · intro x16 e16 _
          have b16 : -1 ≤ x16 ∧ x16 ≤ 29 := by rw [e16]; exact ((bm_n hk1).mp (hI.bx _ _)).1 ⟨by omega, by omega⟩
          refine ⟨⟨by omega, by omega⟩, ?_⟩
          intro x18 p18 n18
          have a18 := ab_e p18 n18
          have b18 := ab_b (x16 - p2)
          rw [← e16, ← a18] at YES NO
          unfold qX12_nearest_J52
          refine ⟨⟨by omega, by omega⟩, ⟨by omega, by omega⟩, ⟨fun c6 => YES (by omega), fun c6 => ⟨fun c7 => NO (by omega), fun c7 => ⟨by omega, by omega, ?_⟩⟩⟩⟩
          intro x25 e25 _
          refine ⟨by omega, by omega, ?_⟩
          intro x28 e28 _
          exact ⟨fun c8 => NO (by omega), fun c8 => YES (by omega)⟩
        · unfold qX12_nearest_J52
          refine ⟨⟨by omega, by omega⟩, ⟨by decide, by decide⟩, ⟨fun c6 => YES (Or.inl (by omega)), fun c6 => by omega⟩⟩
theorem gX12_nearest {k1 : Nat} {p2 b : Int} {Q : Int → Mem → Prop} {M E : Mem} (hI : IM b M) (hE : CE E M) (hk1 : isN k1) (hp : -1 ≤ p2 ∧ p2 ≤ 29) (hQ : Q (nearF (M k1) p2 (eH E)) M) : qX12_nearest k1 p2 M Q := by
  have bH := hE.h hI
  unfold qX12_nearest
  exact ⟨7, gX12_nearest_L5 hI hE hk1 hp hQ _ _ _ rfl (by omega) (by omega)⟩
theorem gX12_mournerGoes {k1 : Nat} {p2 b : Int} {M E : Mem} {Q : Mem → Prop} (hI : IM b M) (hE : CE E M) (hk1 : isN k1) (hp : 0 ≤ p2 ∧ p2 ≤ 7) (hQ : ∀ M' : Mem, IM b M' → FrJ (fun k j => k = k1 ∨ (k = 1 ∧ j = 31) ∨ k = 17) M M' → M' k1 = mmF E (M k1) p2 → Q M') : qX12_mournerGoes k1 p2 M Q := by
  have hk : k1 = 5 ∨ k1 = 6 := hk1
  have bH := hE.h hI
  have bF : -1 ≤ M k1 (21 + p2) ∧ M k1 (21 + p2) ≤ 5 := ((bm_n hk1).mp (hI.bx _ _)).2.2.1 ⟨by omega, by omega⟩
  have bA : -1 ≤ M k1 (13 + p2) ∧ M k1 (13 + p2) ≤ 29 := ((bm_n hk1).mp (hI.bx _ _)).2.1 ⟨by omega, by omega⟩
  have bn := nearF_b (M k1) (M k1 (13 + p2)) (eH E)
  have J105 : ∀ (v3 : Int) (M' : Mem) (F : Int → Int), IM b M' → FrJ (fun k j => k = k1 ∨ (k = 1 ∧ j = 31) ∨ k = 17) M M' → (-1 ≤ v3 ∧ v3 ≤ 5) → (v3 < 0 → M' k1 = mmF E (M k1) p2) → (0 ≤ v3 → M' k1 v3 = M k1 v3 ∧ mmF E (M k1) p2 = up (M' k1) (13 + p2) (goM (M k1) p2 v3)) → qX12_mournerGoes_J105 k1 p2 Q v3 (M k1 (13 + p2)) M' := by
    intro v3 M' F i' f' h3 hn hp3
    unfold qX12_mournerGoes_J105
    refine ⟨⟨by omega, by omega⟩, ⟨fun c => hQ _ i' f' (hn c), fun c => ⟨by omega, by omega, ?_⟩⟩⟩
    obtain ⟨k3, km⟩ := hp3 (by omega)
    intro x14 e14 _
    have f14 : x14 = M k1 v3 := by rw [e14, k3]
    have b14 : -1 ≤ x14 ∧ x14 ≤ 29 := by rw [f14]; exact ((bm_n hk1).mp (hI.bx _ _)).1 ⟨by omega, by omega⟩
    have fin : ∀ t : Int, (-1 ≤ t ∧ t ≤ 29) → t = goM (M k1) p2 v3 → qX12_mournerGoes_J145 k1 p2 Q t (13 + p2) M' := by
      intro t ht et
      unfold qX12_mournerGoes_J145
      refine ⟨by omega, by omega, ⟨by omega, by omega⟩, ?_⟩
      intro M23 h23
      refine hQ _ (by rw [h23]; exact i'.up (isN.nu hk1 _) ((bm_n hk1).mpr ⟨by omega, by omega, by omega, by omega⟩)) (by rw [h23]; exact f'.up (Or.inl rfl)) ?_
      rw [h23, up2_up, km, et]
    refine ⟨⟨by omega, by omega⟩, ⟨fun c2 => ?_, fun c2 => ?_⟩⟩
    · intro x17 e17 _
      refine ⟨⟨by omega, by omega⟩, ?_⟩
      intro x19 e19 _
      refine fin _ (by omega) ?_
      unfold goM
      rw [if_pos (by omega), e19]
      have : x17 = M k1 v3 := by rw [e17, k3]
      rw [this]
    · intro x24 e24 _
      refine ⟨⟨by omega, by omega⟩, ?_⟩
      intro x26 e26 _
      have : x24 = M k1 v3 := by rw [e24, k3]
      refine fin _ (by omega) ?_
      unfold goM
      rw [if_neg (by omega), e26, this]
  have J75 : chF E (M k1) p2 → (M k1 (21 + p2) < 0 ∨ 0 ≤ M k1 (M k1 (21 + p2))) → qX12_mournerGoes_J75 k1 p2 Q (M k1 (13 + p2)) (nearF (M k1) (M k1 (13 + p2)) (eH E)) M := by
    intro hch hno
    have h0 : 0 ≤ nearF (M k1) (M k1 (13 + p2)) (eH E) := hch.1
    unfold qX12_mournerGoes_J75
    refine ⟨by omega, by omega, ⟨by omega, by omega⟩, ?_⟩
    intro M32 h32 x33 _ _ x34 _ _ M35 h35
    have i32 : IM b M32 := by rw [h32]; exact hI.up (isN.nu hk1 _) ((bm_n hk1).mpr ⟨by omega, by omega, by omega, by omega⟩)
    have i35 : IM b M35 := by rw [h35]; exact i32.up (by omega) (by simp [BM])
    refine ⟨by omega, by omega, ?_⟩
    intro x38 _ _ x39 _ _ M40 h40
    have i40 : IM b M40 := by rw [h40]; exact i35.up (by omega) (by simp [BM])
    have K : M40 k1 = up (M k1) (21 + p2) (nearF (M k1) (M k1 (13 + p2)) (eH E)) := by rw [h40, up2_n (by omega), h35, up2_n (by omega), h32, up2_up]
    refine J105 _ _ (fun _ => 0) i40 (by rw [h40, h35, h32]; exact ((FrJ.rf.up (Or.inl rfl)).up (by omega)).up (by omega)) (by omega) (fun q => by omega) (fun _ => ⟨by rw [K, up_j (by omega)], ?_⟩)
    rw [K]
    unfold mmF
    rw [if_neg (by omega), if_pos hch]
  have J27 : (M k1 (21 + p2) < 0 ∨ 0 ≤ M k1 (M k1 (21 + p2))) → qX12_mournerGoes_J27 k1 p2 Q (M k1 (21 + p2)) M := by
    intro hno
    unfold qX12_mournerGoes_J27
    refine ⟨by omega, by omega, ?_⟩
    intro x7 e7 _
    rw [e7]
    refine gX12_nearest (p2 := M k1 (13 + p2)) hI hE hk1 bA ?_
    intro _
    have NO : ¬ chF E (M k1) p2 → qX12_mournerGoes_J105 k1 p2 Q (M k1 (21 + p2)) (M k1 (13 + p2)) M := by
      intro hch
      refine J105 _ _ (fun _ => 0) hI FrJ.rf bF (fun q => ?_) (fun q => ⟨rfl, ?_⟩)
      · unfold mmF
        rw [if_neg (by omega), if_neg hch, if_pos q]
      · unfold mmF
        rw [if_neg (by omega), if_neg hch, if_neg (by omega)]
    refine ⟨fun c => NO (fun h => by have := h.1; omega), fun c => ⟨⟨by omega, by omega⟩, ⟨fun c2 => J75 ⟨by omega, Or.inl c2⟩ hno, fun c2 => ⟨by omega, by omega, ?_⟩⟩⟩⟩
    intro x43 e43 _
    have b43 : -1 ≤ x43 ∧ x43 ≤ 29 := by rw [e43]; exact ((bm_n hk1).mp (hI.bx _ _)).1 ⟨by omega, by omega⟩
    refine ⟨⟨by omega, by omega⟩, ?_⟩
    intro x45 p45 n45
    have a45 := ab_e p45 n45
    have b45 := ab_b (x43 - M k1 (13 + p2))
    refine ⟨by omega, by omega, ?_⟩
    intro x48 e48 _
    have b48 : -1 ≤ x48 ∧ x48 ≤ 29 := by rw [e48]; exact ((bm_n hk1).mp (hI.bx _ _)).1 ⟨by omega, by omega⟩
    refine ⟨⟨by omega, by omega⟩, ?_⟩
    intro x50 p50 n50
    have a50 := ab_e p50 n50
    have b50 := ab_b (x48 - M k1 (13 + p2))
    rw [e43] at a45
    rw [e48] at a50
    refine ⟨⟨by omega, by omega⟩, ⟨by omega, by omega⟩, ⟨fun c3 => NO (fun h => ?_), fun c3 => J75 ⟨by omega, Or.inr (by omega)⟩ hno⟩⟩
    rcases h.2 with w | w
    · omega
    · omega
  unfold qX12_mournerGoes
  refine ⟨by omega, by omega, ?_⟩
  intro x3 e3 _
  rw [e3]
  refine ⟨fun c => J27 (Or.inl c), fun c => ?_⟩
  refine gX12_isOn (p1 := M k1 (21 + p2)) ⟨by omega, by omega⟩ ?_
  intro x54 p54 _ _
  refine ⟨fun c2 => J27 (Or.inr (by omega)), fun c2 => ⟨by omega, by omega, ?_⟩⟩
  intro M58 h58
  refine hQ _ (by rw [h58]; exact hI.up (isN.nu hk1 _) ((bm_n hk1).mpr ⟨by omega, by omega, by omega, by omega⟩)) (by rw [h58]; exact FrJ.rf.up (Or.inl rfl)) ?_
  rw [h58, up2_up]
  unfold mmF
  rw [if_pos ⟨by omega, by omega⟩]
-- the line
theorem lnL_s {r : Int → Int} {H : Nat} {c : Int} (h : 0 ≤ c) : lnL r H (c + 1).toNat = if 0 ≤ onF r H c then onF r H c :: lnL r H c.toNat else lnL r H c.toNat := by
  rw [show (c + 1).toNat = c.toNat + 1 from by omega]
  show (if 0 ≤ onF r H (c.toNat : Nat) then onF r H (c.toNat : Nat) :: lnL r H c.toNat else lnL r H c.toNat) = _
  rw [show ((c.toNat : Nat) : Int) = c from by omega]
/-- the rest of the line is l -/
def LL (M : Mem) (i : Int) (l : List Int) : Prop := M 1 35 = i + l.length ∧ ∀ j : Nat, j < l.length → M 18 (i + j) = l.getD j 0
theorem getD_l {l m : List Int} {j : Nat} (h : j < l.length) : (l ++ m).getD j 0 = l.getD j 0 := by
  simp [List.getD, List.getElem?_append, h]
theorem getD_e {l : List Int} {x : Int} : (l ++ [x]).getD l.length 0 = x := by
  simp [List.getD, List.getElem?_append]
theorem gX12_laysLine_L12 {k1 : Nat} {b : Int} {M0 E : Mem} {Q : Mem → Prop} {L : List Int} (hk1 : isN k1) (hQ : ∀ M' : Mem, IM b M' → FrJ (fun k j => k = 18 ∨ (k = 1 ∧ j = 35)) M0 M' → LL M' 0 L → L.length ≤ 6 → Q M') : ∀ (n : Nat) (v2 : Int) (M : Mem) (P : List Int), IM b M → CE E M → FrJ (fun k j => k = 18 ∨ (k = 1 ∧ j = 35)) M0 M → (-1 ≤ v2 ∧ v2 ≤ 29) → P ++ lnL (M0 k1) (eH E) (v2 + 1).toNat = L → M 1 35 = P.length → (∀ j : Nat, j < P.length → M 18 j = P.getD j 0) → (P.length : Int) ≤ sOn (M0 k1) v2 → v2 + 1 < (n : Int) → qX12_laysLine_L12 k1 Q n v2 M := by
  intro n
  induction n with
  | zero => intro v2 M P hI hE hF hv hL h35 h18 hb hm; exact absurd hm (by omega)
  | succ n ih =>
    intro v2 M P hI hE hF hv hL h35 h18 hb hm
    have hk : k1 = 5 ∨ k1 = 6 := hk1
    have bH := hE.h hI
    have bb := bm_c1_35.mp (hI.bx 1 35)
    have K : M k1 = M0 k1 := funext fun j => hF k1 j (by omega)
    rw [qX12_laysLine_L12]
    refine ⟨⟨by omega, by omega⟩, ⟨fun c => hQ _ hI hF ?_ ?_, fun c => ?_⟩⟩
    · have e : P = L := by
        rw [show v2 + 1 = 0 from by omega] at hL
        simpa [lnL] using hL
      refine ⟨by rw [← e]; omega, fun j hj => ?_⟩
      rw [show (0 : Int) + j = j from by omega, h18 j (by rw [e]; exact hj), e]
    · have e : P = L := by
        rw [show v2 + 1 = 0 from by omega] at hL
        simpa [lnL] using hL
      rw [← e]
      omega
    · refine gX12_onCell hI hE ?_
      intro _
      rw [K]
      have hs := lnL_s (r := M0 k1) (H := eH E) (c := v2) (by omega)
      refine ⟨fun c2 => ?_, fun c2 => ?_⟩
      · rw [hs, if_neg (by omega)] at hL
        have := sOn_mono (M0 k1) v2
        exact ih _ _ P hI hE hF (by omega) (by rw [show v2 + (-1) + 1 = v2 from by omega]; exact hL) h35 h18 (by rw [show v2 + (-1) = v2 - 1 from by omega]; omega) (by omega)
      · rw [hs, if_pos (by omega)] at hL
        have ob := onF_b (M0 k1) (eH E) v2
        have hh := sOn_hit (f := M0 k1) (v := v2) (h := onF (M0 k1) (eH E) v2) (by omega) (onF_c (by omega))
        intro x7 e7 _
        refine ⟨by omega, by omega, ?_⟩
        intro M10 h10 x11 e11 _
        have i10 : IM b M10 := by rw [h10]; exact hI.up (by omega) (bm_c18.mpr ⟨by omega, by omega⟩)
        have f11 : x11 = x7 := by rw [e11, h10, up2_n (by decide), e7]
        refine ⟨⟨by omega, by omega⟩, ?_⟩
        intro M13 h13
        have i13 : IM b M13 := by rw [h13]; exact i10.up (by omega) (bm_c1_35.mpr ⟨by omega, by omega⟩)
        have E13 : CE E M13 := by rw [h13, h10]; exact (hE.up (by intro h; rcases h with h | h | h | h | h <;> omega)).up (by decide)
        refine ih _ _ (P ++ [onF (M0 k1) (eH E) v2]) i13 E13 (by rw [h13, h10]; exact (hF.up (Or.inl rfl)).up (Or.inr ⟨rfl, rfl⟩)) (by omega) ?_ ?_ ?_ ?_ (by omega)
        · rw [show v2 + (-1) + 1 = v2 from by omega, List.append_assoc]
          exact hL
        · rw [h13, up2_s, List.length_append]
          simp
          omega
        · intro j hj
          rw [List.length_append] at hj
          have hj2 : j < P.length + 1 := hj
          rw [h13, up2_n (by decide), h10]
          by_cases cj : j = P.length
          · rw [cj, show ((P.length : Nat) : Int) = x7 from by omega, up2_s, getD_e]
          · rw [up2_j (by omega), getD_l (by omega)]
            exact h18 j (by omega)
        · rw [List.length_append, show v2 + (-1) = v2 - 1 from by omega]
          simp
          omega
theorem gX12_laysLine {k1 : Nat} {b : Int} {M E : Mem} {Q : Mem → Prop} (hI : IM b M) (hE : CE E M) (hk1 : isN k1) (hQ : ∀ M' : Mem, IM b M' → FrJ (fun k j => k = 18 ∨ (k = 1 ∧ j = 35)) M M' → LL M' 0 (lnL (M k1) (eH E) (eG E).toNat) → (lnL (M k1) (eH E) (eG E).toNat).length ≤ 6 → Q M') : qX12_laysLine k1 M Q := by
  have hk : k1 = 5 ∨ k1 = 6 := hk1
  have bg := hE.g hI
  unfold qX12_laysLine
  intro M1 h1
  have i1 : IM b M1 := by rw [h1]; exact hI.up (by omega) (bm_c1_35.mpr (by decide))
  have E1 : CE E M1 := by rw [h1]; exact hE.up (by decide)
  have F1 : FrJ (fun k j => k = 18 ∨ (k = 1 ∧ j = 35)) M M1 := by rw [h1]; exact FrJ.rf.up (Or.inr ⟨rfl, rfl⟩)
  refine gX12_gate i1 E1 ?_
  intro _
  refine ⟨31, gX12_laysLine_L12 (E := E) hk1 hQ _ _ _ [] i1 E1 F1 (by omega) (by rw [show eG E - 1 + 1 = eG E from by omega]; rfl) (by rw [h1, up2_s]; rfl) (fun j hj => absurd hj (Nat.not_lt_zero _)) ?_ (by omega)⟩
  have a0 := tOn_b (M k1) (eG E - 1) 0
  have a1 := tOn_b (M k1) (eG E - 1) 1
  have a2 := tOn_b (M k1) (eG E - 1) 2
  have a3 := tOn_b (M k1) (eG E - 1) 3
  have a4 := tOn_b (M k1) (eG E - 1) 4
  have a5 := tOn_b (M k1) (eG E - 1) 5
  show ((0 : Nat) : Int) ≤ sOn (M k1) (eG E - 1)
  unfold sOn
  omega
theorem lnL_m {r : Int → Int} {H c : Nat} {h : Int} (hm : h ∈ lnL r H c) : 0 ≤ h ∧ h < H ∧ 0 ≤ r h ∧ r h < c := by
  induction c with
  | zero => exact absurd hm (by simp [lnL])
  | succ c ih =>
    unfold lnL at hm
    by_cases q : 0 ≤ onF r H c
    · rw [if_pos q] at hm
      rcases List.mem_cons.mp hm with w | w
      · have e := onF_c q
        have b := onF_b r H c
        rw [w, e]
        omega
      · have := ih w
        omega
    · rw [if_neg q] at hm
      have := ih hm
      omega
/-- hearses that can go, each once -/
def VL (g : Int) (r : Int → Int) : List Int → Prop
  | [] => True
  | h :: t => (0 ≤ h ∧ h ≤ 5 ∧ 0 ≤ r h ∧ r h < g) ∧ (∀ h' ∈ t, h' ≠ h) ∧ VL g r t
theorem VL.cg {g : Int} {r r' : Int → Int} {l : List Int} (h : VL g r l) (he : ∀ x ∈ l, r' x = r x) : VL g r' l := by
  induction l with
  | nil => trivial
  | cons a t ih =>
    obtain ⟨h1, h2, h3⟩ := h
    have ea := he a (List.mem_cons_self ..)
    exact ⟨by rw [ea]; exact h1, h2, ih h3 (fun x hx => he x (List.mem_cons_of_mem _ hx))⟩
theorem lnL_VL {r : Int → Int} {H : Nat} {g : Int} (hH : H ≤ 6) (c : Nat) (hc : (c : Int) ≤ g) : VL g r (lnL r H c) := by
  induction c with
  | zero => trivial
  | succ c ih =>
    unfold lnL
    by_cases q : 0 ≤ onF r H c
    · rw [if_pos q]
      have e := onF_c q
      have b := onF_b r H c
      refine ⟨⟨q, by omega, by rw [e]; omega, by rw [e]; omega⟩, fun h' hm eq => ?_, ih (by omega)⟩
      have := lnL_m hm
      rw [eq, e] at this
      omega
    · rw [if_neg q]
      exact ih (by omega)
theorem VL.i {g : Int} {r : Int → Int} {l : List Int} (h : VL g r l) : ∀ x ∈ l, 0 ≤ x ∧ x ≤ 5 := by
  induction l with
  | nil => intro x hx; exact absurd hx (by simp)
  | cons a t ih =>
    intro x hx
    rcases List.mem_cons.mp hx with w | w
    · rw [w]; exact ⟨h.1.1, h.1.2.1⟩
    · exact ih h.2.2 x w
theorem mhF_o {E : Mem} {r : Int → Int} {h j : Int} (h1 : j ≠ h) (h2 : j ≠ 6 + h) (h3 : j ≠ 12) : mhF E r h j = r j := by
  unfold mhF
  split
  · rfl
  · split
    · rw [up_j h1, up_j h2, up_j h3]
    · rw [up_j h1]
theorem gX12_stepGoes_L7 {k1 : Nat} {b : Int} {E : Mem} {X32 Q : Mem → Prop} {A : Int → Int} (hk1 : isN k1) (hX : ∀ M' : Mem, IM b M' → CE E M' → M' k1 = A → X32 M') : ∀ (n : Nat) (v2 : Int) (M : Mem) (l : List Int), IM b M → CE E M → LL M v2 l → VL (eG E) (M k1) l → hsF E l (M k1) = A → (0 ≤ v2 ∧ v2 + l.length ≤ 6) → 6 - v2 < (n : Int) → qX12_stepGoes_L7 k1 X32 Q n v2 M := by
  intro n
  induction n with
  | zero => intro v2 M l hI hE hL hV hA hv hm; exact absurd hm (by omega)
  | succ n ih =>
    intro v2 M l hI hE hL hV hA hv hm
    have hk : k1 = 5 ∨ k1 = 6 := hk1
    rw [qX12_stepGoes_L7]
    intro x2 e2 _
    have f2 : x2 = v2 + l.length := by rw [e2]; exact hL.1
    refine ⟨⟨by omega, by omega⟩, ⟨fun c => ?_, fun c => ⟨by omega, by omega, ?_⟩⟩⟩
    · cases l with
      | nil => exact hX _ hI hE hA
      | cons h t => simp at f2; omega
    · intro x7 e7 _
      cases l with
      | nil => simp at f2; omega
      | cons h t =>
        obtain ⟨h1, h2, h3⟩ := hV
        have f7 : x7 = h := by
          have := hL.2 0 (by simp)
          rw [show v2 + ((0 : Nat) : Int) = v2 from by omega] at this
          rw [e7, this]
          rfl
        rw [f7]
        refine gX12_hearseGoes hI hE hk1 ⟨h1.1, h1.2.1⟩ h1.2.2 ?_
        intro M8 i8 F8 K8
        have E8 : CE E M8 := hE.fr F8 (by intro k j h; rcases h with h | h | h | h | h <;> omega)
        refine ih _ _ t i8 E8 ⟨?_, fun j hj => ?_⟩ ?_ (by rw [K8]; exact hA) (by simp at hv; omega) (by omega)
        · rw [F8 1 35 (by omega), hL.1]
          simp
          omega
        · rw [F8 18 _ (by omega)]
          have := hL.2 (j + 1) (by simp; omega)
          rw [show v2 + ((j + 1 : Nat) : Int) = v2 + 1 + j from by omega] at this
          rw [this]
          rfl
        · refine h3.cg (fun x hx => ?_)
          have hi := h3.i x hx
          rw [K8]
          exact mhF_o (h2 x hx) (by omega) (by omega)
theorem msF_s {E : Mem} {r : Int → Int} {i : Int} (h : 0 ≤ i) : msF E (i + 1).toNat r = if 0 ≤ msF E i.toNat r (29 + i) then msF E i.toNat r else mmF E (msF E i.toNat r) i := by
  rw [show (i + 1).toNat = i.toNat + 1 from by omega]
  show (if 0 ≤ msF E i.toNat r (29 + (i.toNat : Nat)) then msF E i.toNat r else mmF E (msF E i.toNat r) (i.toNat : Nat)) = _
  rw [show ((i.toNat : Nat) : Int) = i from by omega]
theorem gX12_stepGoes_L34 {k1 : Nat} {b : Int} {E : Mem} {X62 Q : Mem → Prop} {r : Int → Int} (hk1 : isN k1) (hX : ∀ M' : Mem, IM b M' → CE E M' → M' k1 = msF E (eO E) r → X62 M') : ∀ (n : Nat) (v2 : Int) (M : Mem), IM b M → CE E M → M k1 = msF E v2.toNat r → (0 ≤ v2 ∧ v2 ≤ (eO E : Nat)) → 8 - v2 < (n : Int) → qX12_stepGoes_L34 k1 X62 Q n v2 M := by
  intro n
  induction n with
  | zero => intro v2 M hI hE hK hv hm; have bO := hE.o hI; exact absurd hm (by omega)
  | succ n ih =>
    intro v2 M hI hE hK hv hm
    have bO := hE.o hI
    have hk : k1 = 5 ∨ k1 = 6 := hk1
    rw [qX12_stepGoes_L34]
    intro x10 e10 _
    refine ⟨⟨by omega, by omega⟩, ⟨fun c => hX _ hI hE (by rw [hK, show v2.toNat = eO E from by omega]), fun c => ?_⟩⟩
    have hs := msF_s (E := E) (r := r) hv.1
    rw [← hK] at hs
    refine gX12_isEnded (p1 := v2) ⟨by omega, by omega⟩ ?_
    intro x13 p13 _ _
    refine ⟨fun c2 => ih _ _ hI hE (by rw [hs, if_pos (by omega)]) (by omega) (by omega), fun c2 => ?_⟩
    refine gX12_mournerGoes (p2 := v2) hI hE hk1 ⟨by omega, by omega⟩ ?_
    intro M15 i15 F15 K15
    exact ih _ _ i15 (hE.fr F15 (by intro k j h; rcases h with h | h | h | h | h <;> omega)) (by rw [hs, if_neg (by omega), K15]) (by omega) (by omega)
theorem gX12_stepGoes {k1 : Nat} {b : Int} {M E : Mem} {Q : Mem → Prop} (hI : IM b M) (hE : CE E M) (hb : b + 1 ≤ 2000000000) (hk1 : isN k1) (hQ : ∀ M' : Mem, IM (b + 1) M' → CE E M' → M' k1 = stF E (M k1) → Q M') : qX12_stepGoes k1 M Q := by
  have hk : k1 = 5 ∨ k1 = 6 := hk1
  have bH := hE.h hI
  have bO := hE.o hI
  have bg := hE.g hI
  unfold qX12_stepGoes
  refine gX12_laysLine hI hE hk1 ?_
  intro M1 i1 F1 L1 hl6
  have E1 : CE E M1 := hE.fr F1 (by intro k j h; rcases h with h | h | h | h | h <;> omega)
  have K1 : M1 k1 = M k1 := funext fun j => F1 k1 j (by omega)
  refine ⟨7, gX12_stepGoes_L7 (A := hsF E (lnL (M k1) (eH E) (eG E).toNat) (M k1)) hk1 ?_ _ _ _ (lnL (M k1) (eH E) (eG E).toNat) i1 E1 L1 (by rw [K1]; exact lnL_VL (by omega) _ (by omega)) (by rw [K1]) (by omega) (by omega)⟩
  intro M2 i2 E2 K2
  refine ⟨9, gX12_stepGoes_L34 (r := hsF E (lnL (M k1) (eH E) (eG E).toNat) (M k1)) hk1 ?_ _ _ _ i2 E2 (by rw [K2]; rfl) (by omega) (by omega)⟩
  intro M3 i3 E3 K3 x17 e17 _
  have b17 : 0 ≤ x17 ∧ x17 ≤ b := by rw [e17]; exact ((bm_n hk1).mp (i3.bx _ _)).2.2.2 rfl
  refine ⟨⟨by omega, by omega⟩, ?_⟩
  intro M19 h19
  refine hQ _ ?_ ?_ ?_
  · rw [h19]
    exact (i3.mono (by first | exact Int.le_refl _ | omega)).up (isN.nu hk1 _) ((bm_n hk1).mpr ⟨by omega, by omega, by omega, by omega⟩)
  · rw [h19]
    exact E3.up (by intro h; rcases h with h | h | h | h | h <;> omega)
  · rw [h19, up2_up, e17, K3]
    rfl
end
