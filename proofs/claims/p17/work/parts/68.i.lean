theorem fzX11_rains_L42 {p1 : Int} {p2 : Int} {p3 : Int} {X112 X112' : Int → Mem → Prop} {Q Q' : Int → Mem → Prop} (hX112 : ∀ (w0 : Int) (M' : Mem), X112 w0 M' → X112' w0 M') : ∀ (n : Nat) (v4 v6 v8 : Int) (M : Mem), qX11_rains_L42 p1 p2 p3 X112 Q n v4 v6 v8 M → qX11_rains_L42 p1 p2 p3 X112' Q' n v4 v6 v8 M := by
  intro n
  induction n with
  | zero => intro v4 v6 v8 M h; exact h.elim
  | succ n ih =>
    intro v4 v6 v8 M h
    rw [qX11_rains_L42] at h
    rw [qX11_rains_L42]
    obtain ⟨v1, h1⟩ := h
    refine ⟨v1, ?_⟩
    obtain ⟨h2, h3⟩ := h1
    refine ⟨?_, ?_⟩
    · intro g4
      have h5 := h2 g4
      exact hX112 _ _ h5
    · intro g6
      have h7 := h3 g6
      obtain ⟨v8, h8⟩ := h7
      refine ⟨v8, ?_⟩
      obtain ⟨h9, h10⟩ := h8
      refine ⟨?_, ?_⟩
      · intro g11
        have h12 := h9 g11
        unfold qX11_rains_J88 at h12 ⊢
        intro x11_13 g14 g15
        have h13 := h12 x11_13 g14 g15
        intro x12_16 g17 g18
        have h16 := h13 x12_16 g17 g18
        intro x13_19 g20 g21
        have h19 := h16 x13_19 g20 g21
        obtain ⟨v22, h22⟩ := h19
        refine ⟨v22, ?_⟩
        obtain ⟨v23, h23⟩ := h22
        refine ⟨v23, ?_⟩
        intro x16_24 g25 g26
        have h24 := h23 x16_24 g25 g26
        exact ih _ _ _ _ h24
      · intro g27
        have h28 := h10 g27
        refine fmX11_power h28 ?_
        intro x17_30 M17_31 f29 h29
        intro g32
        have h33 := h29 g32
        intro x18_34 g35 g36
        have h34 := h33 x18_34 g35 g36
        intro x19_37 g38 g39
        have h37 := h34 x19_37 g38 g39
        intro x20_40 g41 g42
        have h40 := h37 x20_40 g41 g42
        intro x21_43 g44 g45
        have h43 := h40 x21_43 g44 g45
        refine fmX11_power h43 ?_
        intro x22_47 M22_48 f46 h46
        intro g49
        have h50 := h46 g49
        intro x23_51 g52 g53
        have h51 := h50 x23_51 g52 g53
        intro x24_54 g55 g56
        have h54 := h51 x24_54 g55 g56
        unfold qX11_rains_J88 at h54 ⊢
        intro x11_57 g58 g59
        have h57 := h54 x11_57 g58 g59
        intro x12_60 g61 g62
        have h60 := h57 x12_60 g61 g62
        intro x13_63 g64 g65
        have h63 := h60 x13_63 g64 g65
        obtain ⟨v66, h66⟩ := h63
        refine ⟨v66, ?_⟩
        obtain ⟨v67, h67⟩ := h66
        refine ⟨v67, ?_⟩
        intro x16_68 g69 g70
        have h68 := h67 x16_68 g69 g70
        exact ih _ _ _ _ h68
/-! rests, rains: what they answer -/
def gn (m o v : Int) : Int := (if o < m then v else if m = o then v / 2 else 0) - m - (if 2 * o < m then 3 else 0)
theorem gX11_gain {p0 p1 p2 : Int} (hp : 0 ≤ p0 ∧ p0 ≤ 9 ∧ 0 ≤ p1 ∧ p1 ≤ 9 ∧ 0 ≤ p2 ∧ p2 ≤ 20) {M : Mem} {Q : Int → Mem → Prop} (hQ : Q (gn p0 p1 p2) M) : qX11_gain p0 p1 p2 M Q := by
  have J : ∀ v3 : Int, v3 = (if p1 < p0 then p2 else if p0 = p1 then p2 / 2 else 0) → qX11_gain_J21 p0 p1 p2 Q v3 M := by
    intro v3 e
    have b : -1 ≤ v3 ∧ v3 ≤ 20 := by
      rw [e]
      split
      · omega
      · split <;> omega
    unfold qX11_gain_J21
    refine ⟨⟨by omega, by omega⟩, ⟨fun c => ⟨⟨by omega, by omega⟩, ?_⟩, fun c => ⟨⟨by omega, by omega⟩, ?_⟩⟩⟩
    · have : gn p0 p1 p2 = v3 - p0 - 0 := by unfold gn; rw [← e, if_neg (by omega)]
      rw [← this]; exact hQ
    · have : gn p0 p1 p2 = v3 - p0 - 3 := by unfold gn; rw [← e, if_pos (by omega)]
      rw [← this]; exact hQ
  unfold qX11_gain
  refine ⟨fun c => ⟨fun c2 => J _ (by rw [if_neg (by omega), if_neg c2]), fun c2 => ?_⟩, fun c => J _ (by rw [if_pos (by omega)])⟩
  intro x7 e7 _
  exact J _ (by rw [if_neg (by omega), if_pos c2, e7, dvI_e ⟨by omega, by omega⟩ ⟨by decide, by decide⟩])
theorem gX12_gets {p0 p1 p2 b : Int} (hp : 0 ≤ p0 ∧ p0 ≤ 9 ∧ 0 ≤ p1 ∧ p1 ≤ 9 ∧ 0 ≤ p2 ∧ p2 ≤ 20) {M : Mem} (hI : IM b M) {Q : Int → Mem → Prop} (hQ : Q (gn p0 p1 p2) M) : qX12_gets p0 p1 p2 M Q := by
  have J : ∀ v3 : Int, v3 = (if p1 < p0 then p2 else if p0 = p1 then p2 / 2 else 0) → qX12_gets_J21 p0 p1 p2 Q v3 M := by
    intro v3 e
    have b : -1 ≤ v3 ∧ v3 ≤ 20 := by
      rw [e]
      split
      · omega
      · split <;> omega
    unfold qX12_gets_J21 qX12_gets_J36
    refine ⟨⟨by omega, by omega⟩, ⟨fun c => ?_, fun c => ?_⟩⟩
    · have : gn p0 p1 p2 = v3 - p0 := by unfold gn; rw [← e, if_neg (by omega)]; omega
      refine ⟨⟨by omega, by omega⟩, ?_⟩
      refine sX12_flag (p0 := 0) hI ?_
      intro z hz _
      have hz0 : z = 0 := by omega
      subst hz0
      refine ⟨⟨by omega, by omega⟩, ?_⟩
      rw [show v3 - p0 - 3 * 0 = gn p0 p1 p2 from by omega]
      exact hQ
    · have : gn p0 p1 p2 = v3 - p0 - 3 := by unfold gn; rw [← e, if_pos (by omega)]
      refine ⟨⟨by omega, by omega⟩, ?_⟩
      refine sX12_flag (p0 := 1) hI ?_
      intro z hz _
      have hz0 : z = 1 := by omega
      subst hz0
      refine ⟨⟨by omega, by omega⟩, ?_⟩
      rw [show v3 - p0 - 3 * 1 = gn p0 p1 p2 from by omega]
      exact hQ
  unfold qX12_gets
  refine ⟨fun c => ⟨fun c2 => J _ (by rw [if_neg (by omega), if_neg c2]), fun c2 => ?_⟩, fun c => J _ (by rw [if_pos (by omega)])⟩
  intro x7 e7 _
  exact J _ (by rw [if_neg (by omega), if_pos c2, e7, dvI_e ⟨by omega, by omega⟩ ⟨by decide, by decide⟩])
theorem gn_b {m o v : Int} (h : 0 ≤ m ∧ m ≤ 9 ∧ 0 ≤ o ∧ o ≤ 9 ∧ 0 ≤ v ∧ v ≤ 20) : -30 ≤ gn m o v ∧ gn m o v ≤ 30 := by
  unfold gn
  split
  · split <;> omega
  · split
    · split <;> omega
    · split <;> omega
/-- none would have more by another number -/
def BA (m o v : Int) : Prop := ∀ a : Int, 0 ≤ a → a ≤ 9 → gn a o v ≤ gn m o v
theorem gX11_isBestAnswer_L10 {p0 p1 p2 : Int} (hp : 0 ≤ p0 ∧ p0 ≤ 9 ∧ 0 ≤ p1 ∧ p1 ≤ 9 ∧ 0 ≤ p2 ∧ p2 ≤ 20) {M : Mem} {Q : Int → Mem → Prop} (hQ : ∀ z : Int, (z = 1 ∧ BA p0 p1 p2 ∨ z = 0 ∧ ¬ BA p0 p1 p2) → Q z M) : ∀ (n : Nat) (v3 v4 : Int), v3 = gn p0 p1 p2 → (∀ a : Int, 0 ≤ a → a < v4 → gn a p1 p2 ≤ gn p0 p1 p2) → (0 ≤ v4 ∧ v4 ≤ 10) → 10 - v4 < (n : Int) → qX11_isBestAnswer_L10 p0 p1 p2 Q n v3 v4 M := by
  intro n
  induction n with
  | zero => intro v3 v4 h3 ha hv hm; exact absurd hm (by omega)
  | succ n ih =>
    intro v3 v4 h3 ha hv hm
    rw [qX11_isBestAnswer_L10]
    refine ⟨⟨by omega, by omega⟩, ⟨fun c => hQ _ (Or.inl ⟨rfl, fun a h0 h9 => ha a h0 (by omega)⟩), fun c => ?_⟩⟩
    refine gX11_gain ⟨by omega, by omega, by omega, by omega, by omega, by omega⟩ ?_
    intro _
    have b := gn_b (m := p0) (o := p1) (v := p2) (by omega)
    refine ⟨⟨by omega, by omega⟩, ⟨fun c2 => ih _ _ h3 (fun a h0 h1 => ?_) (by omega) (by omega), fun c2 => hQ _ (Or.inr ⟨rfl, fun hb => ?_⟩)⟩⟩
    · by_cases ca : a = v4
      · rw [ca]; omega
      · exact ha a h0 (by omega)
    · have := hb v4 (by omega) (by omega)
      omega
theorem gX11_isBestAnswer {p0 p1 p2 : Int} (hp : 0 ≤ p0 ∧ p0 ≤ 9 ∧ 0 ≤ p1 ∧ p1 ≤ 9 ∧ 0 ≤ p2 ∧ p2 ≤ 20) {M : Mem} {Q : Int → Mem → Prop} (hQ : ∀ z : Int, (z = 1 ∧ BA p0 p1 p2 ∨ z = 0 ∧ ¬ BA p0 p1 p2) → Q z M) : qX11_isBestAnswer p0 p1 p2 M Q := by
  unfold qX11_isBestAnswer
  refine gX11_gain hp ?_
  intro _
  exact ⟨11, gX11_isBestAnswer_L10 hp hQ _ _ _ rfl (fun a h0 h1 => by omega) (by omega) (by omega)⟩
theorem gX12_isRest_L5 {p0 p1 p2 b : Int} (hp : 0 ≤ p0 ∧ p0 ≤ 9 ∧ 0 ≤ p1 ∧ p1 ≤ 9 ∧ 0 ≤ p2 ∧ p2 ≤ 20) {M : Mem} (hI : IM b M) {Q : Int → Mem → Prop} (hQ : ∀ z : Int, (z = 1 ∧ BA p0 p1 p2 ∨ z = 0 ∧ ¬ BA p0 p1 p2) → Q z M) : ∀ (n : Nat) (v3 v4 : Int), (v3 = 1 ∧ (∀ a : Int, 0 ≤ a → a < v4 → gn a p1 p2 ≤ gn p0 p1 p2) ∨ v3 = 0 ∧ ¬ BA p0 p1 p2) → (0 ≤ v4 ∧ v4 ≤ 10) → 10 - v4 < (n : Int) → qX12_isRest_L5 p0 p1 p2 Q n v3 v4 M := by
  intro n
  induction n with
  | zero => intro v3 v4 ha hv hm; exact absurd hm (by omega)
  | succ n ih =>
    intro v3 v4 ha hv hm
    have h01 : v3 = 0 ∨ v3 = 1 := by rcases ha with h | h <;> omega
    rw [qX12_isRest_L5]
    refine ⟨⟨by omega, by omega⟩, ⟨fun c => ⟨⟨by omega, by omega⟩, h01, hQ _ ?_⟩, fun c => ⟨⟨by omega, by omega⟩, ⟨fun c2 => ?_, fun c2 => ?_⟩⟩⟩⟩
    · rcases ha with h | h
      · exact Or.inl ⟨h.1, fun a h0 h9 => h.2 a h0 (by omega)⟩
      · exact Or.inr h
    · rcases ha with h | h
      · omega
      · exact ih _ _ (Or.inr ⟨rfl, h.2⟩) (by omega) (by omega)
    · refine gX12_gets ⟨by omega, by omega, by omega, by omega, by omega, by omega⟩ hI ?_
      intro _
      refine gX12_gets hp hI ?_
      intro _
      refine ⟨fun c3 => ih _ _ (Or.inr ⟨rfl, fun hb => ?_⟩) (by omega) (by omega), fun c3 => ih _ _ (Or.inl ⟨rfl, fun a h0 h1 => ?_⟩) (by omega) (by omega)⟩
      · have := hb v4 (by omega) (by omega)
        omega
      · rcases ha with h | h
        · by_cases ca : a = v4
          · rw [ca]; omega
          · exact h.2 a h0 (by omega)
        · omega
theorem gX12_isRest {p0 p1 p2 b : Int} (hp : 0 ≤ p0 ∧ p0 ≤ 9 ∧ 0 ≤ p1 ∧ p1 ≤ 9 ∧ 0 ≤ p2 ∧ p2 ≤ 20) {M : Mem} (hI : IM b M) {Q : Int → Mem → Prop} (hQ : ∀ z : Int, (z = 1 ∧ BA p0 p1 p2 ∨ z = 0 ∧ ¬ BA p0 p1 p2) → Q z M) : qX12_isRest p0 p1 p2 M Q := by
  unfold qX12_isRest
  exact ⟨11, gX12_isRest_L5 hp hI hQ _ _ _ (Or.inl ⟨rfl, fun a h0 h1 => by omega⟩) (by omega) (by omega)⟩
noncomputable def b01 (P : Prop) : Int := @ite Int P (Classical.propDecidable P) 1 0
theorem b01_1 {P : Prop} (h : P) : b01 P = 1 := by unfold b01; rw [if_pos h]
theorem b01_0 {P : Prop} (h : ¬ P) : b01 P = 0 := by unfold b01; rw [if_neg h]
theorem b01_b (P : Prop) : 0 ≤ b01 P ∧ b01 P ≤ 1 := by
  by_cases h : P
  · rw [b01_1 h]; decide
  · rw [b01_0 h]; decide
noncomputable def rY (x v : Int) : Nat → Int
  | 0 => 0
  | y + 1 => rY x v y + b01 (BA x y v ∧ BA y x v)
noncomputable def rX (v : Int) : Nat → Int
  | 0 => 0
  | x + 1 => rX v x + rY x v 10
noncomputable def RSF (v : Int) : Int := if 0 ≤ v ∧ v ≤ 20 then rX v 10 else -1
theorem rY_b (x v : Int) (n : Nat) : 0 ≤ rY x v n ∧ rY x v n ≤ n := by
  induction n with
  | zero => exact ⟨Int.le_refl _, Int.le_refl _⟩
  | succ n ih =>
    have := b01_b (BA x n v ∧ BA n x v)
    unfold rY
    omega
theorem rX_b (v : Int) (n : Nat) : 0 ≤ rX v n ∧ rX v n ≤ 10 * n := by
  induction n with
  | zero => exact ⟨Int.le_refl _, Int.le_refl _⟩
  | succ n ih =>
    have := rY_b n v 10
    unfold rX
    omega
theorem rY_s {x v y : Int} (h : 0 ≤ y) : rY x v (y + 1).toNat = rY x v y.toNat + b01 (BA x y v ∧ BA y x v) := by
  rw [show (y + 1).toNat = y.toNat + 1 from by omega]
  show rY x v y.toNat + b01 (BA x (y.toNat : Nat) v ∧ BA (y.toNat : Nat) x v) = _
  rw [show ((y.toNat : Nat) : Int) = y from by omega]
theorem rX_s {v x : Int} (h : 0 ≤ x) : rX v (x + 1).toNat = rX v x.toNat + rY x v 10 := by
  rw [show (x + 1).toNat = x.toNat + 1 from by omega]
  show rX v x.toNat + rY (x.toNat : Nat) v 10 = _
  rw [show ((x.toNat : Nat) : Int) = x from by omega]
theorem gX11_rests_L32 {p1 : Int} (hp : 0 ≤ p1 ∧ p1 ≤ 20) {X85 : Int → Int → Mem → Prop} {Q : Int → Mem → Prop} {v3 : Int} (hv3 : 0 ≤ v3 ∧ v3 ≤ 9) (hX : ∀ M' : Mem, IX M' → X85 (rX p1 (v3 + 1).toNat) v3 M') : ∀ (n : Nat) (v2 v4 : Int) (M : Mem), IX M → v2 = rX p1 v3.toNat + rY v3 p1 v4.toNat → (0 ≤ v4 ∧ v4 ≤ 10) → 10 - v4 < (n : Int) → qX11_rests_L32 p1 X85 Q n v2 v3 v4 M := by
  intro n
  induction n with
  | zero => intro v2 v4 M hI h2 hv hm; exact absurd hm (by omega)
  | succ n ih =>
    intro v2 v4 M hI h2 hv hm
    have hb1 := rX_b p1 v3.toNat
    have hb2 := rY_b v3 p1 v4.toNat
    have hs := rY_s (x := v3) (v := p1) (y := v4) hv.1
    rw [qX11_rests_L32]
    refine ⟨⟨by omega, by omega⟩, ⟨fun c => ?_, fun c => ⟨⟨by omega, by omega⟩, ?_⟩⟩⟩
    · have e : v2 = rX p1 (v3 + 1).toNat := by
        rw [rX_s hv3.1, h2, show v4 = 10 from by omega]
        rfl
      rw [e]
      exact hX _ hI
    · refine gX11_isBestAnswer ⟨by omega, by omega, by omega, by omega, by omega, by omega⟩ ?_
      intro x10 p10' _ _
      refine ⟨fun c2 => ?_, fun c2 => ?_⟩
      · have hn : ¬ (BA v3 v4 p1 ∧ BA v4 v3 p1) := fun q => by
          rcases p10' with h | h
          · omega
          · exact h.2 q.1
        rw [b01_0 hn] at hs
        exact ih _ _ _ hI (by omega) (by omega) (by omega)
      · have ha : BA v3 v4 p1 := by
          rcases p10' with h | h
          · exact h.2
          · omega
        refine gX11_isBestAnswer ⟨by omega, by omega, by omega, by omega, by omega, by omega⟩ ?_
        intro x12 p12 _ _
        refine ⟨fun c3 => ?_, fun c3 => ⟨⟨by omega, by omega⟩, ?_⟩⟩
        · have hn : ¬ (BA v3 v4 p1 ∧ BA v4 v3 p1) := fun q => by
            rcases p12 with h | h
            · omega
            · exact h.2 q.2
          rw [b01_0 hn] at hs
          exact ih _ _ _ hI (by omega) (by omega) (by omega)
        · have hy : BA v3 v4 p1 ∧ BA v4 v3 p1 := ⟨ha, by
            rcases p12 with h | h
            · exact h.2
            · omega⟩
          rw [b01_1 hy] at hs
          refine ⟨fun c4 => ih _ _ _ hI (by omega) (by omega) (by omega), fun c4 => ?_⟩
          refine sX4_tellTwo hI ?_
          intro M16 h16
          exact ih _ _ _ h16 (by omega) (by omega) (by omega)
theorem gX11_rests_L23 {p1 : Int} (hp : 0 ≤ p1 ∧ p1 ≤ 20) {Q : Int → Mem → Prop} (hQ : ∀ M' : Mem, IX M' → Q (rX p1 10) M') : ∀ (n : Nat) (v2 v3 : Int) (M : Mem), IX M → v2 = rX p1 v3.toNat → (0 ≤ v3 ∧ v3 ≤ 10) → 10 - v3 < (n : Int) → qX11_rests_L23 p1 Q n v2 v3 M := by
  intro n
  induction n with
  | zero => intro v2 v3 M hI h2 hv hm; exact absurd hm (by omega)
  | succ n ih =>
    intro v2 v3 M hI h2 hv hm
    have hb1 := rX_b p1 v3.toNat
    rw [qX11_rests_L23]
    refine ⟨⟨by omega, by omega⟩, ⟨fun c => ⟨⟨by omega, by omega⟩, ?_⟩, fun c => ?_⟩⟩
    · rw [h2, show v3 = 10 from by omega]
      exact hQ _ hI
    · refine ⟨11, gX11_rests_L32 hp ⟨by omega, by omega⟩ ?_ _ _ _ _ hI ?_ (by omega) (by omega)⟩
      · intro M' i'
        exact ih _ _ _ i' rfl (by omega) (by omega)
      · rw [h2]
        show _ = _ + 0
        omega
theorem gX11_rests {p1 : Int} {M : Mem} {Q : Int → Mem → Prop} (hI : IX M) (hQ : ∀ (z : Int) (M' : Mem), IX M' → z = RSF p1 → Q z M') : qX11_rests p1 M Q := by
  unfold qX11_rests
  refine ⟨fun c => hQ _ _ hI (by unfold RSF; rw [if_neg (by omega)]), fun c => ⟨fun c2 => ?_, fun c2 => hQ _ _ hI (by unfold RSF; rw [if_neg (by omega)])⟩⟩
  refine sX4_clear hI ?_
  intro M3 h3
  refine ⟨11, gX11_rests_L23 ⟨by omega, by omega⟩ ?_ _ _ _ _ h3 rfl (by omega) (by omega)⟩
  intro M' i'
  exact hQ _ _ i' (by unfold RSF; rw [if_pos ⟨by omega, by omega⟩])
theorem gX12_rests_L37 {p1 b : Int} (hp : 0 ≤ p1 ∧ p1 ≤ 20) {X90 : Int → Int → Mem → Prop} {Q : Int → Mem → Prop} {v3 : Int} (hv3 : 0 ≤ v3 ∧ v3 ≤ 9) (hX : ∀ M' : Mem, IM b M' → (rX p1 (v3 + 1).toNat = 0 → M' 1 1 = 0) → X90 (rX p1 (v3 + 1).toNat) v3 M') : ∀ (n : Nat) (v2 v4 : Int) (M : Mem), IM b M → (v2 = 0 → M 1 1 = 0) → v2 = rX p1 v3.toNat + rY v3 p1 v4.toNat → (0 ≤ v4 ∧ v4 ≤ 10) → 10 - v4 < (n : Int) → qX12_rests_L37 p1 X90 Q n v2 v3 v4 M := by
  intro n
  induction n with
  | zero => intro v2 v4 M hI h0 h2 hv hm; exact absurd hm (by omega)
  | succ n ih =>
    intro v2 v4 M hI h0 h2 hv hm
    have hb1 := rX_b p1 v3.toNat
    have hb2 := rY_b v3 p1 v4.toNat
    have hs := rY_s (x := v3) (v := p1) (y := v4) hv.1
    rw [qX12_rests_L37]
    refine ⟨⟨by omega, by omega⟩, ⟨fun c => ?_, fun c => ⟨⟨by omega, by omega⟩, ?_⟩⟩⟩
    · have e : v2 = rX p1 (v3 + 1).toNat := by
        rw [rX_s hv3.1, h2, show v4 = 10 from by omega]
        rfl
      rw [e]
      exact hX _ hI (by rw [← e]; exact h0)
    · refine gX12_isRest ⟨by omega, by omega, by omega, by omega, by omega, by omega⟩ hI ?_
      intro x10 p10' _ _
      refine ⟨fun c2 => ?_, fun c2 => ?_⟩
      · have hn : ¬ (BA v3 v4 p1 ∧ BA v4 v3 p1) := fun q => by
          rcases p10' with h | h
          · omega
          · exact h.2 q.1
        rw [b01_0 hn] at hs
        exact ih _ _ _ hI h0 (by omega) (by omega) (by omega)
      · have ha : BA v3 v4 p1 := by
          rcases p10' with h | h
          · exact h.2
          · omega
        refine gX12_isRest ⟨by omega, by omega, by omega, by omega, by omega, by omega⟩ hI ?_
        intro x12 p12 _ _
        refine ⟨fun c3 => ?_, fun c3 => ⟨⟨by omega, by omega⟩, ?_⟩⟩
        · have hn : ¬ (BA v3 v4 p1 ∧ BA v4 v3 p1) := fun q => by
            rcases p12 with h | h
            · omega
            · exact h.2 q.2
          rw [b01_0 hn] at hs
          exact ih _ _ _ hI h0 (by omega) (by omega) (by omega)
        · have hy : BA v3 v4 p1 ∧ BA v4 v3 p1 := ⟨ha, by
            rcases p12 with h | h
            · exact h.2
            · omega⟩
          rw [b01_1 hy] at hs
          refine ⟨fun c4 => ih _ _ _ hI (fun q => by omega) (by omega) (by omega) (by omega), fun c4 => ?_⟩
          have h1 := h0 c4
          refine sX12_enters hI (by omega) ?_
          intro M17 h17 g17
          refine sX12_enters h17 (by omega) ?_
          intro M18 h18 g18
          exact ih _ _ _ h18 (fun q => by omega) (by omega) (by omega) (by omega)
theorem gX12_rests_L28 {p1 b : Int} (hp : 0 ≤ p1 ∧ p1 ≤ 20) {Q : Int → Mem → Prop} (hQ : ∀ M' : Mem, IM b M' → Q (rX p1 10) M') : ∀ (n : Nat) (v2 v3 : Int) (M : Mem), IM b M → (v2 = 0 → M 1 1 = 0) → v2 = rX p1 v3.toNat → (0 ≤ v3 ∧ v3 ≤ 10) → 10 - v3 < (n : Int) → qX12_rests_L28 p1 Q n v2 v3 M := by
  intro n
  induction n with
  | zero => intro v2 v3 M hI h0 h2 hv hm; exact absurd hm (by omega)
  | succ n ih =>
    intro v2 v3 M hI h0 h2 hv hm
    have hb1 := rX_b p1 v3.toNat
    rw [qX12_rests_L28]
    refine ⟨⟨by omega, by omega⟩, ⟨fun c => ⟨⟨by omega, by omega⟩, ?_⟩, fun c => ?_⟩⟩
    · rw [h2, show v3 = 10 from by omega]
      exact hQ _ hI
    · refine ⟨11, gX12_rests_L37 (b := b) hp ⟨by omega, by omega⟩ ?_ _ _ _ _ hI h0 ?_ (by omega) (by omega)⟩
      · intro M' i' h0'
        exact ih _ _ _ i' h0' rfl (by omega) (by omega)
      · rw [h2]
        show _ = _ + 0
        omega
theorem gX12_rests {p1 b : Int} {M : Mem} {Q : Int → Mem → Prop} (hI : IM b M) (hQ : ∀ (z : Int) (M' : Mem), IM b M' → z = RSF p1 → Q z M') : qX12_rests p1 M Q := by
  unfold qX12_rests
  intro M1 h1
  have i1 : IM b M1 := by rw [h1]; exact hI.up (by omega) (by simp [BM])
  refine sX12_in (p0 := p1) (p2 := 0) (p4 := 20) i1 ?_
  intro x2 p2 _ _
  refine ⟨fun c => ?_, fun c => hQ _ _ i1 (by unfold RSF; rw [if_neg (by omega)])⟩
  intro M4 h4
  have i4 : IM b M4 := by rw [h4]; exact i1.up (by omega) (bm_c1_1.mpr (by decide))
  refine ⟨11, gX12_rests_L28 (b := b) ⟨by omega, by omega⟩ ?_ _ _ _ _ i4 (fun _ => by rw [h4, up2_s]) rfl (by omega) (by omega)⟩
  intro M' i'
  exact hQ _ _ i' (by unfold RSF; rw [if_pos ⟨by omega, by omega⟩])
-- rains
theorem gX11_power10_L5 {p2 : Int} (hp : 0 ≤ p2 ∧ p2 ≤ 12) {M : Mem} {Q : Int → Mem → Prop} (hQ : Q (p10 p2) M) : ∀ (n : Nat) (v3 v5 : Int), v3 = p10 v5 → (0 ≤ v5 ∧ v5 ≤ p2) → p2 - v5 < (n : Int) → qX11_power_L5 10 p2 Q n v3 v5 M := by
  intro n
  induction n with
  | zero => intro v3 v5 h3 hv hm; exact absurd hm (by omega)
  | succ n ih =>
    intro v3 v5 h3 hv hm
    have hb := p10_b (z := v5) (by omega)
    rw [qX11_power_L5]
    refine ⟨⟨by omega, by omega⟩, ⟨fun c => ⟨show -9223372036854775808 ≤ v3 ∧ v3 ≤ 9223372036854775807 from ⟨by omega, by omega⟩, ?_⟩, fun c => ?_⟩⟩
    · rw [h3, show v5 = p2 from by omega]
      exact hQ
    · intro x4 e4 _
      have hb2 := p10_b (z := v5 + 1) (by omega)
      have hs := p10_s (z := v5) hv.1
      refine ih _ _ ?_ (by omega) (by omega)
      rw [e4, h3, ← hs]
      exact w64_id (show -9223372036854775808 ≤ p10 (v5 + 1) ∧ p10 (v5 + 1) ≤ 9223372036854775807 from ⟨by omega, by omega⟩)
theorem gX11_commonDivisor_L9 {p0 p2 : Int} {M : Mem} {Q : Int → Mem → Prop} (hQ : ∀ z : Int, 1 ≤ z → Q z M) : ∀ (n : Nat) (v4 v6 v8 : Int), lR v4 → lR v6 → (1 ≤ v4 ∨ v8 = 0 ∧ 0 < v6) → (0 ≤ v8 ∧ v8 ≤ 100) → 100 - v8 < (n : Int) → qX11_commonDivisor_L9 p0 p2 Q n v4 v6 v8 M := by
  intro n
  induction n with
  | zero => intro v4 v6 v8 h4 h6 ha hv hm; exact absurd hm (by omega)
  | succ n ih =>
    intro v4 v6 v8 h4 h6 ha hv hm
    rw [qX11_commonDivisor_L9]
    refine ⟨⟨by omega, by omega⟩, ⟨fun c => ⟨h4, hQ _ (by omega)⟩, fun c => ⟨h6, ?_⟩⟩⟩
    intro x5 _ c5
    refine ⟨fun c2 => ⟨h4, hQ _ (by omega)⟩, fun c2 => ⟨by omega, ?_⟩⟩
    intro x9 _ r9
    exact ih _ _ _ h6 r9 (Or.inl (by omega)) (by omega) (by omega)
theorem gX11_rains {p1 p2 p3 : Int} {M : Mem} {Q : Int → Mem → Prop} (hI : IX M) (hQ : ∀ (z : Int) (M' : Mem), IX M' → (z = if (1 ≤ p1 ∧ p1 ≤ 12) ∧ (0 ≤ p2 ∧ p2 ≤ 12) ∧ (0 ≤ p3 ∧ p3 ≤ 10) then 0 else -1) → Q z M') : qX11_rains p1 p2 p3 M Q := by
  unfold qX11_rains
  refine ⟨fun c => hQ _ _ hI (by rw [if_neg (by omega)]), fun c1 => ⟨fun c => hQ _ _ hI (by rw [if_neg (by omega)]), fun c2 => ⟨fun c => hQ _ _ hI (by rw [if_neg (by omega)]), fun c3 => ⟨fun c => hQ _ _ hI (by rw [if_neg (by omega)]), fun c4 => ⟨fun c => hQ _ _ hI (by rw [if_neg (by omega)]), fun c5 => ⟨fun c6 => ?_, fun c => hQ _ _ hI (by rw [if_neg (by omega)])⟩⟩⟩⟩⟩⟩
  refine ⟨13, ?_⟩
  refine fzX11_rains_L42 (Q := fun _ _ => True) ?_ _ _ _ _ _ (sX11_rains_L42 (p1 := p1) (p2 := p2) (p3 := p3) (X112 := fun w M' => IX M' ∧ lR w) (Q := fun _ _ => True) (fun _ _ _ => trivial) (fun w M' h hw => ⟨h, hw⟩) 13 0 1 0 M hI (by omega) ⟨by decide, by decide⟩ ⟨by decide, by decide⟩ (by omega))
  intro v4 M' hx
  obtain ⟨h', hw⟩ := hx
  have hb := p10_b (z := p1) (by omega)
  have hl : lR (p10 p1) := show -9223372036854775808 ≤ p10 p1 ∧ p10 p1 ≤ 9223372036854775807 from ⟨by omega, by omega⟩
  refine ⟨13, gX11_power10_L5 ⟨by omega, by omega⟩ ?_ _ _ _ rfl (by omega) (by omega)⟩
  intro _
  refine ⟨hw, ⟨101, gX11_commonDivisor_L9 ?_ _ _ _ _ hw hl (Or.inr ⟨rfl, by omega⟩) (by omega) (by omega)⟩⟩
  intro z hz _ x29 _ c29
  refine ⟨fun c7 => ⟨by omega, ?_⟩, fun c7 => by omega⟩
  intro x32 _ r32
  refine ⟨by omega, ?_⟩
  intro x34 _ r34
  refine sX4_tellTwo h' ?_
  intro M35 h35
  exact hQ _ _ h35 (by rw [if_pos ⟨by omega, by omega, by omega⟩])
