/-! THE FEWEST TO BE TURNED -/
def tnS (E : Mem) (r : Int → Int) (b : Int) : Nat → Int → Int
  | 0 => r
  | n + 1 => if bt (iI b) n = true then tnR E (tnS E r b n) n else tnS E r b n
theorem tnR_o {E : Mem} {r : Int → Int} {m j : Int} (h : j ≠ 21 + m) : tnR E r m j = r j := by
  unfold tnR
  split
  · exact up_j h
  · rfl
theorem tnS_o {E : Mem} {r : Int → Int} {b : Int} : ∀ (n : Nat) (j : Int), n ≤ 8 → (j < 21 ∨ 21 + n ≤ j) → tnS E r b n j = r j := by
  intro n
  induction n with
  | zero => intro j _ _; rfl
  | succ n ih =>
    intro j hn hj
    unfold tnS
    split
    · rw [tnR_o (by omega)]
      exact ih j (by omega) (by omega)
    · exact ih j (by omega) (by omega)
theorem tnS_A {E : Mem} {r : Int → Int} {b : Int} {n : Nat} (hE : EBx E) (ho : ∀ m, 0 ≤ m → m < E 1 5 → 0 ≤ E 3 m ∧ E 3 m < E 1 4) (hn : (n : Int) < E 1 5) : tnA E (tnS E r b n) n = tnA E r n := by
  have g := hE.2
  have o := ho n (by omega) hn
  unfold tnA
  rw [tnS_o n (29 + n) (by omega) (by omega), tnS_o n (E 3 n) (by omega) (by omega), tnS_o n (21 + n) (by omega) (by omega)]
theorem tnS_W {E : Mem} {r : Int → Int} {b : Int} (hE : EBx E) (hW : WR E r) (hf : fol E r) (ho : ∀ m, 0 ≤ m → m < E 1 5 → 0 ≤ E 3 m ∧ E 3 m < E 1 4) : ∀ n : Nat, WR E (tnS E r b n) ∧ fol E (tnS E r b n) := by
  intro n
  induction n with
  | zero => exact ⟨hW, hf⟩
  | succ n ih =>
    unfold tnS
    split
    · exact ⟨ih.1.tn hE ho, fol_tn ih.2 hE ih.1 ho⟩
    · exact ih
theorem tnS_37 {E : Mem} {r : Int → Int} {b : Int} {n : Nat} (hn : n ≤ 8) : tnS E r b n 37 = r 37 := tnS_o n 37 hn (by omega)
theorem tnS_out {E : Mem} {r g : Int → Int} {b : Int} {n : Nat} (hn : n ≤ 8) (h : OUT g r) : OUT g (tnS E r b n) := fun j hj => by rw [tnS_o n j hn (by omega)]; exact h j hj
theorem tnS_s {E : Mem} {r : Int → Int} {b i : Int} (h : 0 ≤ i) : tnS E r b (i + 1).toNat = if bt (iI b) i.toNat = true then tnR E (tnS E r b i.toNat) i else tnS E r b i.toNat := by
  rw [show (i + 1).toNat = i.toNat + 1 from by omega]
  show (if bt (iI b) i.toNat = true then tnR E (tnS E r b i.toNat) (i.toNat : Nat) else tnS E r b i.toNat) = _
  rw [show ((i.toNat : Nat) : Int) = i from by omega]
/-- all of the set b can turn; and so many end right then -/
def canB (E : Mem) (r : Int → Int) (b : Int) : Prop := ∀ m : Int, 0 ≤ m → m < E 1 5 → bt (iI b) m.toNat = true → isDn (tnA E r m)
def okB (E : Mem) (r : Int → Int) (k b : Int) : Prop := canB E r b ∧ k ≤ bcF (rgE E (tnS E r b (eO E)))
def mdP (E : Mem) (r : Int → Int) (k c : Int) : Prop := ∃ b : Int, (0 ≤ b ∧ b < 2 ^ eO E) ∧ okB E r k b ∧ bcF b = c
def MNA (E : Mem) (r : Int → Int) (k z : Int) : Prop := (¬ (0 ≤ k ∧ k ≤ 8) ∧ z = -1) ∨ (0 ≤ k ∧ k ≤ 8) ∧ LST (mdP E r k) (E 1 5 + 1) z
theorem MNA.uq {E : Mem} {r : Int → Int} {k z w : Int} (h : MNA E r k z) (h2 : MNA E r k w) : z = w := by
  rcases h with ⟨a, b⟩ | ⟨a, b⟩
  · rcases h2 with ⟨c, d⟩ | ⟨c, d⟩
    · omega
    · exact absurd c a
  · rcases h2 with ⟨c, d⟩ | ⟨c, d⟩
    · exact absurd a c
    · exact b.uq d
set_option maxRecDepth 100000 in
theorem bt_lt0 : ∀ b : Nat, b < 256 → ∀ i : Nat, i < 32 → b < 2 ^ i → bt (iI (b : Int)) i = false := by decide +kernel
set_option maxRecDepth 100000 in
theorem p2_0 : ∀ n : Nat, n ≤ 8 → slI 1 (n : Int) = 2 ^ n ∧ 1 ≤ (2 : Int) ^ n ∧ (2 : Int) ^ n ≤ 256 ∧ (2 : Nat) ^ n ≤ 256 := by decide +kernel
theorem bt_lt {n i : Nat} {b : Int} (hn : n ≤ 8) (hb : 0 ≤ b ∧ b < 2 ^ n) (hi : n ≤ i) (h32 : i < 32) : bt (iI b) i = false := by
  have p := p2_0 n hn
  have hb2 : b.toNat < 2 ^ n := by
    have : ((b.toNat : Nat) : Int) < ((2 ^ n : Nat) : Int) := by
      rw [show ((b.toNat : Nat) : Int) = b from by omega, Int.natCast_pow]
      exact hb.2
    omega
  have := bt_lt0 b.toNat (by omega) i h32 (Nat.lt_of_lt_of_le hb2 (Nat.pow_le_pow_right (by decide) hi))
  rw [show ((b.toNat : Nat) : Int) = b from by omega] at this
  exact this
/-- who can turn -/
noncomputable def ablB (E : Mem) (r : Int → Int) (n : Nat) : Int := bitF (fun m => @ite Int (isDn (tnA E r m)) (Classical.propDecidable _) 1 0) 1 n
theorem xN_z {a b : Int} : aI a (xI b (-1)) = 0 ↔ ∀ i : Nat, i < 32 → bt (iI a) i = true → bt (iI b) i = true := by
  have e : ∀ i : Nat, i < 32 → bt (iI (xI b (-1))) i = !bt (iI b) i := by
    intro i hi
    unfold xI
    rw [iI_toI, b_xor]
    have : bt (iI (-1)) i = true := (by decide +kernel : ∀ i, i < 32 → bt (iI (-1)) i = true) i hi
    rw [this]
    cases bt (iI b) i <;> rfl
  refine aI_z.trans ⟨fun h i hi q => ?_, fun h i hi q => ?_⟩
  · have := h i hi
    rw [e i hi] at this
    cases c : bt (iI b) i
    · exact absurd ⟨q, by rw [c]; rfl⟩ this
    · rfl
  · rw [e i hi, h i hi q.1] at q
    exact absurd q.2 (by decide)
theorem canB_a {E : Mem} {r : Int → Int} {b : Int} (hE : EBx E) (hb : 0 ≤ b ∧ b < 2 ^ eO E) : aI b (xI (ablB E r (eO E)) (-1)) = 0 ↔ canB E r b := by
  have f := hE.f
  have g := hE.2
  refine xN_z.trans ⟨fun h m p q w => ?_, fun h i hi w => ?_⟩
  · have := h m.toNat (by omega) w
    unfold ablB at this
    rw [bt_bitF (by omega) _ (by omega), decide_eq_true_iff, show ((m.toNat : Nat) : Int) = m from by omega] at this
    exact ft_i.mp this.2
  · by_cases c : i < eO E
    · unfold ablB
      rw [bt_bitF hi _ (by omega), decide_eq_true_iff]
      exact ⟨c, ft_i.mpr (h i (by omega) (by omega) (by rw [show ((i : Int)).toNat = i from by omega]; exact w))⟩
    · rw [bt_lt (n := eO E) (by omega) hb (by omega) hi] at w
      exact absurd w (by decide)
-- the class
theorem dnX {z : Int} {M : Mem} {Q : Int → Mem → Prop} (h1 : isDn z → Q 1 M) (h0 : ¬ isDn z → Q 0 M) : qX11_isDone z M Q := by
  unfold qX11_isDone
  refine ⟨fun c => h1 (Or.inl c), fun c => ⟨fun c2 => h0 (fun u => ?_), fun c2 => h1 (Or.inr c2)⟩⟩
  rcases u with u | u
  · exact c u
  · exact c2 u
theorem gX11_ableToTurn_L15 {Q : Int → Mem → Prop} {M0 E : Mem} {l : Nat} {r : Int → Int} (h : TB E M0 l) (hC0 : SC E M0 1 r) (hW : WR E r) (hf : fol E r) (ho : ∀ m, 0 ≤ m → m < E 1 5 → 0 ≤ E 3 m ∧ E 3 m < E 1 4) (hQ : ∀ M' : Mem, IX M' → Ks (kTr l) M0 M' → Q (ablB E r (eO E)) M') : ∀ (n : Nat) (v1 v2 : Int) (M : Mem), IX M → Ks (kTr l) M0 M → SC E M 8 (tnS E r (-1) v2.toNat) → v1 = ablB E r v2.toNat → (0 ≤ v2 ∧ v2 ≤ E 1 5) → E 1 5 - v2 < (n : Int) → qX11_ableToTurn_L15 Q n v1 v2 M := by
  have hE := h.2.2.2.1.eb
  have f := hE.f
  have g := hE.2
  have hl := h.2.2.1
  intro n
  induction n with
  | zero => intro v1 v2 M hI hK hC h1 hv hm; exact absurd hm (by omega)
  | succ n ih =>
    intro v1 v2 M hI hK hC h1 hv hm
    have C1 : SC E M 1 r := hC0.fr (fun i j hi => hK _ j (by omega))
    have hs := bitF_s (f := fun m => @ite Int (isDn (tnA E r m)) (Classical.propDecidable _) 1 0) (x := 1) hv.1
    have r1 : iR v1 := by rw [h1]; exact bitF_R _ _ _
    rw [qX11_ableToTurn_L15]
    intro x2 e2 _
    rw [C1.2.1] at e2
    refine ⟨⟨by omega, by omega⟩, ⟨fun c => ⟨r1, ?_⟩, fun c => ?_⟩⟩
    · rw [h1, show v2.toNat = eO E from by omega]
      exact hQ M hI hK
    · have w := tnS_W (b := -1) hE hW hf ho v2.toNat
      refine gX6_turn hI (show isS 8 by decide) (h.S hK) hC w.1 ?_
      intro M6 i6 k6 c6 _
      have K6 : Ks (kTr l) M0 M6 := hK.tr (k6.mono (by intro k j q; omega))
      have ea : tnA E (tnS E r (-1) v2.toNat) v2 = tnA E r v2 := by
        have := tnS_A (r := r) (b := -1) (n := v2.toNat) hE ho (by omega)
        rw [show ((v2.toNat : Nat) : Int) = v2 from by omega] at this
        exact this
      rw [ea]
      have st : tnS E r (-1) (v2 + 1).toNat = tnR E (tnS E r (-1) v2.toNat) v2 := by
        rw [tnS_s hv.1, if_pos ((by decide +kernel : ∀ i, i < 32 → bt (iI (-1)) i = true) _ (by omega))]
      refine dnX (fun d => ?_) (fun d => ?_)
      · intro _ _
        refine ⟨fun q => absurd q (by decide), fun _ => ?_⟩
        intro x10 e10 _ x11 e11 _
        refine ih _ _ M6 i6 K6 (by rw [st]; exact c6) ?_ (by omega) (by omega)
        show x11 = bitF _ 1 _
        rw [hs, if_pos (ft_i.mpr d), e11, e10, h1]
        rfl
      · intro _ _
        refine ⟨fun _ => ?_, fun q => absurd rfl q⟩
        intro x9 e9 _
        refine ih _ _ M6 i6 K6 (by rw [st]; exact c6) ?_ (by omega) (by omega)
        show x9 = bitF _ 1 _
        rw [hs, if_neg (fun q => d (ft_i.mp q)), e9, h1]
        rfl
theorem gX11_turnInTrial_L13 {p1 : Int} {Q : Mem → Prop} {M0 E : Mem} {l : Nat} {r : Int → Int} (h : TB E M0 l) (hC0 : SC E M0 1 r) (hW : WR E r) (hf : fol E r) (ho : ∀ m, 0 ≤ m → m < E 1 5 → 0 ≤ E 3 m ∧ E 3 m < E 1 4) (hQ : ∀ M' : Mem, IX M' → Ks (kTr l) M0 M' → SC E M' 8 (tnS E r p1 (eO E)) → Q M') : ∀ (n : Nat) (v2 : Int) (M : Mem), IX M → Ks (kTr l) M0 M → SC E M 8 (tnS E r p1 v2.toNat) → (0 ≤ v2 ∧ v2 ≤ E 1 5) → E 1 5 - v2 < (n : Int) → qX11_turnInTrial_L13 p1 Q n v2 M := by
  have hE := h.2.2.2.1.eb
  have f := hE.f
  have g := hE.2
  have hl := h.2.2.1
  intro n
  induction n with
  | zero => intro v2 M hI hK hC hv hm; exact absurd hm (by omega)
  | succ n ih =>
    intro v2 M hI hK hC hv hm
    have C1 : SC E M 1 r := hC0.fr (fun i j hi => hK _ j (by omega))
    rw [qX11_turnInTrial_L13]
    intro x2 e2 _
    rw [C1.2.1] at e2
    refine ⟨⟨by omega, by omega⟩, ⟨fun c => ?_, fun c => ?_⟩⟩
    · rw [show v2.toNat = eO E from by omega] at hC
      exact hQ M hI hK hC
    · intro x5 e5 _ x6 e6 _
      rw [e5, bit1 (by omega)] at e6
      refine ⟨fun d => ?_, fun d => ?_⟩
      · refine ih _ M hI hK ?_ (by omega) (by omega)
        rw [tnS_s hv.1, if_neg (fun q => d (by rw [e6, if_pos q]))]
        exact hC
      · have w := tnS_W (b := p1) hE hW hf ho v2.toNat
        refine gX6_turn hI (show isS 8 by decide) (h.S hK) hC w.1 ?_
        intro M8 i8 k8 c8 _
        have K8 : Ks (kTr l) M0 M8 := hK.tr (k8.mono (by intro k j q; omega))
        refine ih _ M8 i8 K8 ?_ (by omega) (by omega)
        have yes : bt (iI p1) v2.toNat = true := by
          by_cases q : bt (iI p1) v2.toNat = true
          · exact q
          · rw [if_neg q] at e6; omega
        rw [tnS_s hv.1, if_pos yes]
        exact c8
theorem gX11_mends_L33 {p1 v2 v3 : Int} {X98 X116 : Int → Int → Mem → Prop} {Q : Int → Mem → Prop} {M0 E : Mem} {l : Nat} {r : Int → Int} (h : TB E M0 l) (hC0 : SC E M0 1 r) (hW : WR E r) (hf : fol E r) (h37 : r 37 ≤ 1999999000) (ho : ∀ m, 0 ≤ m → m < E 1 5 → 0 ≤ E 3 m ∧ E 3 m < E 1 4) (h2 : v2 = ablB E r (eO E)) (h3 : 0 ≤ v3 ∧ v3 ≤ 100) (hX : ∀ (b : Int) (M' : Mem), IX M' → (0 ≤ b ∧ b < 2 ^ eO E) → okB E r p1 b → bcF b = v3 → X98 v3 b M') (hN : ∀ M' : Mem, IX M' → Ks (kTr l) M0 M' → (∀ b : Int, (0 ≤ b ∧ b < 2 ^ eO E) → bcF b = v3 → ¬ okB E r p1 b) → X116 v2 v3 M') : ∀ (n : Nat) (v4 : Int) (M : Mem), IX M → Ks (kTr l) M0 M → (0 ≤ v4 ∧ v4 ≤ 2 ^ eO E) → (∀ b : Int, 0 ≤ b → b < v4 → bcF b = v3 → ¬ okB E r p1 b) → 256 - v4 < (n : Int) → qX11_mends_L33 p1 X98 X116 Q n v2 v3 v4 M := by
  have hE := h.2.2.2.1.eb
  have f := hE.f
  have g := hE.2
  have hl := h.2.2.1
  have pw := p2_0 (eO E) (by omega)
  intro n
  induction n with
  | zero => intro v4 M hI hK h4 hb hm; exact absurd hm (by omega)
  | succ n ih =>
    intro v4 M hI hK h4 hb hm
    have C1 : SC E M 1 r := hC0.fr (fun i j hi => hK _ j (by omega))
    have nx : ∀ Mz : Mem, IX Mz → Ks (kTr l) M0 Mz → v4 < 2 ^ eO E → (bcF v4 = v3 → ¬ okB E r p1 v4) → qX11_mends_L33 p1 X98 X116 Q n v2 v3 (v4 + 1) Mz := by
      intro Mz iz kz h5 no
      refine ih _ Mz iz kz (by omega) (fun b p q e => ?_) (by omega)
      by_cases c : b = v4
      · rw [c] at e ⊢
        exact no e
      · exact hb b p (by omega) e
    rw [qX11_mends_L33]
    intro x7 e7 _ x8 e8 _
    rw [C1.2.1] at e7
    have e8' : x8 = 2 ^ eO E := by
      rw [e8, e7, ← pw.1, f.2.1]
    refine ⟨⟨by omega, by omega⟩, ⟨fun c => hN M hI hK (fun b p e => hb b p.1 (by omega) e), fun c => ?_⟩⟩
    intro x11 e11 _ x12 e12 _
    rw [e12, e11, h2]
    have cb := canB_a (r := r) hE (b := v4) ⟨h4.1, by omega⟩
    refine ⟨fun d => ?_, fun d => ?_⟩
    · unfold qX11_mends_J69 qX11_mends_J70
      refine ⟨⟨by decide, by decide⟩, ⟨fun _ => ?_, fun q => absurd rfl q⟩⟩
      rw [← h2]
      exact nx M hI hK (by omega) (fun _ q => d (cb.mpr q.1))
    · refine gJ6_bitCount ?_
      intro _
      refine ⟨⟨by omega, by omega⟩, ⟨fun d2 => ?_, fun d2 => ?_⟩⟩
      · unfold qX11_mends_J69 qX11_mends_J70
        refine ⟨⟨by decide, by decide⟩, ⟨fun _ => ?_, fun q => absurd rfl q⟩⟩
        rw [← h2]
        exact nx M hI hK (by omega) (fun e => absurd e d2)
      · unfold qX11_mends_J70
        refine ⟨⟨by decide, by decide⟩, ⟨fun q => absurd q (by decide), fun _ => ⟨⟨by omega, by omega⟩, ?_⟩⟩⟩
        unfold qX11_turnInTrial
        refine trC h hC0 hI hK ?_
        intro M1 i1 k1 c1
        refine ⟨9, gX11_turnInTrial_L13 h hC0 hW hf ho ?_ 9 0 M1 i1 k1 c1 (by omega) (by omega)⟩
        intro M17 i17 k17 c17
        have w := tnS_W (b := v4) hE hW hf ho (eO E)
        refine trR h i17 k17 c17 w.1 w.2 (by rw [tnS_37 (by omega)]; exact h37) ?_
        intro M19 T i19 k19 _ _ _ _
        refine gJ6_bitCount ?_
        intro _
        refine ⟨fun d3 => ?_, fun d3 => ?_⟩
        · rw [← h2]
          exact nx M19 i19 k19 (by omega) (fun _ q => by have := q.2; omega)
        · exact hX v4 M19 i19 ⟨h4.1, by omega⟩ ⟨cb.mp d, by omega⟩ d2
theorem gX11_mends_L19 {p1 v2 : Int} {X98 : Int → Int → Mem → Prop} {Q : Int → Mem → Prop} {M0 E : Mem} {l : Nat} {r : Int → Int} (h : TB E M0 l) (hC0 : SC E M0 1 r) (hW : WR E r) (hf : fol E r) (h37 : r 37 ≤ 1999999000) (ho : ∀ m, 0 ≤ m → m < E 1 5 → 0 ≤ E 3 m ∧ E 3 m < E 1 4) (h2 : v2 = ablB E r (eO E)) (hX : ∀ (c b : Int) (M' : Mem), IX M' → (0 ≤ b ∧ b ≤ 256) → LST (mdP E r p1) (E 1 5 + 1) c → 0 ≤ c → X98 c b M') (hQ : ∀ M' : Mem, IX M' → LST (mdP E r p1) (E 1 5 + 1) (-2) → Q (-2) M') : ∀ (n : Nat) (v3 : Int) (M : Mem), IX M → Ks (kTr l) M0 M → (0 ≤ v3 ∧ v3 ≤ E 1 5 + 1) → (∀ c : Int, 0 ≤ c → c < v3 → ¬ mdP E r p1 c) → E 1 5 + 1 - v3 < (n : Int) → qX11_mends_L19 p1 X98 Q n v2 v3 M := by
  have hE := h.2.2.2.1.eb
  have f := hE.f
  have g := hE.2
  have hl := h.2.2.1
  have pw := p2_0 (eO E) (by omega)
  intro n
  induction n with
  | zero => intro v3 M hI hK h3 hn hm; exact absurd hm (by omega)
  | succ n ih =>
    intro v3 M hI hK h3 hn hm
    have C1 : SC E M 1 r := hC0.fr (fun i j hi => hK _ j (by omega))
    rw [qX11_mends_L19]
    intro x4 e4 _
    rw [C1.2.1] at e4
    refine ⟨⟨by omega, by omega⟩, ⟨fun c => hQ M hI (Or.inl ⟨rfl, fun v p q => hn v p (by omega)⟩), fun c => ?_⟩⟩
    refine ⟨257, gX11_mends_L33 h hC0 hW hf h37 ho h2 (by omega) ?_ ?_ 257 0 M hI hK (by omega) (fun b p q => by omega) (by omega)⟩
    · intro b M' i' hb ok e
      exact hX v3 b M' i' (by omega) (Or.inr ⟨by omega, ⟨b, hb, ok, e⟩, fun v p q => hn v p q⟩) h3.1
    · intro M' i' k' no
      refine ih _ M' i' k' (by omega) (fun c' p q => ?_) (by omega)
      by_cases e : c' = v3
      · rw [e]
        intro ⟨b, hb, ok, eb⟩
        exact no b hb eb ok
      · exact hn c' p (by omega)
theorem gX11_mends {p1 : Int} {M E : Mem} {l : Nat} {r : Int → Int} {Q : Int → Mem → Prop} (h : TB E M l) (ho : ∀ m, 0 ≤ m → m < E 1 5 → 0 ≤ E 3 m ∧ E 3 m < E 1 4) (hC : SC E M 1 r) (hW : WR E r) (hf : fol E r) (h37 : r 37 ≤ 1999990000) (hQ : ∀ (z : Int) (M' : Mem), IX M' → MNA E r p1 z → Q z M') : qX11_mends p1 M Q := by
  have hE := h.2.2.2.1.eb
  have g := hE.2
  unfold qX11_mends
  refine ⟨fun c => hQ _ M h.1 (Or.inl ⟨by omega, rfl⟩), fun c => ⟨fun c2 => ?_, fun c2 => hQ _ M h.1 (Or.inl ⟨by omega, rfl⟩)⟩⟩
  unfold qX11_ableToTurn
  refine trC h hC h.1 Ks.rf ?_
  intro M1 i1 k1 c1
  refine ⟨9, gX11_ableToTurn_L15 h hC hW hf ho ?_ 9 0 0 M1 i1 k1 c1 rfl (by omega) (by omega)⟩
  intro M3 i3 k3 _
  refine ⟨10, gX11_mends_L19 h hC hW hf (by omega) ho rfl ?_ ?_ 10 0 M3 i3 k3 (by omega) (fun c' p q => by omega) (by omega)⟩
  · intro z b M' i' hb hz h0
    refine ⟨⟨by omega, by omega⟩, ?_⟩
    refine tell1 i' ?_
    intro M28 i28 _
    refine ⟨?_, hQ z M28 i28 (Or.inr ⟨by omega, hz⟩)⟩
    rcases hz with q | q
    · exact ⟨by omega, by omega⟩
    · exact ⟨by omega, by omega⟩
  · intro M' i' hz
    exact hQ _ M' i' (Or.inr ⟨by omega, hz⟩)
-- the reference
theorem gX12_mends_L58 {b p1 v2 v3 : Int} {X122 : Int → Int → Int → Mem → Prop} {Q : Int → Mem → Prop} {E : Mem} {r5 g : Int → Int} (hE : EBx E) (ho : ∀ m, 0 ≤ m → m < E 1 5 → 0 ≤ E 3 m ∧ E 3 m < E 1 4) (h3 : 0 ≤ v3 ∧ v3 ≤ 256) (hX : ∀ (v4 : Int) (M' : Mem), TM E b r5 g M' → M' 6 = tnS E (cr r5 g) v3 (eO E) → (v4 = 1 ∧ canB E (cr r5 g) v3 ∨ v4 = 0 ∧ ¬ canB E (cr r5 g) v3) → X122 v2 v3 v4 M') : ∀ (n : Nat) (v4 v5 : Int) (M : Mem), TM E b r5 g M → M 6 = tnS E (cr r5 g) v3 v5.toNat → (v4 = 1 ∧ (∀ m : Int, 0 ≤ m → m < v5 → bt (iI v3) m.toNat = true → isDn (tnA E (cr r5 g) m)) ∨ v4 = 0 ∧ ∃ m : Int, 0 ≤ m ∧ m < v5 ∧ bt (iI v3) m.toNat = true ∧ ¬ isDn (tnA E (cr r5 g) m)) → (0 ≤ v5 ∧ v5 ≤ E 1 5) → E 1 5 - v5 < (n : Int) → qX12_mends_L58 p1 X122 Q n v2 v3 v4 v5 M := by
  have f := hE.f
  have g2 := hE.2
  intro n
  induction n with
  | zero => intro v4 v5 M hT h6 h4 hv hm; exact absurd hm (by omega)
  | succ n ih =>
    intro v4 v5 M hT h6 h4 hv hm
    rw [qX12_mends_L58]
    intro x11 e11 _
    rw [hT.2.1 1 5 cE15] at e11
    refine ⟨⟨by omega, by omega⟩, ⟨fun c => ?_, fun c => ⟨⟨by omega, by omega⟩, ?_⟩⟩⟩
    · rw [show v5.toNat = eO E from by omega] at h6
      refine hX v4 M hT h6 ?_
      rcases h4 with ⟨a, q⟩ | ⟨a, m, p, q, u, w⟩
      · exact Or.inl ⟨a, fun m p1 p2 p3 => q m p1 (by omega) p3⟩
      · exact Or.inr ⟨a, fun k => w (k m p (by omega) u)⟩
    · have J90 : ∀ (t : Int) (Mz : Mem), iR t → TM E b r5 g Mz → Mz 6 = tnS E (cr r5 g) v3 (v5 + 1).toNat → (t = 0 ∧ ¬ bt (iI v3) v5.toNat = true ∨ t = tnA E (cr r5 g) v5 ∧ bt (iI v3) v5.toNat = true) → qX12_mends_J90 p1 (qX12_mends_L58 p1 X122 Q n) X122 Q v2 v3 v4 v5 t Mz := by
        intro t Mz rt tz e6 ht
        have one : (bt (iI v3) v5.toNat = true → isDn (tnA E (cr r5 g) v5)) → v4 ≠ 0 → qX12_mends_L58 p1 X122 Q n v2 v3 1 (v5 + 1) Mz := by
          intro ok ne
          refine ih 1 (v5 + 1) Mz tz e6 (Or.inl ⟨rfl, fun m p q u => ?_⟩) (by omega) (by omega)
          by_cases c2 : m = v5
          · rw [c2] at u ⊢
            exact ok u
          · rcases h4 with ⟨a, w⟩ | ⟨a, _⟩
            · exact w m p (by omega) u
            · exact absurd a ne
        have zer : (v4 = 0 ∨ bt (iI v3) v5.toNat = true ∧ ¬ isDn (tnA E (cr r5 g) v5)) → qX12_mends_L58 p1 X122 Q n v2 v3 0 (v5 + 1) Mz := by
          intro k
          refine ih 0 (v5 + 1) Mz tz e6 (Or.inr ⟨rfl, ?_⟩) (by omega) (by omega)
          rcases k with k | k
          · rcases h4 with ⟨a, w⟩ | ⟨a, m, p, q, u, w⟩
            · omega
            · exact ⟨m, p, by omega, u, w⟩
          · exact ⟨v5, hv.1, by omega, k.1, k.2⟩
        unfold qX12_mends_J90
        refine ⟨by rcases h4 with q | q <;> exact ⟨by omega, by omega⟩, ⟨fun d => zer (Or.inl d), fun d => ⟨rt, ⟨fun d2 => one (fun u => ?_) d, fun d2 => ⟨fun d3 => zer (Or.inr ?_), fun d3 => one (fun u => ?_) d⟩⟩⟩⟩⟩
        · rcases ht with ⟨a, q⟩ | ⟨a, q⟩
          · exact absurd u q
          · exact Or.inl (by omega)
        · rcases ht with ⟨a, q⟩ | ⟨a, q⟩
          · omega
          · refine ⟨q, fun k => ?_⟩
            rcases k with k | k
            · omega
            · omega
        · rcases ht with ⟨a, q⟩ | ⟨a, q⟩
          · exact absurd u q
          · exact Or.inr (by omega)
      refine hasM (by omega) ?_
      intro z hz _ _
      refine ⟨fun d => ?_, fun d => ?_⟩
      · have no : ¬ bt (iI v3) v5.toNat = true := by
          rcases hz with u | u
          · omega
          · exact u.2
        exact J90 0 M ⟨by decide, by decide⟩ hT (by rw [h6, tnS_s hv.1, if_neg no]) (Or.inl ⟨rfl, no⟩)
      · have yes : bt (iI v3) v5.toNat = true := by
          rcases hz with u | u
          · exact u.2
          · omega
        obtain ⟨i0, E0, k0, o0⟩ := hT
        refine gX12_turnsOne i0 E0 (Or.inr rfl) ?_
        intro M22 i22 f22 e22 r22
        have ea : tnA E (M 6) v5 = tnA E (cr r5 g) v5 := by
          rw [h6]
          have := tnS_A (r := cr r5 g) (b := v3) (n := v5.toNat) hE ho (by omega)
          rw [show ((v5.toNat : Nat) : Int) = v5 from by omega] at this
          exact this
        have e6' : M22 6 = tnS E (cr r5 g) v3 (v5 + 1).toNat := by rw [e22, h6, tnS_s hv.1, if_pos yes]
        refine J90 _ M22 r22 ⟨i22, E0.fr f22 (by intro k j h; rcases h with h | h | h | h | h <;> omega), ?_, ?_⟩ e6' (Or.inr ⟨ea, yes⟩)
        · rw [← k0]
          exact funext fun j => f22 5 j (by omega)
        · rw [e6']
          exact tnS_out (by omega) (OUT.cr r5 g)
theorem gX12_mends_L23 {b p1 : Int} {X150 : Int → Mem → Prop} {Q : Int → Mem → Prop} {E : Mem} {r5 g : Int → Int} (hE : EBx E) (ho : ∀ m, 0 ≤ m → m < E 1 5 → 0 ≤ E 3 m ∧ E 3 m < E 1 4) (hW : WR E (cr r5 g)) (hf : fol E (cr r5 g)) (hb : b + 52000 ≤ 2000000000) (hX : ∀ (v2 : Int) (M' : Mem), IM (b + 52000) M' → (v2 = -1 ∧ (∀ c : Int, (0 ≤ c ∧ c < 2 ^ eO E) → ¬ okB E (cr r5 g) p1 c) ∨ (0 ≤ v2 ∧ v2 < 2 ^ eO E) ∧ okB E (cr r5 g) p1 v2 ∧ ∀ c : Int, (0 ≤ c ∧ c < 2 ^ eO E) → okB E (cr r5 g) p1 c → bcF v2 ≤ bcF c) → X150 v2 M') : ∀ (n : Nat) (v2 v3 : Int) (M : Mem), TM E (b + 200 * v3) r5 g M → (0 ≤ v3 ∧ v3 ≤ 2 ^ eO E) → (v2 = -1 ∧ (∀ c : Int, 0 ≤ c → c < v3 → ¬ okB E (cr r5 g) p1 c) ∨ (0 ≤ v2 ∧ v2 < v3) ∧ okB E (cr r5 g) p1 v2 ∧ ∀ c : Int, 0 ≤ c → c < v3 → okB E (cr r5 g) p1 c → bcF v2 ≤ bcF c) → 256 - v3 < (n : Int) → qX12_mends_L23 p1 X150 Q n v2 v3 M := by
  have f := hE.f
  have g2 := hE.2
  have pw := p2_0 (eO E) (by omega)
  intro n
  induction n with
  | zero => intro v2 v3 M hT h3 h2 hm; exact absurd hm (by omega)
  | succ n ih =>
    intro v2 v3 M hT h3 h2 hm
    have r2 : iR v2 := by rcases h2 with q | q <;> exact ⟨by omega, by omega⟩
    rw [qX12_mends_L23]
    intro x4 e4 _ x5 e5 _
    rw [hT.2.1 1 5 cE15] at e4
    have e5' : x5 = 2 ^ eO E := by rw [e5, e4, ← pw.1, f.2.1]
    refine ⟨⟨by omega, by omega⟩, ⟨fun c => ?_, fun c => ⟨r2, ?_⟩⟩⟩
    · refine hX v2 M (hT.1.mono (by omega)) ?_
      rcases h2 with ⟨a, q⟩ | ⟨a, q, w⟩
      · exact Or.inl ⟨a, fun c' p => q c' p.1 (by omega)⟩
      · exact Or.inr ⟨by omega, q, fun c' p => w c' p.1 (by omega)⟩
    · -- the set v3 is no better
      have skip : ∀ Mz : Mem, TM E (b + 200 * (v3 + 1)) r5 g Mz → (¬ okB E (cr r5 g) p1 v3 ∨ 0 ≤ v2 ∧ bcF v2 ≤ bcF v3) → qX12_mends_L23 p1 X150 Q n v2 (v3 + 1) Mz := by
        intro Mz tz no
        refine ih v2 (v3 + 1) Mz tz (by omega) ?_ (by omega)
        rcases h2 with ⟨a, q⟩ | ⟨a, q, w⟩
        · refine Or.inl ⟨a, fun c' p1' p2' => ?_⟩
          by_cases e : c' = v3
          · rw [e]
            rcases no with k | k
            · exact k
            · omega
          · exact q c' p1' (by omega)
        · refine Or.inr ⟨by omega, q, fun c' p1' p2' ok => ?_⟩
          by_cases e : c' = v3
          · rw [e] at ok ⊢
            rcases no with k | k
            · exact absurd ok k
            · exact k.2
          · exact w c' p1' (by omega) ok
      have J48 : (v2 < 0 ∨ bcF v3 ≤ bcF v2) → qX12_mends_J48 p1 (qX12_mends_L23 p1 X150 Q n) X150 Q v2 v3 M := by
        intro bet
        unfold qX12_mends_J48
        refine cpM hT ?_
        intro M10 t10 e10
        refine ⟨9, gX12_mends_L58 (v2 := v2) (v3 := v3) hE ho (by omega) ?_ 9 1 0 M10 t10 (by rw [e10]; rfl) (Or.inl ⟨rfl, fun m p q => by omega⟩) (by omega) (by omega)⟩
        intro v4 M' t' e' h4
        refine ⟨by rcases h4 with q | q <;> exact ⟨by omega, by omega⟩, ⟨fun d => ?_, fun d => ?_⟩⟩
        · refine skip M' (t'.mono (by omega)) (Or.inl (fun k => ?_))
          rcases h4 with q | q
          · omega
          · exact q.2 k.1
        · have w := tnS_W (b := v3) hE hW hf ho (eO E)
          refine rtM t' ho (by rw [e']; exact w.1) (by omega) ?_
          rw [e']
          intro M26 t26 _ _
          refine gJ6_bitCount ?_
          intro _
          refine ⟨fun d2 => skip M26 (t26.mono (by omega)) (Or.inl (fun k => by have := k.2; omega)), fun d2 => ?_⟩
          have ok : okB E (cr r5 g) p1 v3 := ⟨by
            rcases h4 with q | q
            · exact q.2
            · omega, by omega⟩
          refine ih v3 (v3 + 1) M26 (t26.mono (by omega)) (by omega) (Or.inr ⟨by omega, ok, fun c' p1' p2' okc => ?_⟩) (by omega)
          by_cases e : c' = v3
          · rw [e]
            exact Int.le_refl _
          · rcases h2 with ⟨a, q⟩ | ⟨a, q, w'⟩
            · exact absurd okc (q c' p1' (by omega))
            · have := w' c' p1' (by omega) okc
              rcases bet with k | k
              · omega
              · omega
      refine ⟨fun d => J48 (Or.inl d), fun d => ?_⟩
      refine gJ6_bitCount ?_
      intro _
      refine gJ6_bitCount ?_
      intro _
      refine ⟨fun d2 => skip M (hT.mono (by omega)) (Or.inr ⟨by omega, d2⟩), fun d2 => J48 (Or.inr (by omega))⟩
theorem gX12_mends {p1 b : Int} {M E : Mem} {Q : Int → Mem → Prop} (hI : IM b M) (hE : CE E M) (ho : ∀ m, 0 ≤ m → m < E 1 5 → 0 ≤ E 3 m ∧ E 3 m < E 1 4) (hW : WR E (cr (M 5) (M 6))) (hf : fol E (cr (M 5) (M 6))) (hb : b + 52000 ≤ 2000000000) (hQ : ∀ (z : Int) (M' : Mem), IM (b + 52000) M' → MNA E (cr (M 5) (M 6)) p1 z → Q z M') : qX12_mends p1 M Q := by
  have E0 := hE.eb hI
  have f := E0.f
  have g := E0.2
  have pw := p2_0 (eO E) (by omega)
  unfold qX12_mends
  intro M1 h1
  obtain ⟨i1, E1, k5, k6, _⟩ := th0 hI hE h1
  refine sX12_in (p0 := p1) (p2 := 0) (p4 := 8) i1 ?_
  intro x2 p2 _ _
  refine ⟨fun c => ?_, fun c => hQ _ M1 (i1.mono (by omega)) (Or.inl ⟨by omega, rfl⟩)⟩
  have hp : 0 ≤ p1 ∧ p1 ≤ 8 := by omega
  refine ⟨257, gX12_mends_L23 (E := E) (b := b) (r5 := M 5) (g := M 6) E0 ho hW hf hb ?_ 257 (-1) 0 M1 ⟨i1.mono (by omega), E1, k5, by rw [k6]; exact fun _ _ => rfl⟩ (by omega) (Or.inl ⟨rfl, fun c' p q => by omega⟩) (by omega)⟩
  intro v2 M' i' hv
  refine ⟨by rcases hv with q | q <;> exact ⟨by omega, by omega⟩, ⟨fun d => ?_, fun d => ?_⟩⟩
  · intro M35 h35
    have i35 : IM (b + 52000) M35 := by rw [h35]; exact i'.up (by omega) (bm_c1_1.mpr (by decide))
    have t35 : M35 1 1 = 0 := by rw [h35, up2_s]
    refine entC i35 (by omega) ?_
    intro M36 i36 _ _
    refine gJ6_bitCount ?_
    intro _
    refine hQ _ M36 i36 (Or.inr ⟨hp, ?_⟩)
    rcases hv with q | ⟨q, ok, mn⟩
    · omega
    · have b0 := bcF_b v2
      have b1 := bc_le (n := eO E) (by omega) q
      refine Or.inr ⟨by omega, ⟨v2, q, ok, rfl⟩, fun v p u => ?_⟩
      intro ⟨c', hc, okc, ec⟩
      have := mn c' hc okc
      omega
  · refine hQ _ M' i' (Or.inr ⟨hp, ?_⟩)
    rcases hv with ⟨q, no⟩ | ⟨q, ok, mn⟩
    · refine Or.inl ⟨rfl, fun v p u => ?_⟩
      intro ⟨c', hc, okc, ec⟩
      exact no c' hc okc
    · omega
