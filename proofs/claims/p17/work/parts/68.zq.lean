/-! THE RULE'S TEXT: the class reads it -/
/-- what waits stands in g; the law so far in g, h (its letters u) -/
def SK (g : Int → Int) : List Int → Prop
  | [] => True
  | c :: W => g W.length = c ∧ SK g W
def SO (g h : Int → Int) (u : Int) : List (Int × Int) → Prop
  | [] => True
  | p :: O => (g O.length = p.1 ∧ h O.length = p.2 ∧ kOK p.1 p.2 ∧ (p.1 = 301 → bt (iI u) p.2.toNat = true)) ∧ SO g h u O
theorem SK.cg {g g' : Int → Int} : ∀ {W : List Int}, SK g W → (∀ j : Int, 0 ≤ j → j < W.length → g' j = g j) → SK g' W
  | [], _, _ => trivial
  | c :: W, h, e => by
    have l : ((c :: W).length : Int) = W.length + 1 := by show ((W.length + 1 : Nat) : Int) = _; omega
    rw [l] at e
    exact ⟨by rw [e _ (by omega) (by omega)]; exact h.1, h.2.cg (fun j p q => e j p (by omega))⟩
theorem SO.cg {g h g' h' : Int → Int} {u u' : Int} (hu : ∀ i, bt (iI u) i = true → bt (iI u') i = true) : ∀ {O : List (Int × Int)}, SO g h u O → (∀ j : Int, 0 ≤ j → j < O.length → g' j = g j) → (∀ j : Int, 0 ≤ j → j < O.length → h' j = h j) → SO g' h' u' O
  | [], _, _, _ => trivial
  | p :: O, s, e, e2 => by
    have l : ((p :: O).length : Int) = O.length + 1 := by show ((O.length + 1 : Nat) : Int) = _; omega
    rw [l] at e e2
    obtain ⟨⟨a, b, c, d⟩, s2⟩ := s
    exact ⟨⟨by rw [e _ (by omega) (by omega)]; exact a, by rw [e2 _ (by omega) (by omega)]; exact b, c, fun q => hu _ (d q)⟩, s2.cg hu (fun j p q => e j p (by omega)) (fun j p q => e2 j p (by omega))⟩
/-- the law at k so far -/
def ROl (k : Nat) (M : Mem) (O : List (Int × Int)) : Prop := M k 4 = O.length ∧ SO (M (k + 1)) (M (k + 2)) (M k 5) O
def RWt (M : Mem) (W : List Int) : Prop := M 185 1 = W.length ∧ SK (M 186) W
theorem ROl.fr {k : Nat} {M M' : Mem} {O : List (Int × Int)} (h : ROl k M O) (e4 : M' k 4 = M k 4) (e5 : M' k 5 = M k 5) (e1 : M' (k + 1) = M (k + 1)) (e2 : M' (k + 2) = M (k + 2)) : ROl k M' O := by
  unfold ROl at h ⊢
  rw [e4, e5, e1, e2]
  exact h
theorem RWt.fr {M M' : Mem} {W : List Int} (h : RWt M W) (e1 : M' 185 1 = M 185 1) (e2 : M' 186 = M 186) : RWt M' W := by
  unfold RWt at h ⊢
  rw [e1, e2]
  exact h
abbrev kAl (k0 : Nat) (k : Nat) (j : Int) : Prop := (k = k0 ∧ (j = 4 ∨ j = 5)) ∨ k = k0 + 1 ∨ k = k0 + 2
theorem gX2_add {k0 : Nat} {p1 p2 : Int} {M : Mem} {O : List (Int × Int)} {Q : Mem → Prop} (hI : IX M) (hk0 : isL k0) (hp : kOK p1 p2) (hu : p1 = 301 → bt (iI (M k0 5)) p2.toNat = true) (hR : ROl k0 M O) (hn : O.length < 40) (hQ : ∀ M' : Mem, IX M' → Ks (fun k j => (k = k0 ∧ j = 4) ∨ k = k0 + 1 ∨ k = k0 + 2) M M' → ROl k0 M' ((p1, p2) :: O) → Q M') : qX2_add k0 p1 p2 M Q := by
  have ek0 : k0 = 187 ∨ k0 = 192 := hk0
  have h301 : p1 = 301 → 0 ≤ p2 ∧ p2 ≤ 6 := by intro h; rcases hp with q | q | q | q | q | q | q | q | q | q <;> omega
  obtain ⟨hl, hs⟩ := hR
  unfold qX2_add
  intro x1 e1 r1
  refine ⟨fun c => by omega, fun c => ?_⟩
  intro x3 e3 r3
  refine ⟨by omega, by omega, ?_⟩
  intro M6 h6 x7 e7 r7
  have f7 : x7 = x3 := by rw [e7, h6, up2_n (by omega), e3]
  refine ⟨by omega, by omega, ?_⟩
  intro M10 h10 x11 e11 r11
  have f11 : x11 = x3 := by rw [e11, h10, up2_n (by omega), h6, up2_n (by omega), e3]
  refine ⟨⟨by omega, by omega⟩, ?_⟩
  intro M13 h13
  have K : Ks (fun k j => (k = k0 ∧ j = 4) ∨ k = k0 + 1 ∨ k = k0 + 2) M M13 := by
    rw [h13, h10, h6]
    exact ((Ks.rf.wr (Or.inr (Or.inl rfl))).wr (Or.inr (Or.inr rfl))).wr (Or.inl ⟨rfl, rfl⟩)
  have g1 : ∀ j, M13 (k0 + 1) j = if j = x3 then p1 else M (k0 + 1) j := by
    intro j
    rw [h13, up2_n (by omega), h10, up2_n (by omega), h6, up2_a, if_pos rfl]
  have g2 : ∀ j, M13 (k0 + 2) j = if j = x3 then p2 else M (k0 + 2) j := by
    intro j
    rw [h13, up2_n (by omega), h10, up2_a, if_pos rfl, f7, h6, up2_n (by omega)]
  refine hQ _ ?_ K ⟨?_, ⟨?_, ?_, hp, ?_⟩, ?_⟩
  · rw [h13, h10, h6]
    refine ⟨BX.up (BX.up (BX.up hI.1 (bx_lf1 hk0)) (bx_lf2 hk0)) ((bx_l4 hk0).mpr ⟨by omega, by omega⟩), ?_, fun k' j' hk' => ?_⟩
    · rw [up2_n (by rcases hk0 with rfl | rfl <;> omega), up2_n (by rcases hk0 with rfl | rfl <;> omega), up2_n (by rcases hk0 with rfl | rfl <;> omega)]
      exact hI.2.1
    · have hd : k' + 1 ≠ k0 ∧ k' + 1 ≠ k0 + 2 ∧ k' + 2 ≠ k0 ∧ k' + 2 ≠ k0 + 1 := by rcases hk' with rfl | rfl <;> rcases hk0 with rfl | rfl <;> omega
      rw [up2_n hd.1, up2_n hd.2.1, up2_n hd.2.2.1, f7, up2_a, up2_a, up2_n (k' := k' + 2) hd.2.2.2]
      by_cases c1 : k' = k0
      · subst c1
        rw [if_pos rfl, if_pos rfl]
        by_cases c2 : j' = x3
        · rw [if_pos c2, if_pos c2]; exact h301
        · rw [if_neg c2, if_neg c2]; exact hI.2.2 _ _ hk'
      · rw [if_neg (by omega), if_neg (by omega)]; exact hI.2.2 _ _ hk'
  · show M13 k0 4 = ((O.length + 1 : Nat) : Int)
    rw [h13, up2_s]
    omega
  · show M13 (k0 + 1) O.length = p1
    rw [g1, if_pos (by omega)]
  · show M13 (k0 + 2) O.length = p2
    rw [g2, if_pos (by omega)]
  · show p1 = 301 → bt (iI (M13 k0 5)) p2.toNat = true
    rw [K k0 5 (by omega)]
    exact hu
  · refine hs.cg (u' := M13 k0 5) (by rw [K k0 5 (by omega)]; exact fun _ q => q) (fun j p q => ?_) (fun j p q => ?_)
    · rw [g1, if_neg (by omega)]
    · rw [g2, if_neg (by omega)]
theorem gX2_addLetter {k0 : Nat} {p1 : Int} {M : Mem} {O : List (Int × Int)} {Q : Mem → Prop} (hI : IX M) (hk0 : isL k0) (hp : 0 ≤ p1 ∧ p1 ≤ 6) (hR : ROl k0 M O) (hn : O.length < 40) (hQ : ∀ M' : Mem, IX M' → Ks (kAl k0) M M' → ROl k0 M' ((301, p1) :: O) → Q M') : qX2_addLetter k0 p1 M Q := by
  have ek0 : k0 = 187 ∨ k0 = 192 := hk0
  have h301 : (301 : Int) = 301 → 0 ≤ p1 ∧ p1 ≤ 6 := fun _ => hp
  obtain ⟨hl, hs⟩ := hR
  unfold qX2_addLetter qX2_add
  intro x1 e1 r1
  refine ⟨fun c => by omega, fun c => ?_⟩
  intro x3 e3 r3
  refine ⟨by omega, by omega, ?_⟩
  intro M6 h6 x7 e7 r7
  have f7 : x7 = x3 := by rw [e7, h6, up2_n (by omega), e3]
  refine ⟨by omega, by omega, ?_⟩
  intro M10 h10 x11 e11 r11
  have f11 : x11 = x3 := by rw [e11, h10, up2_n (by omega), h6, up2_n (by omega), e3]
  refine ⟨⟨by omega, by omega⟩, ?_⟩
  intro M13 h13
  have i13 : IX M13 := by
    rw [h13, h10, h6]
    refine ⟨BX.up (BX.up (BX.up hI.1 (bx_lf1 hk0)) (bx_lf2 hk0)) ((bx_l4 hk0).mpr ⟨by omega, by omega⟩), ?_, fun k' j' hk' => ?_⟩
    · rw [up2_n (by rcases hk0 with rfl | rfl <;> omega), up2_n (by rcases hk0 with rfl | rfl <;> omega), up2_n (by rcases hk0 with rfl | rfl <;> omega)]
      exact hI.2.1
    · have hd : k' + 1 ≠ k0 ∧ k' + 1 ≠ k0 + 2 ∧ k' + 2 ≠ k0 ∧ k' + 2 ≠ k0 + 1 := by rcases hk' with rfl | rfl <;> rcases hk0 with rfl | rfl <;> omega
      rw [up2_n hd.1, up2_n hd.2.1, up2_n hd.2.2.1, f7, up2_a, up2_a, up2_n (k' := k' + 2) hd.2.2.2]
      by_cases c1 : k' = k0
      · subst c1
        rw [if_pos rfl, if_pos rfl]
        by_cases c2 : j' = x3
        · rw [if_pos c2, if_pos c2]; exact h301
        · rw [if_neg c2, if_neg c2]; exact hI.2.2 _ _ hk'
      · rw [if_neg (by omega), if_neg (by omega)]; exact hI.2.2 _ _ hk'
  have g1 : ∀ j, M13 (k0 + 1) j = if j = x3 then 301 else M (k0 + 1) j := by
    intro j
    rw [h13, up2_n (by omega), h10, up2_n (by omega), h6, up2_a, if_pos rfl]
  have g2 : ∀ j, M13 (k0 + 2) j = if j = x3 then p1 else M (k0 + 2) j := by
    intro j
    rw [h13, up2_n (by omega), h10, up2_a, if_pos rfl, f7, h6, up2_n (by omega)]
  have g5 : M13 k0 5 = M k0 5 := by rw [h13, up2_j (by decide), h10, up2_n (by omega), h6, up2_n (by omega)]
  intro y2 q2 _ y3 q3 _ y4 q4 _ M5 h5
  have hb : ∀ i, i < 32 → bt (iI y4) i = (bt (iI (M k0 5)) i || decide ((i : Int) = p1)) := by
    intro i hi
    rw [q4, bt_oI, q3, bt_sl1 ⟨by omega, by omega⟩ hi, q2, g5]
  have hm : ∀ i, bt (iI (M k0 5)) i = true → bt (iI y4) i = true := by
    intro i h
    by_cases c : i < 32
    · rw [hb i c, h]; rfl
    · rw [b_big (by omega)] at h
      cases h
  have k1 : M5 (k0 + 1) = M13 (k0 + 1) := by rw [h5, up2_n (by omega)]
  have k2 : M5 (k0 + 2) = M13 (k0 + 2) := by rw [h5, up2_n (by omega)]
  have k4 : M5 k0 4 = M13 k0 4 := by rw [h5, up2_j (by decide)]
  have k5 : M5 k0 5 = y4 := by rw [h5, up2_s]
  refine hQ _ ?_ ?_ ⟨?_, ⟨?_, ?_, Or.inr (Or.inl ⟨rfl, hp⟩), ?_⟩, ?_⟩
  · rw [h5]; exact i13.up (isL.nsp0 hk0) (bx_lf0 hk0 (by decide))
  · rw [h5, h13, h10, h6]
    exact (((Ks.rf.wr (Or.inr (Or.inl rfl))).wr (Or.inr (Or.inr rfl))).wr (Or.inl ⟨rfl, Or.inl rfl⟩)).wr (Or.inl ⟨rfl, Or.inr rfl⟩)
  · show M5 k0 4 = ((O.length + 1 : Nat) : Int)
    rw [k4, h13, up2_s]
    omega
  · show M5 (k0 + 1) O.length = 301
    rw [k1, g1, if_pos (by omega)]
  · show M5 (k0 + 2) O.length = p1
    rw [k2, g2, if_pos (by omega)]
  · intro _
    show bt (iI (M5 k0 5)) p1.toNat = true
    rw [k5, hb _ (by omega), decide_eq_true (by omega), Bool.or_true]
  · rw [k5]
    refine hs.cg hm (fun j p q => ?_) (fun j p q => ?_)
    · rw [k1, g1, if_neg (by omega)]
    · rw [k2, g2, if_neg (by omega)]
theorem gX5_bindingOf {p0 : Int} {M : Mem} {Q : Int → Mem → Prop} (hQ : Q (bnd p0) M) : qX5_bindingOf p0 M Q := by
  unfold qX5_bindingOf
  refine ⟨fun c => ?_, fun c => ?_, fun c => ?_, fun c => ?_, fun c => ?_, fun c => ?_, fun c => ?_, fun c => ?_, fun c => ?_⟩
  · rw [c] at hQ; exact hQ
  · rw [c] at hQ; exact hQ
  · rw [c] at hQ; exact hQ
  · rw [c] at hQ; exact hQ
  · rw [c] at hQ; exact hQ
  · rw [c] at hQ; exact hQ
  · rw [c] at hQ; exact hQ
  · rw [c] at hQ; exact hQ
  · obtain ⟨c1, c2, c3, c4, c5, c6, c7, c8⟩ := c
    have e : bnd p0 = 0 := by
      unfold bnd
      rw [if_neg c1, if_neg c2, if_neg c3, if_neg c4, if_neg c5, if_neg c6, if_neg c7, if_neg c8]
    rw [e] at hQ
    exact hQ
theorem bnd_b (c : Int) : 0 ≤ bnd c ∧ bnd c ≤ 4 ∧ (1 ≤ bnd c → kOK c 0 ∧ c ≠ 301 ∧ c ≠ 40) := by
  unfold bnd kOK
  by_cases c1 : c = 42
  · rw [if_pos c1]; omega
  · rw [if_neg c1]
    by_cases c2 : c = 43
    · rw [if_pos c2]; omega
    · rw [if_neg c2]
      by_cases c3 : c = 45
      · rw [if_pos c3]; omega
      · rw [if_neg c3]
        by_cases c4 : c = 47
        · rw [if_pos c4]; omega
        · rw [if_neg c4]
          by_cases c5 : c = 60
          · rw [if_pos c5]; omega
          · rw [if_neg c5]
            by_cases c6 : c = 61
            · rw [if_pos c6]; omega
            · rw [if_neg c6]
              by_cases c7 : c = 62
              · rw [if_pos c7]; omega
              · rw [if_neg c7]
                by_cases c8 : c = 302
                · rw [if_pos c8]; omega
                · rw [if_neg c8]; omega
theorem gX5_latestBinding {W : List Int} {M : Mem} {Q : Int → Mem → Prop} (hR : RWt M W) (hl : W.length ≤ 40) (hQ : Q (lbd W) M) : qX5_latestBinding M Q := by
  obtain ⟨h1, h2⟩ := hR
  unfold qX5_latestBinding
  intro x1 e1 _
  cases W with
  | nil =>
    have l : (([] : List Int).length : Int) = 0 := rfl
    exact ⟨fun _ => hQ, fun c => by omega⟩
  | cons c W =>
    have l : ((c :: W).length : Int) = W.length + 1 := by show ((W.length + 1 : Nat) : Int) = _; omega
    have l2 : (c :: W).length = W.length + 1 := rfl
    refine ⟨fun q => by omega, fun _ => ?_⟩
    intro x3 e3 _
    refine ⟨by omega, by omega, ?_⟩
    intro x6 e6 _
    have f6 : x6 = c := by
      rw [e6, show x3 - 1 = (W.length : Int) from by omega]
      exact h2.1
    rw [f6]
    exact gX5_bindingOf (fun _ => hQ)
abbrev kRl (k1 : Nat) (k : Nat) (j : Int) : Prop := (k = 185 ∧ j = 1) ∨ (k = k1 ∧ j = 4) ∨ k = k1 + 1 ∨ k = k1 + 2
theorem gX5_release_L0 {k1 : Nat} {p2 : Int} {M0 : Mem} {Q : Mem → Prop} {T : List Int × List (Int × Int)} (hk1 : isL k1) (hp : 1 ≤ p2) (hQ : ∀ M' : Mem, IX M' → Ks (kRl k1) M0 M' → RWt M' T.1 → ROl k1 M' T.2 → Q M') : ∀ (W : List Int) (O : List (Int × Int)) (n : Nat) (M : Mem), IX M → Ks (kRl k1) M0 M → RWt M W → ROl k1 M O → W.length + O.length ≤ 40 → rls p2 W O = T → W.length < n → qX5_release_L0 k1 p2 Q n M := by
  have ek1 : k1 = 187 ∨ k1 = 192 := hk1
  intro W
  induction W with
  | nil =>
    intro O n M hI hK hW hO hl hT hn
    cases n with
    | zero => exact absurd hn (by omega)
    | succ n =>
      rw [qX5_release_L0]
      intro x1 e1 _
      have l : (([] : List Int).length : Int) = 0 := rfl
      have := hW.1
      refine ⟨fun _ => ?_, fun c => by omega⟩
      subst hT
      exact hQ _ hI hK hW hO
  | cons c W ih =>
    intro O n M hI hK hW hO hl hT hn
    have l : ((c :: W).length : Int) = W.length + 1 := by show ((W.length + 1 : Nat) : Int) = _; omega
    have l2 : (c :: W).length = W.length + 1 := rfl
    cases n with
    | zero => exact absurd hn (by omega)
    | succ n =>
      have w1 := hW.1
      rw [qX5_release_L0]
      intro x1 e1 _
      refine ⟨fun q => by omega, fun _ => ?_⟩
      refine gX5_latestBinding hW (by omega) ?_
      intro _
      have hT' : (if bnd c < p2 then (c :: W, O) else rls p2 W ((c, 0) :: O)) = T := hT
      refine ⟨fun q => ?_, fun q => ?_⟩
      · have q' : bnd c < p2 := q
        rw [if_pos q'] at hT'
        subst hT'
        exact hQ _ hI hK hW hO
      · have q' : ¬ bnd c < p2 := q
        rw [if_neg q'] at hT'
        have bb := (bnd_b c).2.2 (by omega)
        intro x5 e5 _
        refine ⟨⟨by omega, by omega⟩, ?_⟩
        intro M7 h7 x8 e8 _
        have f8 : x8 = W.length := by rw [e8, h7, up2_s]; omega
        refine ⟨by omega, by omega, ?_⟩
        intro x11 e11 _
        have f11 : x11 = c := by
          rw [e11, h7, up2_n (by decide), f8]
          exact hW.2.1
        have i7 : IX M7 := by rw [h7]; exact hI.up (by decide) (bx_c185_1.mpr ⟨by omega, by omega⟩)
        rw [f11]
        refine gX2_add (O := O) i7 hk1 bb.1 (fun w => absurd w bb.2.1) (hO.fr (by rw [h7, up2_n (by omega)]) (by rw [h7, up2_n (by omega)]) (by rw [h7, up2_n (by omega)]) (by rw [h7, up2_n (by omega)])) (by omega) ?_
        intro M12 i12 k12 o12
        refine ih _ n M12 i12 ?_ ⟨?_, ?_⟩ o12 (by show W.length + (O.length + 1) ≤ 40; omega) hT' (by omega)
        · have k7 : Ks (kRl k1) M0 M7 := by rw [h7]; exact hK.wr (Or.inl ⟨rfl, rfl⟩)
          exact k7.tr (k12.mono (by intro k j h; omega))
        · rw [k12 185 1 (by omega), h7, up2_s]
          omega
        · rw [show M12 186 = M 186 from by rw [show M12 186 = M7 186 from funext fun j => k12 186 j (by omega), h7, up2_n (by decide)]]
          exact hW.2.2
theorem release_of {k1 : Nat} {p2 : Int} {M : Mem} {Q : Mem → Prop} (h : ∃ n, qX5_release_L0 k1 p2 Q n M) : qX5_release k1 p2 M Q := by
  obtain ⟨n, h⟩ := h
  cases n with
  | zero => rw [qX5_release_L0] at h; exact h.elim
  | succ n =>
    rw [qX5_release_L0] at h
    unfold qX5_release
    intro x1 e1 r1
    refine ⟨(h x1 e1 r1).1, fun c => ?_⟩
    refine fmX5_latestBinding ((h x1 e1 r1).2 c) ?_
    intro x3 M3 _ h3 r3
    refine ⟨(h3 r3).1, fun c2 => ?_⟩
    intro x5 e5 r5
    obtain ⟨a, h4⟩ := (h3 r3).2 c2 x5 e5 r5
    refine ⟨a, ?_⟩
    intro M7 e7 x8 e8 r8
    obtain ⟨a2, a3, h5⟩ := h4 M7 e7 x8 e8 r8
    refine ⟨a2, a3, ?_⟩
    intro x11 e11 r11
    exact fmX2_add (h5 x11 e11 r11) (fun M' _ h6 => ⟨n, h6⟩)
theorem gX5_release {k1 : Nat} {p2 : Int} {M : Mem} {W : List Int} {O : List (Int × Int)} {Q : Mem → Prop} (hI : IX M) (hk1 : isL k1) (hp : 1 ≤ p2) (hW : RWt M W) (hO : ROl k1 M O) (hl : W.length + O.length ≤ 40) (hQ : ∀ M' : Mem, IX M' → Ks (kRl k1) M M' → RWt M' (rls p2 W O).1 → ROl k1 M' (rls p2 W O).2 → Q M') : qX5_release k1 p2 M Q :=
  release_of ⟨W.length + 1, gX5_release_L0 hk1 hp hQ W O _ M hI Ks.rf hW hO hl rfl (by omega)⟩
theorem gX5_hold {p1 : Int} {M : Mem} {W : List Int} {Q : Mem → Prop} (hI : IX M) (hW : RWt M W) (hl : W.length < 40) (hQ : ∀ M' : Mem, IX M' → Ks (fun k j => (k = 185 ∧ j = 1) ∨ k = 186) M M' → RWt M' (p1 :: W) → Q M') : qX5_hold p1 M Q := by
  obtain ⟨h1, h2⟩ := hW
  unfold qX5_hold
  intro x1 e1 _
  refine ⟨fun c => by omega, fun c => ?_⟩
  intro x3 e3 _
  refine ⟨by omega, by omega, ?_⟩
  intro M6 h6 x7 e7 _
  have f7 : x7 = x3 := by rw [e7, h6, up2_n (by decide), e3]
  have hM6 : IX M6 := by rw [h6]; exact hI.up (by decide) (by simp [BX])
  refine ⟨⟨by omega, by omega⟩, ?_⟩
  intro M9 h9
  have k2 : M9 186 = M6 186 := by rw [h9, up2_n (by decide)]
  refine hQ _ (by rw [h9]; exact hM6.up (by decide) (bx_c185_1.mpr ⟨by omega, by omega⟩)) (by rw [h9, h6]; exact (Ks.rf.wr (Or.inr rfl)).wr (Or.inl ⟨rfl, rfl⟩)) ⟨?_, ?_, ?_⟩
  · show M9 185 1 = ((W.length + 1 : Nat) : Int)
    rw [h9, up2_s]
    omega
  · show M9 186 W.length = p1
    rw [k2, h6, show (W.length : Int) = x3 from by omega, up2_s]
  · rw [k2]
    exact h2.cg (fun j p q => by rw [h6, up2_j (by omega)])
/-- the class's state of reading -/
def REP (k : Nat) (M : Mem) (w dp : Int) (W : List Int) (O : List (Int × Int)) (a : Int) : Prop := M 185 3 = w ∧ M 185 2 = dp ∧ RWt M W ∧ ROl k M O ∧ M 156 2 = a
abbrev REPs (k : Nat) (M : Mem) (S : PSt) : Prop := REP k M S.1 S.2.1 S.2.2.1 S.2.2.2.1 S.2.2.2.2
abbrev kRw (k2 : Nat) (k : Nat) (j : Int) : Prop := (k = 156 ∧ j = 2) ∨ k = 185 ∨ k = 186 ∨ (k = k2 ∧ (j = 4 ∨ j = 5)) ∨ k = k2 + 1 ∨ k = k2 + 2
theorem gX5_takeThing {k2 : Nat} {M : Mem} {Q : Int → Mem → Prop} {f : Int → Int} {t dp a : Int} {W : List Int} {O : List (Int × Int)} (hI : IX M) (hk2 : isL k2) (hf : ∀ j, 0 ≤ j → j < t → M 157 j = f j) (ht : M 156 3 = t) (ha : 0 ≤ a ∧ a < t) (hl : W.length + O.length < 40) (hR : REP k2 M 1 dp W O a) (hN : ∀ M' : Mem, IX M' → Ks (kRw k2) M M' → M' 156 2 = a → pst f t (1, dp, W, O, a) = none → Q 0 M') (hY : ∀ (S1 : PSt) (M' : Mem), IX M' → Ks (kRw k2) M M' → pst f t (1, dp, W, O, a) = some S1 → REPs k2 M' S1 → Q 1 M') : qX5_takeThing k2 M Q := by
  have ek2 : k2 = 187 ∨ k2 = 192 := hk2
  obtain ⟨hw, hd, hW, hO, h2⟩ := hR
  have bd := bx_c185_2.mp (hI.bx 185 2)
  have bf : -1 ≤ f a ∧ f a ≤ 255 := by
    have := bx_c157.mp (hI.bx 157 a)
    rw [hf a ha.1 ha.2] at this
    omega
  -- behind a sign that was taken
  have J121 : ∀ (M1 : Mem) (w' dp' : Int) (W' : List Int) (O' : List (Int × Int)), IX M1 → Ks (kRw k2) M M1 → pst f t (1, dp, W, O, a) = some (w', dp', W', O', a + 1) → REP k2 M1 w' dp' W' O' a → qX5_takeThing_J121 k2 Q M1 := by
    intro M1 w' dp' W' O' i1 k1 hs r1
    unfold qX5_takeThing_J121
    refine gX9_pass i1 ?_
    intro M2 i2 k2' p2
    have e3 : M1 156 3 = t := by rw [k1 156 3 (by omega)]; exact ht
    obtain ⟨r3, r4, r5, r6, r7⟩ := r1
    refine hY _ M2 i2 (k1.tr (k2'.mono (by intro k j h; omega))) hs ⟨?_, ?_, ?_, ?_, ?_⟩
    · rw [k2' 185 3 (by omega)]; exact r3
    · rw [k2' 185 2 (by omega)]; exact r4
    · exact r5.fr (k2' 185 1 (by omega)) (funext fun j => k2' 186 j (by omega))
    · exact r6.fr (k2' _ _ (by omega)) (k2' _ _ (by omega)) (funext fun j => k2' _ j (by omega)) (funext fun j => k2' _ j (by omega))
    · show M2 156 2 = a + 1
      omega
  unfold qX5_takeThing
  refine gX9_number (p1 := 3) hI (by omega) ?_
  intro x1 M1 i1 k1 n1 _
  rw [h2, ht] at n1
  obtain ⟨z1, a1⟩ := nm3_q (f := f) n1 (fun j p q => hf j (by omega) q)
  have nb := (nm3_N f t a).b (by decide)
  have K1 : Ks (kRw k2) M M1 := k1.mono (by intro k j h; omega)
  have e3 : M1 156 3 = t := by rw [k1 156 3 (by omega)]; exact ht
  have W1 : RWt M1 W := hW.fr (k1 185 1 (by omega)) (funext fun j => k1 186 j (by omega))
  have O1 : ROl k2 M1 O := hO.fr (k1 _ _ (by omega)) (k1 _ _ (by omega)) (funext fun j => k1 _ j (by omega)) (funext fun j => k1 _ j (by omega))
  have d1 : M1 185 2 = dp := by rw [k1 185 2 (by omega)]; exact hd
  have w1 : M1 185 3 = 1 := by rw [k1 185 3 (by omega)]; exact hw
  refine ⟨fun c => ?_, fun c => ?_⟩
  · have zn : (nm3 f t a).1 < 0 := by omega
    have aa : M1 156 2 = a := by rw [a1]; exact nb.2.2.2.2.2.2.2 zn
    refine gX9_look i1 ?_
    intro x3 p3 _
    rw [aa, e3] at p3
    have f3 : x3 = f a := by
      rcases p3 with q | q
      · rw [q.2, k1 157 a (by omega)]; exact hf a ha.1 ha.2
      · omega
    have J83 : f a ≠ 45 → ¬ (f a = 40 ∧ dp < 4) → qX5_takeThing_J83 k2 Q x3 M1 := by
      intro n45 n40
      unfold qX5_takeThing_J83
      have b3 : 0 ≤ f a := by
        have := bx_c157.mp (hI.bx 157 a)
        rw [hf a ha.1 ha.2] at this
        omega
      refine ⟨⟨by omega, by omega⟩, ⟨fun _ => ⟨by omega, by omega, ?_⟩, fun q => by omega⟩⟩
      intro x10 e10 r10
      rw [f3] at e10
      have f10 := ixS_0 (f a)
      rw [← e10] at f10
      unfold qX5_takeThing_J101
      refine ⟨r10, ⟨fun q => ?_, fun q => ?_⟩⟩
      · refine gX2_addLetter (O := O) i1 hk2 (by omega) O1 (by omega) ?_
        intro M13 i13 k13 o13 M14 h14
        have i14 : IX M14 := by rw [h14]; exact i13.up (by decide) (by simp [BX])
        have hs := pst_4 (f := f) (t := t) (dp := dp) (a := a) (W := W) (O := O) zn n45 n40 (by omega)
        rw [← e10] at hs
        have K14 : Ks (kRw k2) M M14 := by rw [h14]; exact (K1.tr (k13.mono (by intro k j h; omega))).wr (by omega)
        refine J121 M14 _ _ _ _ i14 K14 hs ⟨by rw [h14, up2_s], ?_, ?_, ?_, ?_⟩
        · rw [h14, up2_j (by decide), k13 185 2 (by omega)]; exact d1
        · exact W1.fr (by rw [h14, up2_j (by decide), k13 185 1 (by omega)]) (by rw [h14, up2_n (by decide)]; exact funext fun j => k13 186 j (by omega))
        · exact o13.fr (by rw [h14, up2_n (by omega)]) (by rw [h14, up2_n (by omega)]) (by rw [h14, up2_n (by omega)]) (by rw [h14, up2_n (by omega)])
        · rw [h14, up2_n (by decide), k13 156 2 (by omega)]; exact aa
      · exact hN M1 i1 K1 aa (pst_5 zn n45 n40 (by omega))
    refine ⟨fun c3 => ⟨fun c4 => J83 (by omega) (by omega), fun c4 => ?_⟩, fun c3 => ?_⟩
    · intro x16 e16 _
      refine ⟨fun c5 => J83 (by omega) (by omega), fun c5 => ?_⟩
      intro x18 e18 _
      refine ⟨⟨by omega, by omega⟩, ?_⟩
      intro M20 h20
      have i20 : IX M20 := by rw [h20]; exact i1.up (by decide) (bx_c185_2.mpr ⟨by omega, by omega⟩)
      refine gX5_hold (W := W) i20 (W1.fr (by rw [h20, up2_j (by decide)]) (by rw [h20, up2_n (by decide)])) (by omega) ?_
      intro M21 i21 k21 w21
      have hs := pst_3 (f := f) (t := t) (dp := dp) (a := a) (W := W) (O := O) (by omega) (by omega)
      have K20 : Ks (kRw k2) M M20 := by rw [h20]; exact K1.wr (by omega)
      rw [c4] at w21
      refine J121 M21 _ _ _ _ i21 (K20.tr (k21.mono (by intro k j h; omega))) hs ⟨?_, ?_, w21, ?_, ?_⟩
      · rw [k21 185 3 (by omega), h20, up2_j (by decide)]; exact w1
      · rw [k21 185 2 (by omega), h20, up2_s]; omega
      · exact O1.fr (by rw [k21 _ _ (by omega), h20, up2_n (by omega)]) (by rw [k21 _ _ (by omega), h20, up2_n (by omega)]) (by rw [show M21 (k2 + 1) = M20 (k2 + 1) from funext fun j => k21 _ j (by omega), h20, up2_n (by omega)]) (by rw [show M21 (k2 + 2) = M20 (k2 + 2) from funext fun j => k21 _ j (by omega), h20, up2_n (by omega)])
      · rw [k21 156 2 (by omega), h20, up2_n (by decide)]; exact aa
    · refine gX5_hold (W := W) i1 W1 (by omega) ?_
      intro M22 i22 k22 w22
      have hs := pst_2 (f := f) (t := t) (dp := dp) (a := a) (W := W) (O := O) (by omega)
      refine J121 M22 _ _ _ _ i22 (K1.tr (k22.mono (by intro k j h; omega))) hs ⟨?_, ?_, w22, ?_, ?_⟩
      · rw [k22 185 3 (by omega)]; exact w1
      · rw [k22 185 2 (by omega)]; exact d1
      · exact O1.fr (k22 _ _ (by omega)) (k22 _ _ (by omega)) (funext fun j => k22 _ j (by omega)) (funext fun j => k22 _ j (by omega))
      · rw [k22 156 2 (by omega)]; exact aa
  · have zp : 0 ≤ (nm3 f t a).1 := by omega
    refine gX2_add (O := O) i1 hk2 (Or.inl ⟨rfl, by omega, by omega⟩) (fun w => absurd w (by decide)) O1 (by omega) ?_
    intro M23 i23 k23 o23 M24 h24
    have i24 : IX M24 := by rw [h24]; exact i23.up (by decide) (by simp [BX])
    have hs := pst_1 (f := f) (t := t) (dp := dp) (a := a) (W := W) (O := O) zp
    rw [z1] at o23
    refine hY _ M24 i24 (by rw [h24]; exact (K1.tr (k23.mono (by intro k j h; omega))).wr (by omega)) hs ⟨by rw [h24, up2_s], ?_, ?_, ?_, ?_⟩
    · rw [h24, up2_j (by decide), k23 185 2 (by omega)]; exact d1
    · exact W1.fr (by rw [h24, up2_j (by decide), k23 185 1 (by omega)]) (by rw [h24, up2_n (by decide)]; exact funext fun j => k23 186 j (by omega))
    · exact o23.fr (by rw [h24, up2_n (by omega)]) (by rw [h24, up2_n (by omega)]) (by rw [h24, up2_n (by omega)]) (by rw [h24, up2_n (by omega)])
    · rw [h24, up2_n (by decide), k23 156 2 (by omega)]; exact a1
