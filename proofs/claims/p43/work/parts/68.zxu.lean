/-! THE HEARSES PUT ON THE CELLS OF AN ORDER -/
def unF (r : Int → Int) : Nat → Int
  | 0 => 0
  | n + 1 => unF r n + (if r n < 0 then 0 else 1)
def plR (r c : Int → Int) : Nat → Int → Int
  | 0 => r
  | n + 1 => if r n < 0 then plR r c n else up (plR r c n) n (c (unF r n))
theorem unF_b (r : Int → Int) : ∀ n : Nat, 0 ≤ unF r n ∧ unF r n ≤ n := by
  intro n
  induction n with
  | zero => exact ⟨Int.le_refl 0, Int.le_refl 0⟩
  | succ n ih =>
    unfold unF
    split <;> omega
theorem unF_s {r : Int → Int} {i : Int} (h : 0 ≤ i) : unF r (i + 1).toNat = unF r i.toNat + (if r i < 0 then 0 else 1) := by
  rw [show (i + 1).toNat = i.toNat + 1 from by omega]
  show unF r i.toNat + (if r (i.toNat : Nat) < 0 then 0 else 1) = _
  rw [show ((i.toNat : Nat) : Int) = i from by omega]
theorem plR_s {r c : Int → Int} {i : Int} (h : 0 ≤ i) : plR r c (i + 1).toNat = if r i < 0 then plR r c i.toNat else up (plR r c i.toNat) i (c (unF r i.toNat)) := by
  rw [show (i + 1).toNat = i.toNat + 1 from by omega]
  show (if r (i.toNat : Nat) < 0 then plR r c i.toNat else up (plR r c i.toNat) (i.toNat : Nat) (c (unF r i.toNat))) = _
  rw [show ((i.toNat : Nat) : Int) = i from by omega]
theorem plR_o {r c : Int → Int} : ∀ (n : Nat) (j : Int), (j < 0 ∨ (n : Int) ≤ j) → plR r c n j = r j := by
  intro n
  induction n with
  | zero => intro j _; rfl
  | succ n ih =>
    intro j hj
    unfold plR
    split
    · exact ih j (by omega)
    · rw [up_j (by omega)]; exact ih j (by omega)
theorem plR_i {r c : Int → Int} : ∀ (n : Nat) (j : Int), (0 ≤ j ∧ j < n) → plR r c n j = if r j < 0 then r j else c (unF r j.toNat) := by
  intro n
  induction n with
  | zero => intro j hj; omega
  | succ n ih =>
    intro j hj
    unfold plR
    by_cases e : j = n
    · by_cases c1 : r n < 0
      · rw [if_pos c1, if_pos (by rw [e]; exact c1)]
        exact plR_o n j (by omega)
      · rw [if_neg c1, if_neg (by rw [e]; exact c1), e, upS, show ((n : Int)).toNat = n from by omega]
    · by_cases c1 : r n < 0
      · rw [if_pos c1]; exact ih j (by omega)
      · rw [if_neg c1, up_j e]; exact ih j (by omega)
/-- the un-arrived hearses, counted, and the place of each among them -/
theorem unF_lt {r : Int → Int} {i j : Int} (h0 : 0 ≤ i) (hij : i < j) (hr : 0 ≤ r i) : unF r i.toNat < unF r j.toNat := by
  have : ∀ d : Nat, unF r i.toNat < unF r (i + 1 + d).toNat := by
    intro d
    induction d with
    | zero =>
      rw [show i + 1 + ((0 : Nat) : Int) = i + 1 from by omega, unF_s h0, if_neg (by omega)]
      omega
    | succ d ih =>
      rw [show i + 1 + ((d + 1 : Nat) : Int) = i + 1 + d + 1 from by omega, unF_s (by omega)]
      split <;> omega
  have e := this (j - i - 1).toNat
  rw [show i + 1 + (((j - i - 1).toNat : Nat) : Int) = j from by omega] at e
  exact e
theorem unF_inj {r : Int → Int} {i j : Int} (hi : 0 ≤ i) (hj : 0 ≤ j) (ri : 0 ≤ r i) (rj : 0 ≤ r j) (h : unF r i.toNat = unF r j.toNat) : i = j := by
  rcases Int.lt_trichotomy i j with p | p | p
  · have := unF_lt hi p ri; omega
  · exact p
  · have := unF_lt hj p rj; omega
/-- which hearse is the a-th that has not arrived -/
theorem unF_sur {r : Int → Int} : ∀ (n : Nat) (a : Int), 0 ≤ a → a < unF r n → ∃ i : Int, (0 ≤ i ∧ i < n) ∧ 0 ≤ r i ∧ unF r i.toNat = a := by
  intro n
  induction n with
  | zero =>
    intro a p q
    exact absurd q (by show ¬ a < 0; omega)
  | succ n ih =>
    intro a p q
    unfold unF at q
    split at q
    · obtain ⟨i, h1, h2⟩ := ih a p (by omega)
      exact ⟨i, by omega, h2⟩
    · rename_i c
      by_cases e : a < unF r n
      · obtain ⟨i, h1, h2⟩ := ih a p e
        exact ⟨i, by omega, h2⟩
      · exact ⟨n, by omega, by omega, by rw [show ((n : Int)).toNat = n from by omega]; omega⟩
theorem nB_un {r : Int → Int} {v : Int} : ∀ n : Nat, (∀ h : Int, 0 ≤ h → h < n → r h < v) → nB r n v = unF r n := by
  intro n
  induction n with
  | zero => intro _; rfl
  | succ n ih =>
    intro h
    have a := h n (by omega) (by omega)
    unfold nB unF
    rw [ih (fun i p q => h i p (by omega))]
    by_cases c : r n < 0
    · rw [if_pos c, if_neg (by omega)]
    · rw [if_neg c, if_pos (by omega)]
theorem plR_W {E : Mem} {r c : Int → Int} (hE : EBx E) (hW : WR E r) (hc : INJ c (unF r (eH E))) (hb : ∀ a, 0 ≤ a → a < unF r (eH E) → 0 ≤ c a ∧ c a < eG E) : WR E (plR r c (eH E)) := by
  obtain ⟨w1, w2, w3, w4, w5⟩ := hW
  have ef := hE.f
  have g := hE.2
  have idx : ∀ i, 0 ≤ i → i < E 1 4 → 0 ≤ r i → 0 ≤ unF r i.toNat ∧ unF r i.toNat < unF r (eH E) := fun i p q t => by
    have a := unF_lt p q t
    have b := unF_b r i.toNat
    rw [show (E 1 4).toNat = eH E from rfl] at a
    omega
  refine ⟨fun i j i0 i1 j0 j1 e0 e1 => ?_, fun h h0 h1 => ?_, fun m m0 m1 => ?_, ?_, ?_⟩
  · rw [plR_i _ i (by omega)] at e0 e1
    rw [plR_i _ j (by omega)] at e0
    by_cases ci : r i < 0
    · rw [if_pos ci] at e1; omega
    · rw [if_neg ci] at e0
      by_cases cj : r j < 0
      · rw [if_pos cj] at e0
        rw [if_neg ci] at e1
        omega
      · rw [if_neg cj] at e0
        have a := idx i i0 i1 (by omega)
        have b := idx j j0 j1 (by omega)
        exact unF_inj i0 j0 (by omega) (by omega) (hc _ _ a.1 a.2 b.1 b.2 e0)
  · rw [plR_i _ h (by omega), plR_o _ (6 + h) (by omega)]
    have a := w2 h h0 h1
    by_cases ci : r h < 0
    · rw [if_pos ci]; omega
    · rw [if_neg ci]
      have b := idx h h0 h1 (by omega)
      have := hb _ b.1 b.2
      omega
  · rw [plR_o _ (21 + m) (by omega), plR_o _ (13 + m) (by omega), plR_o _ (29 + m) (by omega)]
    exact w3 m m0 m1
  · rw [plR_o _ 12 (by omega), w4]
    refine arF_cg (fun i p q => ?_)
    rw [plR_i _ i (by omega)]
    by_cases ci : r i < 0
    · rw [if_pos ci]
    · rw [if_neg ci]
      have b := idx i p (by omega) (by omega)
      have := hb _ b.1 b.2
      omega
  · rw [plR_o _ 37 (by omega)]; exact w5
theorem gX6_placeHearses {E M : Mem} {k0 : Nat} {r : Int → Int} {Q : Mem → Prop} (hI : IX M) (hE : EBx E) (hk0 : isS k0) (hk : k0 + 1 ≠ 180) (hW : WR E r) (hC : SC E M k0 r)
    (hQ : ∀ M' : Mem, IX M' → (∀ k, k ≠ k0 + 1 → M' k = M k) → SC E M' k0 (plR r (M 180) (eH E)) → Q M') : qX6_placeHearses k0 180 M Q := by
  have ef := hE.f
  have g := hE.2
  have lp : ∀ (n : Nat) (h : Int) (M' : Mem), IX M' → E 1 4 - h < (n : Int) → (0 ≤ h ∧ h ≤ E 1 4) → (∀ k, k ≠ k0 + 1 → M' k = M k) → SC E M' k0 (plR r (M 180) h.toNat) → qX6_placeHearses_L4 k0 180 Q n (unF r h.toNat) h M' := by
    intro n
    induction n with
    | zero => intro h M' hI' hm hv; exact absurd hm (by omega)
    | succ n ih =>
      intro h M' hI' hm hv hf hC'
      rw [qX6_placeHearses_L4]
      have ub := unF_b r h.toNat
      intro x1 e1 _
      have e1' : x1 = E 1 4 := by rw [e1]; exact hC'.1
      refine ⟨⟨by omega, by omega⟩, fun c => ?_, fun c => ?_⟩
      · have : h = E 1 4 := by omega
        exact hQ M' hI' hf (by rw [this] at hC'; exact hC')
      · have w := hW.2.1 h hv.1 (by omega)
        have a6 : M' (k0 + 2) h = r (6 + h) := by
          rw [hC'.2.2.2.1 h hv.1 (by omega)]
          exact plR_o _ _ (by omega)
        refine gX6_hasArrived (by omega) (fun z hz _ _ => ⟨fun c4 => ?_, fun c4 => ?_⟩)
        · have c0 : r h < 0 := by omega
          have e := ih (h + 1) M' hI' (by omega) (by omega) hf (by rw [plR_s hv.1, if_pos c0]; exact hC')
          rw [unF_s hv.1, if_pos c0] at e
          rw [show unF r h.toNat + 0 = unF r h.toNat from by omega] at e
          exact e
        · have c0 : ¬ r h < 0 := by omega
          refine ⟨ub.1, by omega, fun x8 e8 _ => ⟨hv.1, by omega, fun M11 e11 => ?_⟩⟩
          have b8 : 0 ≤ x8 ∧ x8 ≤ 29 := by rw [e8]; exact (bx_c180).mp (hI'.bx _ _)
          have i11 : IX M11 := by rw [e11]; exact hI'.up (isS.nsp hk0 1 (by decide)) ((bx_s1 hk0).mpr ⟨by omega, by omega⟩)
          have e := ih (h + 1) M11 i11 (by omega) (by omega) (fun k p => by rw [e11, up2_n p]; exact hf k p) (by
            rw [plR_s hv.1, if_neg c0, e11, e8, hf 180 (fun q => hk q.symm)]
            exact hC'.cell (by omega))
          rw [unF_s hv.1, if_neg c0] at e
          exact e
  unfold qX6_placeHearses
  exact ⟨8, lp 8 0 M hI (by omega) (by omega) (fun _ _ => rfl) hC⟩
