/-! THE ARRANGEMENTS BY HEARSES, AS THE REFERENCE MAKES THEM -/
def wR (E : Mem) (r w : Int → Int) : Int → Int := fun j => if 0 ≤ j ∧ j < E 1 4 then w j else r j
/-- w puts every hearse that has not arrived on the cell of one of them, each on another -/
def VAL (E : Mem) (r w : Int → Int) : Prop := (∀ h, 0 ≤ h → h < E 1 4 → r h < 0 → w h = -1) ∧ (∀ h, 0 ≤ h → h < E 1 4 → 0 ≤ r h → ∃ i, (0 ≤ i ∧ i < E 1 4) ∧ 0 ≤ r i ∧ w h = r i) ∧ ∀ h i, 0 ≤ h → h < E 1 4 → 0 ≤ i → i < E 1 4 → 0 ≤ r h → 0 ≤ r i → w h = w i → h = i
noncomputable def VH (E : Mem) (r w : Int → Int) : Int := bcF (rgE E (wR E r w))
def oxF (r : Int → Int) : Nat → Int → Int
  | 0, _ => -1
  | n + 1, a => if 0 ≤ r n ∧ unF r n = a then n else oxF r n a
theorem oxF_u {r : Int → Int} : ∀ (n : Nat) (h : Int), (0 ≤ h ∧ h < n) → 0 ≤ r h → oxF r n (unF r h.toNat) = h := by
  intro n
  induction n with
  | zero => intro h hh _; omega
  | succ n ih =>
    intro h hh hr
    unfold oxF
    by_cases e : h = n
    · rw [e, if_pos ⟨by rw [← e]; exact hr, by rw [show ((n : Int)).toNat = n from by omega]⟩]
    · rw [if_neg (fun c => e (unF_inj hh.1 (by omega) hr c.1 (by rw [show ((n : Int)).toNat = n from by omega]; exact c.2.symm)))]
      exact ih h (by omega) hr
theorem VAL.of {E : Mem} {r q : Int → Int} (hE : EBx E) (hW : WR E r) (h : ASG E r q) : ∃ w, VAL E r w ∧ VH E r w = VO E r q := by
  have ef := hE.f
  have idx : ∀ i, 0 ≤ i → i < E 1 4 → 0 ≤ r i → 0 ≤ unF r i.toNat ∧ unF r i.toNat < unF r (eH E) := fun i p t u => ⟨(unF_b r i.toNat).1, unF_lt p t u⟩
  refine ⟨fun j => if r j < 0 then -1 else q (unF r j.toNat), ⟨fun j _ _ c => if_pos c, fun j p t c => ?_, fun j i p t p2 t2 c c2 e => ?_⟩, ?_⟩
  · have a := idx j p t c
    obtain ⟨i, hi, ri, ei⟩ := h.2 _ a.1 a.2
    exact ⟨i, hi, ri, by show (if r j < 0 then -1 else q (unF r j.toNat)) = r i; rw [if_neg (by omega)]; exact ei⟩
  · have e' : (if r j < 0 then -1 else q (unF r j.toNat)) = (if r i < 0 then -1 else q (unF r i.toNat)) := e
    rw [if_neg (by omega), if_neg (by omega)] at e'
    have a := idx j p t c
    have b := idx i p2 t2 c2
    exact unF_inj p p2 c c2 (h.1 _ _ a.1 a.2 b.1 b.2 e')
  · unfold VH VO
    rw [show wR E r (fun j => if r j < 0 then -1 else q (unF r j.toNat)) = plR r q (eH E) from funext fun j => by
      unfold wR
      by_cases c : 0 ≤ j ∧ j < E 1 4
      · rw [if_pos c, plR_i _ j (by omega)]
        have w := hW.2.1 j c.1 c.2
        show (if r j < 0 then -1 else q (unF r j.toNat)) = _
        by_cases d : r j < 0
        · rw [if_pos d, if_pos d]; omega
        · rw [if_neg d, if_neg d]
      · rw [if_neg c, plR_o _ j (by omega)]]
theorem ASG.of {E : Mem} {r w : Int → Int} (hE : EBx E) (hW : WR E r) (h : VAL E r w) : ∃ q, ASG E r q ∧ VO E r q = VH E r w := by
  have ef := hE.f
  have sur : ∀ a, 0 ≤ a → a < unF r (eH E) → ∃ i, (0 ≤ i ∧ i < E 1 4) ∧ 0 ≤ r i ∧ unF r i.toNat = a := fun a p t => by
    obtain ⟨i, hi, g⟩ := unF_sur (eH E) a p t
    exact ⟨i, by omega, g⟩
  have ix : ∀ i, 0 ≤ i → i < E 1 4 → 0 ≤ r i → oxF r (eH E) (unF r i.toNat) = i := fun i p t c => oxF_u _ i (by omega) c
  refine ⟨fun a => w (oxF r (eH E) a), ⟨fun a b a0 a1 b0 b1 e => ?_, fun a a0 a1 => ?_⟩, ?_⟩
  · obtain ⟨i, hi, ri, ei⟩ := sur a a0 a1
    obtain ⟨j, hj, rj, ej⟩ := sur b b0 b1
    have e' : w (oxF r (eH E) a) = w (oxF r (eH E) b) := e
    rw [← ei, ← ej, ix i hi.1 hi.2 ri, ix j hj.1 hj.2 rj] at e'
    have := h.2.2 i j hi.1 hi.2 hj.1 hj.2 ri rj e'
    rw [← ei, ← ej, this]
  · obtain ⟨i, hi, ri, ei⟩ := sur a a0 a1
    obtain ⟨k, hk, rk, ek⟩ := h.2.1 i hi.1 hi.2 ri
    exact ⟨k, hk, rk, by show w (oxF r (eH E) a) = r k; rw [← ei, ix i hi.1 hi.2 ri]; exact ek⟩
  · unfold VH VO
    rw [show wR E r w = plR r (fun a => w (oxF r (eH E) a)) (eH E) from funext fun j => by
      unfold wR
      by_cases c : 0 ≤ j ∧ j < E 1 4
      · rw [if_pos c, plR_i _ j (by omega)]
        have g := hW.2.1 j c.1 c.2
        by_cases d : r j < 0
        · rw [if_pos d, h.1 j c.1 c.2 d]; omega
        · rw [if_neg d, ix j c.1 c.2 (by omega)]
      · rw [if_neg c, plR_o _ j (by omega)]]
/-- the best of all arrangements by hearses is the answer -/
theorem ODA.of {E : Mem} {r : Int → Int} {z : Int} (hE : EBx E) (hW : WR E r) (h1 : ∀ w, VAL E r w → VH E r w ≤ z) (h2 : ∃ w, VAL E r w ∧ VH E r w = z) : ODA E r z := by
  refine ⟨fun q hq => ?_, ?_⟩
  · obtain ⟨w, a, b⟩ := VAL.of hE hW hq
    have := h1 w a
    omega
  · obtain ⟨w, a, b⟩ := h2
    obtain ⟨q, c, d⟩ := ASG.of hE hW a
    exact ⟨q, c, by omega⟩
/-- there is one: each stays where it is -/
theorem VAL.id {E : Mem} {r : Int → Int} (hW : WR E r) : VAL E r r :=
  ⟨fun h p t c => by have := hW.2.1 h p t; omega, fun h p t c => ⟨h, ⟨p, t⟩, c, rfl⟩, fun h i p t p2 t2 c _ e => hW.1 h i p t p2 t2 e c⟩
