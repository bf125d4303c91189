/-! WHAT order ANSWERS; THE CLASS ANSWERS IT -/
theorem gX11_order_L120 {z s : Int} {Q : Int → Mem → Prop} (hz : -1 ≤ z ∧ z ≤ 63) (hQ : ∀ M' : Mem, IX M' → M' 179 2 = s → Q z M') : ∀ (n : Nat) (v3 : Int) (M : Mem), IX M → M 179 2 = s → (0 ≤ v3 ∧ v3 ≤ 6) → 6 - v3 < (n : Int) → qX11_order_L120 Q n z v3 M := by
  intro n
  induction n with
  | zero => intro v3 M hI h2 hv hm; exact absurd hm (by omega)
  | succ n ih =>
    intro v3 M hI h2 hv hm
    rw [qX11_order_L120]
    intro x19 e19 _
    have b : 0 ≤ x19 ∧ x19 ≤ 6 := by rw [e19]; exact (bx_c179_2).mp (hI.bx _ _)
    refine ⟨⟨by omega, by omega⟩, fun c => ⟨⟨by omega, by omega⟩, hQ M hI h2⟩, fun c => ⟨by omega, by omega, fun x25 _ r25 => ?_⟩⟩
    exact fmX4_add (sX4_add (p1 := x25) hI (Q := fun M' => IX M') (fun M' i' => i')) (fun M' k' i' => ih _ _ i' (by rw [k' 179 2 (by omega)]; exact h2) (by omega) (by omega))
/-- the un-arrived hearses stand on each other's cells -/
def ASG (E : Mem) (r q : Int → Int) : Prop := INJ q (unF r (eH E)) ∧ ∀ a, 0 ≤ a → a < unF r (eH E) → ∃ h, (0 ≤ h ∧ h < E 1 4) ∧ 0 ≤ r h ∧ q a = r h
def ODA (E : Mem) (r : Int → Int) (z : Int) : Prop := (∀ q, ASG E r q → VO E r q ≤ z) ∧ ∃ q, ASG E r q ∧ VO E r q = z
theorem ODA.uq {E : Mem} {r : Int → Int} {z w : Int} (h : ODA E r z) (h2 : ODA E r w) : z = w := by
  obtain ⟨q, a, c⟩ := h.2
  obtain ⟨q2, a2, c2⟩ := h2.2
  have x := h.1 q2 a2
  have y := h2.1 q a
  omega
theorem gX11_order {E M : Mem} {l : Nat} {r : Int → Int} {Q : Int → Mem → Prop} (h : TB E M l) (hC : SC E M 1 r) (hW : WR E r) (hf : fol E r) (h37 : r 37 ≤ 1999999000) (hQ : ∀ (z : Int) (M' : Mem), IX M' → ODA E r z → M' 179 2 = unF r (eH E) → Q z M') : qX11_order M Q := by
  have hE := h.2.2.2.1.eb
  have ef := hE.f
  have g := hE.2
  have g3 := hE.1
  have lt : ∀ i, 0 ≤ i → i < E 1 4 → r i < E 1 3 := fun i p q => by
    have := hW.2.1 i p q
    omega
  unfold qX11_order
  refine gX3_begin h.1 h.2.2.2.1 hC hW.1 lt (fun M1 i1 f1 _ hO => ?_)
  have lo : ∀ k, k < 179 ∨ 182 ≤ k → M1 k = M k := fun k hk => f1 k (by omega) (by omega)
  have es : M1 179 2 = unF r (eH E) := by rw [hO.1]; exact nB_un _ (fun i p q => lt i p (by omega))
  have ub := unF_b r (eH E)
  obtain ⟨o1, o2, o3, o4⟩ := hO
  have inj : INJ (M1 180) (M1 179 2) := fun i j a b c d e => by
    rcases Int.lt_trichotomy i j with p | p | p
    · have := o2 i j a p d; omega
    · exact p
    · have := o2 j i c p b; omega
  have sub : SUB (M1 180) (M1 180) (M1 179 2) := fun k p q => ⟨k, p, q, rfl⟩
  refine ⟨721, gX11_order_L21 (c0 := M1 180) (s := M1 179 2) (l := l) hE hW hf h37 es (fun a p q => ?_) (fun z M' h' hz hs' => ?_) 721 (-1) 1 0 M1 (h.fr i1 lo) (hC.low lo) rfl ?_ (by omega)⟩
  · obtain ⟨b, i, hi, ei⟩ := o3 a p q
    have w := hW.2.1 i hi.1 hi.2
    omega
  · have od : ODA E r z := by
      refine ⟨fun q hq => hz.1 q hq.1 (fun k p t => ?_), ?_⟩
      · obtain ⟨i, hi, ri, ei⟩ := hq.2 k p t
        obtain ⟨a, ha, ea⟩ := o4 i hi.1 hi.2 ri (lt i hi.1 hi.2)
        exact ⟨a, ha.1, by omega, by rw [ei, ea]⟩
      · obtain ⟨q, q1, q2, q3⟩ := hz.2
        refine ⟨q, ⟨q1, fun a p t => ?_⟩, q3⟩
        obtain ⟨m, m0, m1, em⟩ := q2 a p t
        obtain ⟨b, i, hi, ei⟩ := o3 m m0 (by omega)
        exact ⟨i, hi, by omega, by rw [em, ei]⟩
    obtain ⟨q, _, _, qz⟩ := hz.2
    have vb := VO_b (E := E) (r := r) (q := q) hE
    unfold qX11_order_J111
    exact fmX4_clear (sX4_clear h'.1 (Q := fun M' => IX M') (fun _ i => i)) (fun M2 k2 i2 => ⟨7, gX11_order_L120 (s := M1 179 2) (by omega) (fun M3 i3 s3 => hQ z M3 i3 od (by rw [s3, es])) 7 0 M2 i2 (by rw [k2 179 2 (by omega)]; exact hs') (by omega) (by omega)⟩)
  · refine ⟨inj, ⟨sub, sub⟩, by omega, by omega, Or.inl ⟨rfl, rfl, rfl⟩, Or.inr ⟨rfl, ?_, fun q q1 q2 => ?_⟩⟩
    · exact (rk_b _ (Nat.le_refl _)).1
    · rcases nx_least (c := M1 180) (q := q) (n := M1 179 2) (by omega) o2 q1 q2 with a | a
      · exact Or.inl a
      · exact Or.inr (Or.inl a)
