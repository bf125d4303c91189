/-! HEARSES: the state after -/
theorem arF_s {r : Int → Int} {i : Int} (h : 0 ≤ i) : arF r (i + 1).toNat = arF r i.toNat + (if r i < 0 then 1 else 0) := by
  rw [show (i + 1).toNat = i.toNat + 1 from by omega]
  show arF r i.toNat + (if r (i.toNat : Nat) < 0 then 1 else 0) = _
  rw [show ((i.toNat : Nat) : Int) = i from by omega]
theorem eE_g (E : Mem) (H : Int) : eG (up2 E 1 4 H) = eG E := by
  show up2 E 1 4 H 1 3 - 1 = E 1 3 - 1
  rw [up2_j (by decide)]
theorem eE_h (E : Mem) (H : Int) : eH (up2 E 1 4 H) = H.toNat := by
  show (up2 E 1 4 H 1 4).toNat = H.toNat
  rw [up2_s]
theorem WR.add1 {E : Mem} {r : Int → Int} {H v : Int} (hW : WR (up2 E 1 4 H) r) (hO : E 1 5 ≤ 8) (hH : 0 ≤ H ∧ H < 6) (hv : 0 ≤ v ∧ v < eG E) (hn : onF r H.toNat v < 0) : WR (up2 E 1 4 (H + 1)) (adH r H v) := by
  obtain ⟨a, b, c, d, e⟩ := hW
  have hi : ∀ j, 12 ≤ j → adH r H v j = r j := fun j q => by unfold adH; rw [up_j (by omega), up_j (by omega)]
  have lo : ∀ j, 0 ≤ j → j < H → adH r H v j = r j := fun j p q => by unfold adH; rw [up_j (by omega), up_j (by omega)]
  have me : adH r H v H = v := by unfold adH; rw [up_j (by omega), upS]
  have no := onF_n hn
  unfold WR DST
  rw [eE_g, eE_h, up2_s, up2_j (show (5 : Int) ≠ 4 by decide)]
  rw [eE_g] at b c
  rw [up2_s] at b
  rw [up2_s, up2_j (show (5 : Int) ≠ 4 by decide)] at c
  rw [eE_h] at d
  unfold DST at a
  rw [up2_s] at a
  refine ⟨fun i j i0 i1 j0 j1 q p => ?_, fun i i0 i1 => ?_, fun i i0 i1 => ?_, ?_, by rw [hi 37 (by decide)]; exact e⟩
  · by_cases ci : i = H
    · by_cases cj : j = H
      · omega
      · rw [ci, me, lo j j0 (by omega)] at q
        exact absurd q.symm (no j j0 (by omega))
    · by_cases cj : j = H
      · rw [cj, me, lo i i0 (by omega)] at q
        exact absurd q (no i i0 (by omega))
      · rw [lo i i0 (by omega), lo j j0 (by omega)] at q
        rw [lo i i0 (by omega)] at p
        exact a i j i0 (by omega) j0 (by omega) q p
  · by_cases ci : i = H
    · rw [ci, me]
      refine Or.inr ⟨hv.1, hv.2, ?_⟩
      unfold adH
      rw [upS]
    · have six : adH r H v (6 + i) = r (6 + i) := by unfold adH; rw [up_j (by omega), up_j (by omega)]
      rw [lo i i0 (by omega), six]
      exact b i i0 (by omega)
  · rw [hi (21 + i) (by omega), hi (13 + i) (by omega), hi (29 + i) (by omega)]
    have := c i i0 i1
    omega
  · rw [hi 12 (by decide), d, arF_s hH.1, me, if_neg (by omega), Int.add_zero]
    exact arF_cg (fun i i0 i1 => by rw [lo i i0 (by omega)])
theorem WR.rds {E : Mem} {f : Int → Int} {t : Int} (hO : E 1 5 ≤ 8) : ∀ (n : Nat) (H : Int) (r : Int → Int) (a : Int), WR (up2 E 1 4 H) r → (0 ≤ H ∧ H ≤ 6) → (0 ≤ a ∧ a ≤ t) → (rdH f t (eG E) n H r a).1 = 1 → WR (up2 E 1 4 (rdH f t (eG E) n H r a).2.2.1) (rdH f t (eG E) n H r a).2.2.2 := by
  intro n
  induction n with
  | zero => intro H r a hW hH ha h; exact absurd h (by show ¬ (0 : Int) = 1; decide)
  | succ n ih =>
    intro H r a hW hH ha h
    have b1 := rd1_b (f := f) (t := t) (g := eG E) (H := H) (r := r) ha
    unfold rdH at h ⊢
    by_cases c : (rd1 f t (eG E) H r a).1 < 0
    · rw [if_pos c] at h
      exact absurd h (by show ¬ (0 : Int) = 1; decide)
    · rw [if_neg c] at h ⊢
      have h6 := b1.2.2 (by omega)
      have w := hW.add1 hO ⟨hH.1, h6.1⟩ (v := (rd1 f t (eG E) H r a).1) ⟨by omega, h6.2.1⟩ h6.2.2
      by_cases c2 : (rd1 f t (eG E) H r a).2 < t ∧ f (rd1 f t (eG E) H r a).2 = 59
      · rw [if_pos c2] at h ⊢
        exact ih _ _ _ w (by omega) (by omega) h
      · rw [if_neg c2] at h ⊢
        exact w
theorem LAW.e4 {E M : Mem} {kl : Nat} {H : Int} (h : LAW E M kl) : LAW (up2 E 1 4 H) M kl := by
  unfold LAW
  rw [up2_j (show (24 : Int) ≠ 4 by decide), up2_n (show 11 ≠ 1 by decide)]
  exact h
theorem STR.e4 {E M : Mem} {H : Int} (h : STR E M) (hH : E 1 4 ≤ H ∧ H ≤ 6) : STR (up2 E 1 4 H) M := by
  obtain ⟨a1, a2, a3, a4, a5, a6, a7, a8, a9⟩ := h
  unfold STR
  rw [up2_s, up2_j (show (3 : Int) ≠ 4 by decide), up2_j (show (5 : Int) ≠ 4 by decide), up2_j (show (7 : Int) ≠ 4 by decide), up2_n (show 2 ≠ 1 by decide), up2_n (show 3 ≠ 1 by decide), up2_n (show 4 ≠ 1 by decide)]
  exact ⟨a1, a2, a3, a4, a5, a6, by omega, a8, fun m p q => by have := a9 m p q; omega⟩
theorem STA.hearses {E MX MM MX' MM' : Mem} {H' : Int} {r' : Int → Int} (h : STA E MX MM) (hE : EBx E) (hI : IX MX) (hH : E 1 4 < H' ∧ H' ≤ 6) (kx : Ks (fun k j => (1 ≤ k ∧ k ≤ 14) ∨ k = 156 ∨ (k = 163 ∧ j = 2)) MX MX') (x2 : MX' 163 2 = 0) (hC : SC (up2 E 1 4 H') MX' 1 r') (m5 : MM' 5 = r') (m28 : MM' 1 28 = 0) (m6 : MM' 1 6 = MM 1 6 + 1) (km : FrJ (fun k j => k = 5 ∨ k = 9 ∨ (k = 1 ∧ (j = 0 ∨ j = 4 ∨ j = 6 ∨ j = 14 ∨ j = 15 ∨ j = 16 ∨ j = 17 ∨ j = 20 ∨ j = 28))) MM MM') (hW : WR (up2 E 1 4 H') r') : STA (up2 E 1 4 H') MX' MM' := by
  obtain ⟨a, b, c, d, e, f⟩ := h
  refine ⟨(a.fr (kx _ _ (by omega)) (kx _ _ (by omega)) (kx _ _ (by omega)) (fun j => kx 159 j (by omega))).e4 (by omega), (b.kx hI (kx _ _ (by omega)) (fun k j q => kx k j (by omega))).e4, by rw [m5]; exact hC, by rw [m5]; exact hW, HIS.nil x2 m28, ?_⟩
  intro i p q
  obtain ⟨u, v⟩ := f i p q
  rw [kx 166 i (by omega), km 29 i (by omega), km 30 i (by omega), m6, kx (29 + 7 * i.toNat) 6 (by omega), kx (29 + 7 * i.toNat) 7 (by omega), up2_s, up2_j (show (5 : Int) ≠ 4 by decide)]
  refine ⟨u, fun w => ?_⟩
  obtain ⟨b1, b2, b3, b4⟩ := v w
  exact ⟨by omega, by omega, fun w2 => by omega, fun _ => Or.inl (by omega)⟩
