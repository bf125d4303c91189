/-! THE END: who lies where, behind two hundred steps -/
theorem ln_x {E : Mem} {r : Int → Int} (hE : EBx E) : VL (eG E) r (lnL r (eH E) (eG E).toNat) ∧ ∀ x, x ∈ lnL r (eH E) (eG E).toNat → x < E 1 4 := by
  have f := hE.f
  have g := hE.2
  have g1 := hE.1
  exact ⟨lnL_VL (by omega) _ (by omega), fun x hx => by have := lnL_mem _ x hx; omega⟩
def fol (E : Mem) (r : Int → Int) : Prop := ∀ m, 0 ≤ m → m < E 1 5 → r (29 + m) < 0 → r (21 + m) < 0 ∨ 0 ≤ r (r (21 + m))
theorem msF_lo {E : Mem} {r : Int → Int} : ∀ (n : Nat) (j : Int), j < 13 → msF E n r j = r j := by
  intro n
  induction n with
  | zero => intro j _; rfl
  | succ n ih =>
    intro j hj
    show (if 0 ≤ msF E n r (29 + n) then msF E n r else mmF E (msF E n r) n) j = _
    split
    · exact ih j hj
    · rw [mmF_o (by omega)]
      exact ih j hj
theorem msF_hi {E : Mem} {r : Int → Int} {m : Int} : ∀ n : Nat, n ≤ 8 → (n : Int) ≤ m → m < 8 → msF E n r (13 + m) = r (13 + m) ∧ msF E n r (21 + m) = r (21 + m) ∧ msF E n r (29 + m) = r (29 + m) := by
  intro n
  induction n with
  | zero => intro _ _ _; exact ⟨rfl, rfl, rfl⟩
  | succ n ih =>
    intro h8 h hm
    obtain ⟨i1, i2, i3⟩ := ih (by omega) (by omega) hm
    have e : ∀ j, j ≠ 13 + (n : Int) ∧ j ≠ 21 + (n : Int) ∧ j ≠ 29 + (n : Int) → msF E (n + 1) r j = msF E n r j := by
      intro j hj
      show (if 0 ≤ msF E n r (29 + n) then msF E n r else mmF E (msF E n r) n) j = _
      split
      · rfl
      · exact mmF_o hj
    exact ⟨by rw [e _ (by omega), i1], by rw [e _ (by omega), i2], by rw [e _ (by omega), i3]⟩
theorem hs_hi {E : Mem} {r : Int → Int} (hE : EBx E) {j : Int} (hj : 13 ≤ j) : hsF E (lnL r (eH E) (eG E).toNat) r j = r j := hsF_j hj _ _ (ln_x hE).1.i
/-- what one mourner does in a step, over the row behind the hearses -/
theorem st_m {E : Mem} {r : Int → Int} {m : Int} (hE : EBx E) (hm : 0 ≤ m ∧ m < E 1 5) : ∃ A : Int → Int, (∀ j, j < 13 → A j = stF E r j) ∧ A (13 + m) = r (13 + m) ∧ A (21 + m) = r (21 + m) ∧ A (29 + m) = r (29 + m) ∧ stF E r (13 + m) = (if 0 ≤ A (29 + m) then A else mmF E A m) (13 + m) ∧ stF E r (21 + m) = (if 0 ≤ A (29 + m) then A else mmF E A m) (21 + m) ∧ stF E r (29 + m) = (if 0 ≤ A (29 + m) then A else mmF E A m) (29 + m) := by
  have f := hE.f
  have g := hE.2
  have ek := msF_k (E := E) (r := hsF E (lnL r (eH E) (eG E).toNat) r) (m := m) (eO E) (by omega)
  have e8 := msF_hi (E := E) (r := hsF E (lnL r (eH E) (eG E).toNat) r) (m := m) m.toNat (by omega) (by omega) (by omega)
  have es := msF_s (E := E) (r := hsF E (lnL r (eH E) (eG E).toNat) r) (i := m) hm.1
  refine ⟨msF E m.toNat (hsF E (lnL r (eH E) (eG E).toNat) r), fun j hj => ?_, ?_, ?_, ?_, ?_⟩
  · unfold stF
    rw [up_j (by omega), msF_lo _ j hj, msF_lo _ j hj]
  · rw [e8.1, hs_hi hE (by omega)]
  · rw [e8.2.1, hs_hi hE (by omega)]
  · rw [e8.2.2, hs_hi hE (by omega)]
  · rcases ek with q | q | q
    · rw [← es]
      unfold stF
      rw [up_j (by omega), up_j (by omega), up_j (by omega)]
      exact q
    · omega
    · omega
theorem mmF_fol {E : Mem} {A : Int → Int} {m : Int} (hm : 0 ≤ m) (h6 : E 1 4 ≤ 6 ∧ 0 ≤ E 1 4) (hb : A (21 + m) < E 1 4) (h : mmF E A m (29 + m) < 0) : mmF E A m (21 + m) < 0 ∨ 0 ≤ A (mmF E A m (21 + m)) := by
  unfold mmF at h ⊢
  by_cases c1 : 0 ≤ A (21 + m) ∧ A (A (21 + m)) < 0
  · rw [if_pos c1, upS] at h
    omega
  · rw [if_neg c1] at h ⊢
    by_cases c2 : chF E A m
    · rw [if_pos c2] at h ⊢
      rw [up_j (by omega), upS]
      have nb := nearF_b A (A (13 + m)) (eH E)
      have c2' : 0 ≤ nearF A (A (13 + m)) (eH E) := c2.1
      exact Or.inr (nb.2.2 c2')
    · rw [if_neg c2] at h ⊢
      by_cases c3 : A (21 + m) < 0
      · rw [if_pos c3]
        exact Or.inl c3
      · rw [if_neg c3, up_j (by omega)]
        exact Or.inr (by
          rcases Int.lt_or_le (A (A (21 + m))) 0 with w | w
          · exact absurd ⟨by omega, w⟩ c1
          · exact w)
theorem mmF_f6 {E : Mem} {A : Int → Int} {m : Int} (h6 : E 1 4 ≤ 6 ∧ 0 ≤ E 1 4) (hm : 0 ≤ m) (hb : A (21 + m) < E 1 4) : mmF E A m (21 + m) < 6 := by
  unfold mmF
  split
  · rw [up_j (by omega)]; omega
  · split
    · rw [up_j (by omega), upS]
      have nb := nearF_b A (A (13 + m)) (eH E)
      have : ((eH E : Nat) : Int) = E 1 4 := by show (((E 1 4).toNat : Nat) : Int) = _; omega
      omega
    · split
      · omega
      · rw [up_j (by omega)]; omega
theorem fol_st {E : Mem} {r : Int → Int} (hE : EBx E) (hW : WR E r) : fol E (stF E r) := by
  have f := hE.f
  have g := hE.2
  intro m h0 h1 he
  have w := hW.2.2.1 m h0 h1
  obtain ⟨A, lo, a1, a2, a3, e1, e2, e3⟩ := st_m (r := r) hE ⟨h0, h1⟩
  by_cases c : 0 ≤ A (29 + m)
  · rw [if_pos c] at e3
    omega
  · rw [if_neg c] at e1 e2 e3
    rw [e3] at he
    have b : A (21 + m) < E 1 4 := by rw [a2]; omega
    have q := mmF_fol h0 (by omega) b he
    have k := mmF_f6 (by omega) h0 b
    rw [e2]
    rcases q with q | q
    · exact Or.inl q
    · exact Or.inr (by rw [← lo _ (by omega)]; exact q)
