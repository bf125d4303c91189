/-! THE END: who lies where, behind two hundred steps -/
theorem up_ov (f : Int → Int) (j v w : Int) : up (up f j v) j w = up f j w := by
  funext i
  by_cases c : i = j
  · rw [c, upS, upS]
  · rw [up_j c, up_j c, up_j c]
theorem WR.u37 {E : Mem} {r : Int → Int} {w : Int} (hE : EBx E) (hW : WR E r) (h : 0 ≤ w) : WR E (up r 37 w) := by
  have f := hE.f
  have g := hE.2
  have lo : ∀ j, j < 37 → up r 37 w j = r j := fun j hj => up_j (by omega)
  refine ⟨fun i j i0 i1 j0 j1 q p => ?_, fun i i0 i1 => ?_, fun i i0 i1 => ?_, ?_, by rw [upS]; exact h⟩
  · rw [lo i (by omega), lo j (by omega)] at q
    rw [lo i (by omega)] at p
    exact hW.1 i j i0 i1 j0 j1 q p
  · rw [lo i (by omega), lo (6 + i) (by omega)]
    exact hW.2.1 i i0 i1
  · rw [lo (21 + i) (by omega), lo (13 + i) (by omega), lo (29 + i) (by omega)]
    exact hW.2.2.1 i i0 i1
  · rw [lo 12 (by omega), hW.2.2.2.1]
    exact arF_cg (fun i p q => by rw [lo i (by omega)])
theorem ln_x {E : Mem} {r : Int → Int} (hE : EBx E) : VL (eG E) r (lnL r (eH E) (eG E).toNat) ∧ ∀ x, x ∈ lnL r (eH E) (eG E).toNat → x < E 1 4 := by
  have f := hE.f
  have g := hE.2
  have g1 := hE.1
  exact ⟨lnL_VL (by omega) _ (by omega), fun x hx => by have := lnL_mem _ x hx; omega⟩
/-- all have arrived; all have ended; none who has not ended follows one that has arrived; the same graves -/
def allA (E : Mem) (r : Int → Int) : Prop := ∀ h, 0 ≤ h → h < E 1 4 → r h < 0
def allE (E : Mem) (r : Int → Int) : Prop := ∀ m, 0 ≤ m → m < E 1 5 → 0 ≤ r (29 + m)
def fol (E : Mem) (r : Int → Int) : Prop := ∀ m, 0 ≤ m → m < E 1 5 → r (29 + m) < 0 → r (21 + m) < 0 ∨ 0 ≤ r (r (21 + m))
def grv (E : Mem) (r r' : Int → Int) : Prop := ∀ m, 0 ≤ m → m < E 1 5 → r (29 + m) = r' (29 + m)
theorem msF_lo {E : Mem} {r : Int → Int} : ∀ (n : Nat) (j : Int), j < 13 → msF E n r j = r j := by
  intro n
  induction n with
  | zero => intro j _; rfl
  | succ n ih =>
    intro j hj
    show (if 0 ≤ msF E n r (29 + n) then msF E n r else mmF E (msF E n r) n) j = _
    split
    · exact ih j hj
    · rw [mmF_o (by omega)]
      exact ih j hj
theorem msF_hi {E : Mem} {r : Int → Int} {m : Int} : ∀ n : Nat, n ≤ 8 → (n : Int) ≤ m → m < 8 → msF E n r (13 + m) = r (13 + m) ∧ msF E n r (21 + m) = r (21 + m) ∧ msF E n r (29 + m) = r (29 + m) := by
  intro n
  induction n with
  | zero => intro _ _ _; exact ⟨rfl, rfl, rfl⟩
  | succ n ih =>
    intro h8 h hm
    obtain ⟨i1, i2, i3⟩ := ih (by omega) (by omega) hm
    have e : ∀ j, j ≠ 13 + (n : Int) ∧ j ≠ 21 + (n : Int) ∧ j ≠ 29 + (n : Int) → msF E (n + 1) r j = msF E n r j := by
      intro j hj
      show (if 0 ≤ msF E n r (29 + n) then msF E n r else mmF E (msF E n r) n) j = _
      split
      · rfl
      · exact mmF_o hj
    exact ⟨by rw [e _ (by omega), i1], by rw [e _ (by omega), i2], by rw [e _ (by omega), i3]⟩
theorem hs_hi {E : Mem} {r : Int → Int} (hE : EBx E) {j : Int} (hj : 13 ≤ j) : hsF E (lnL r (eH E) (eG E).toNat) r j = r j := hsF_j hj _ _ (ln_x hE).1.i
/-- what one mourner does in a step, over the row behind the hearses -/
theorem st_m {E : Mem} {r : Int → Int} {m : Int} (hE : EBx E) (hm : 0 ≤ m ∧ m < E 1 5) : ∃ A : Int → Int, (∀ j, j < 13 → A j = stF E r j) ∧ A (13 + m) = r (13 + m) ∧ A (21 + m) = r (21 + m) ∧ A (29 + m) = r (29 + m) ∧ stF E r (13 + m) = (if 0 ≤ A (29 + m) then A else mmF E A m) (13 + m) ∧ stF E r (21 + m) = (if 0 ≤ A (29 + m) then A else mmF E A m) (21 + m) ∧ stF E r (29 + m) = (if 0 ≤ A (29 + m) then A else mmF E A m) (29 + m) := by
  have f := hE.f
  have g := hE.2
  have ek := msF_k (E := E) (r := hsF E (lnL r (eH E) (eG E).toNat) r) (m := m) (eO E) (by omega)
  have e8 := msF_hi (E := E) (r := hsF E (lnL r (eH E) (eG E).toNat) r) (m := m) m.toNat (by omega) (by omega) (by omega)
  have es := msF_s (E := E) (r := hsF E (lnL r (eH E) (eG E).toNat) r) (i := m) hm.1
  refine ⟨msF E m.toNat (hsF E (lnL r (eH E) (eG E).toNat) r), fun j hj => ?_, ?_, ?_, ?_, ?_⟩
  · unfold stF
    rw [up_j (by omega), msF_lo _ j hj, msF_lo _ j hj]
  · rw [e8.1, hs_hi hE (by omega)]
  · rw [e8.2.1, hs_hi hE (by omega)]
  · rw [e8.2.2, hs_hi hE (by omega)]
  · rcases ek with q | q | q
    · rw [← es]
      unfold stF
      rw [up_j (by omega), up_j (by omega), up_j (by omega)]
      exact q
    · omega
    · omega
theorem st_end {E : Mem} {r : Int → Int} {m : Int} (hE : EBx E) (hm : 0 ≤ m ∧ m < E 1 5) (h : 0 ≤ r (29 + m)) : stF E r (29 + m) = r (29 + m) := by
  obtain ⟨A, _, _, _, a3, _, _, e3⟩ := st_m (r := r) hE hm
  rw [e3, if_pos (by omega), a3]
theorem mmF_fol {E : Mem} {A : Int → Int} {m : Int} (hm : 0 ≤ m) (h6 : E 1 4 ≤ 6 ∧ 0 ≤ E 1 4) (hb : A (21 + m) < E 1 4) (h : mmF E A m (29 + m) < 0) : mmF E A m (21 + m) < 0 ∨ 0 ≤ A (mmF E A m (21 + m)) := by
  unfold mmF at h ⊢
  by_cases c1 : 0 ≤ A (21 + m) ∧ A (A (21 + m)) < 0
  · rw [if_pos c1, upS] at h
    omega
  · rw [if_neg c1] at h ⊢
    by_cases c2 : chF E A m
    · rw [if_pos c2] at h ⊢
      rw [up_j (by omega), upS]
      have nb := nearF_b A (A (13 + m)) (eH E)
      have c2' : 0 ≤ nearF A (A (13 + m)) (eH E) := c2.1
      exact Or.inr (nb.2.2 c2')
    · rw [if_neg c2] at h ⊢
      by_cases c3 : A (21 + m) < 0
      · rw [if_pos c3]
        exact Or.inl c3
      · rw [if_neg c3, up_j (by omega)]
        exact Or.inr (by
          rcases Int.lt_or_le (A (A (21 + m))) 0 with w | w
          · exact absurd ⟨by omega, w⟩ c1
          · exact w)
theorem mmF_f6 {E : Mem} {A : Int → Int} {m : Int} (h6 : E 1 4 ≤ 6 ∧ 0 ≤ E 1 4) (hm : 0 ≤ m) (hb : A (21 + m) < E 1 4) : mmF E A m (21 + m) < 6 := by
  unfold mmF
  split
  · rw [up_j (by omega)]; omega
  · split
    · rw [up_j (by omega), upS]
      have nb := nearF_b A (A (13 + m)) (eH E)
      have : ((eH E : Nat) : Int) = E 1 4 := by show (((E 1 4).toNat : Nat) : Int) = _; omega
      omega
    · split
      · omega
      · rw [up_j (by omega)]; omega
theorem fol_st {E : Mem} {r : Int → Int} (hE : EBx E) (hW : WR E r) : fol E (stF E r) := by
  have f := hE.f
  have g := hE.2
  intro m h0 h1 he
  have w := hW.2.2.1 m h0 h1
  obtain ⟨A, lo, a1, a2, a3, e1, e2, e3⟩ := st_m (r := r) hE ⟨h0, h1⟩
  by_cases c : 0 ≤ A (29 + m)
  · rw [if_pos c] at e3
    omega
  · rw [if_neg c] at e1 e2 e3
    rw [e3] at he
    have b : A (21 + m) < E 1 4 := by rw [a2]; omega
    have q := mmF_fol h0 (by omega) b he
    have k := mmF_f6 (by omega) h0 b
    rw [e2]
    rcases q with q | q
    · exact Or.inl q
    · exact Or.inr (by rw [← lo _ (by omega)]; exact q)
theorem allA_st {E : Mem} {r : Int → Int} (hE : EBx E) (h : allA E r) : lnL r (eH E) (eG E).toNat = [] ∧ allA E (stF E r) := by
  have f := hE.f
  have g := hE.2
  have e : lnL r (eH E) (eG E).toNat = [] := lnL_0 _ (fun i p q w => by have := h i p (by omega); omega)
  refine ⟨e, fun i p q => ?_⟩
  unfold stF
  rw [up_j (by omega), msF_lo _ i (by omega), e]
  exact h i p q
theorem ln_all {E : Mem} {r : Int → Int} (hE : EBx E) (hW : WR E r) (h : lnL r (eH E) (eG E).toNat = []) : allA E r := by
  have f := hE.f
  have key : ∀ c : Nat, lnL r (eH E) c = [] → ∀ v : Int, 0 ≤ v → v < c → onF r (eH E) v < 0 := by
    intro c
    induction c with
    | zero => intro _ v p q; omega
    | succ c ih =>
      intro hc v p q
      unfold lnL at hc
      by_cases w : 0 ≤ onF r (eH E) c
      · rw [if_pos w] at hc
        exact absurd hc (by simp)
      · rw [if_neg w] at hc
        by_cases e : v = c
        · rw [e]; omega
        · exact ih hc v p (by omega)
  intro i p q
  rcases Int.lt_or_le (r i) 0 with w | w
  · exact w
  · exfalso
    have b := hW.2.1 i p q
    have k := key _ h (r i) w (by omega)
    have := onF_n (c := r) (n := eH E) (v := r i) k i p (by omega)
    omega
theorem qu_allA {E : Mem} {r : Int → Int} (hE : EBx E) (hW : WR E r) (h : allA E r) (hf : fol E r) : quS E r := by
  have f := hE.f
  have g := hE.2
  refine ⟨fun x hx => ?_, fun m p q w => ?_⟩
  · rw [(allA_st hE h).1] at hx
    cases hx
  · have b := hW.2.2.1 m p q
    have no : r (21 + m) < 0 := by
      rcases hf m p q w with u | u
      · exact u
      · rcases Int.lt_or_le (r (21 + m)) 0 with v | v
        · exact v
        · have := h _ v b.1.2
          omega
    refine mmF_st ⟨by omega, fun c => ?_, Or.inl no⟩
    have c' : 0 ≤ nearF r (r (13 + m)) (eH E) := c.1
    have nb := nearF_b r (r (13 + m)) (eH E)
    have := h (nearF r (r (13 + m)) (eH E)) c' (by omega)
    have := nb.2.2 c'
    omega
theorem st_add {E : Mem} {r : Int → Int} (a b : Nat) : itF E (a + b) r = itF E a (itF E b r) := by
  induction a with
  | zero => rw [Nat.zero_add]; rfl
  | succ a ih =>
    rw [show a + 1 + b = (a + b) + 1 from by omega]
    show stF E (itF E (a + b) r) = stF E (itF E a (itF E b r))
    rw [ih]
/-- quiet from now on, whatever the step's number: the graves stay -/
theorem it_qu {E : Mem} {r : Int → Int} {N : Nat} (hE : EBx E) (h : ∀ n : Nat, n ≤ N → quS E (up r 37 (r 37 + n))) : ∀ n : Nat, n ≤ N → itF E n r = up r 37 (r 37 + n) := by
  intro n
  induction n with
  | zero => intro _; show r = _; rw [show r 37 + ((0 : Nat) : Int) = r 37 from by omega, up_id]
  | succ n ih =>
    intro hn
    show stF E (itF E n r) = _
    rw [ih (by omega), st_qu hE (h n (by omega)), upS, up_ov]
    rw [show r 37 + (n : Int) + 1 = r 37 + ((n + 1 : Nat) : Int) from by omega]
theorem gr_qu {E : Mem} {r : Int → Int} {N : Nat} (hE : EBx E) (h : ∀ n : Nat, n ≤ N → quS E (up r 37 (r 37 + n))) (n : Nat) (hn : n ≤ N) : grv E (itF E n r) r := by
  intro m p q
  have g := hE.2
  rw [it_qu hE h n hn, up_j (by omega)]
theorem gr_allE {E : Mem} {r : Int → Int} (hE : EBx E) (h : allE E r) (n : Nat) : grv E (itF E n r) r := by
  have k : ∀ n : Nat, grv E (itF E n r) r := by
    intro n
    induction n with
    | zero => intro m p q; rfl
    | succ n ih =>
      intro m p q
      show stF E (itF E n r) (29 + m) = _
      have e := ih m p q
      rw [st_end hE ⟨p, q⟩ (by rw [e]; exact h m p q), e]
  exact k n
theorem gr_allA {E : Mem} {r : Int → Int} (hE : EBx E) (hW : WR E r) (h : allA E r) (hf : fol E r) (n : Nat) : grv E (itF E n r) r := by
  have k : ∀ n : Nat, grv E (itF E n r) r ∧ allA E (itF E n r) ∧ fol E (itF E n r) ∧ WR E (itF E n r) := by
    intro n
    induction n with
    | zero => exact ⟨fun m p q => rfl, h, hf, hW⟩
    | succ n ih =>
      obtain ⟨i1, i2, i3, i4⟩ := ih
      refine ⟨fun m p q => ?_, (allA_st hE i2).2, fol_st hE i4, i4.st hE⟩
      show stF E (itF E n r) (29 + m) = _
      have g := hE.2
      rw [st_qu hE (qu_allA hE i4 i2 i3), up_j (by omega)]
      exact i1 m p q
  exact (k n).1
