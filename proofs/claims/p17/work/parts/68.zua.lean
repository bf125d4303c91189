/-! QUIET STEPS: none goes, none turns -/
theorem hsF_j {E : Mem} {j : Int} (hj : 13 ≤ j) : ∀ (l : List Int) (r : Int → Int), (∀ x, x ∈ l → 0 ≤ x ∧ x ≤ 5) → hsF E l r j = r j := by
  intro l
  induction l with
  | nil => intro r _; rfl
  | cons a t ih =>
    intro r hl
    have ha := hl a List.mem_cons_self
    show hsF E t (mhF E r a) j = r j
    rw [ih (mhF E r a) (fun x hx => hl x (List.mem_cons_of_mem _ hx)), mhF_o (by omega) (by omega) (by omega)]
theorem msF_k {E : Mem} {r : Int → Int} {m : Int} : ∀ n : Nat, m < n → (msF E n r (13 + m) = msF E (m + 1).toNat r (13 + m) ∧ msF E n r (21 + m) = msF E (m + 1).toNat r (21 + m) ∧ msF E n r (29 + m) = msF E (m + 1).toNat r (29 + m)) ∨ m < 0 ∨ 8 < n := by
  intro n
  induction n with
  | zero => intro h; exact Or.inr (Or.inl (by omega))
  | succ n ih =>
    intro h
    by_cases h0 : m < 0
    · exact Or.inr (Or.inl h0)
    by_cases h8 : 8 < n + 1
    · exact Or.inr (Or.inr h8)
    by_cases c : m = n
    · rw [c, show ((n : Int) + 1).toNat = n + 1 from by omega]
      exact Or.inl ⟨rfl, rfl, rfl⟩
    · rcases ih (by omega) with q | q | q
      · refine Or.inl ?_
        have same : ∀ j, j ≠ 13 + (n : Int) ∧ j ≠ 21 + (n : Int) ∧ j ≠ 29 + (n : Int) → msF E (n + 1) r j = msF E n r j := by
          intro j hj
          show (if 0 ≤ msF E n r (29 + n) then msF E n r else mmF E (msF E n r) n) j = _
          split
          · rfl
          · exact mmF_o hj
        rw [same _ (by omega), same _ (by omega), same _ (by omega)]
        exact q
      · exact absurd q h0
      · omega
