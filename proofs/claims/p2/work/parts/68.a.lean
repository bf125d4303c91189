/-! SPECS of the class: the small methods. Safety: no machine throw, invariants kept. -/
theorem up2_a (M : Mem) (k : Nat) (j v : Int) (k' : Nat) (j' : Int) : up2 M k j v k' j' = if k' = k then (if j' = j then v else M k' j') else M k' j' := by
  unfold up2 up
  by_cases h : k' = k
  · subst h; simp
  · simp [h]
theorem up2_n {M : Mem} {k : Nat} {j v : Int} {k' : Nat} (h : k' ≠ k) : up2 M k j v k' = M k' := by
  unfold up2
  rw [if_neg h]
theorem up2_s (M : Mem) (k : Nat) (j v : Int) : up2 M k j v k j = v := by unfold up2 up; simp
theorem up2_j {M : Mem} {k : Nat} {j v : Int} {j' : Int} (h : j' ≠ j) : up2 M k j v k j' = M k j' := by unfold up2 up; simp [h]
theorem cp2_n {M : Mem} {a b : Nat} {n : Int} {k : Nat} (h : k ≠ b) : cp2 M a b n k = M k := by unfold cp2; rw [if_neg h]
theorem cp2_s {M : Mem} {a b : Nat} {n : Int} {j : Int} (h0 : 0 ≤ j) (h1 : j < n) : cp2 M a b n b j = M a j := by unfold cp2 cpy; rw [if_pos rfl, if_pos ⟨h0, h1⟩]
/-- rows outside P are as before -/
def Fr (P : Nat → Prop) (M M' : Mem) : Prop := ∀ i, ¬ P i → M' i = M i
theorem Fr.rf {P : Nat → Prop} {M : Mem} : Fr P M M := fun _ _ => rfl
theorem Fr.tr {P : Nat → Prop} {M M1 M2 : Mem} (h : Fr P M M1) (h2 : Fr P M1 M2) : Fr P M M2 := fun i hi => (h2 i hi).trans (h i hi)
theorem Fr.mono {P P' : Nat → Prop} {M M' : Mem} (h : Fr P M M') (hP : ∀ i, P i → P' i) : Fr P' M M' := fun i hi => h i (fun q => hi (hP i q))
theorem Fr.up {P : Nat → Prop} {M M' : Mem} (h : Fr P M M') {k : Nat} {j v : Int} (hk : P k) : Fr P M (up2 M' k j v) := fun i hi => by
  rw [up2_n (fun q => hi (q ▸ hk))]
  exact h i hi
theorem Fr.cp {P : Nat → Prop} {M M' : Mem} (h : Fr P M M') {a b : Nat} {n : Int} (hk : P b) : Fr P M (cp2 M' a b n) := fun i hi => by
  rw [cp2_n (fun q => hi (q ▸ hk))]
  exact h i hi
-- bits
theorem toInt32_R (x : Int32) : iR x.toInt := toInt_R x
theorem aI_R (a b : Int) : iR (aI a b) := toInt_R _
theorem oI_R (a b : Int) : iR (oI a b) := toInt_R _
theorem slI_R (a b : Int) : iR (slI a b) := toInt_R _
theorem srI_R (a b : Int) : iR (srI a b) := toInt_R _
theorem usI_R (a b : Int) : iR (usI a b) := toInt_R _
theorem dvI_R (a b : Int) : iR (dvI a b) := toInt_R _
theorem rmI_R (a b : Int) : iR (rmI a b) := toInt_R _
theorem aI_255 (a : Int) : 0 ≤ aI a 255 ∧ aI a 255 ≤ 255 := by
  obtain ⟨j, hj, e⟩ := pk_andE (iI a) (m := 255) 8 (by decide)
  have h : aI a 255 = (nI j).toInt := by
    unfold aI
    rw [show iI 255 = (255 : Int32) from rfl, ← e]
    first | rfl | simp
  rw [h]
  have h2 : (nI j).toInt = j := iI_toInt (z := (j : Int)) ⟨by omega, by omega⟩
  rw [h2]
  omega
-- THE TEXT
def TextI (M : Mem) : Prop := (0 ≤ M 156 1 ∧ M 156 1 ≤ 80) ∧ (0 ≤ M 156 2 ∧ M 156 2 ≤ 80) ∧ (0 ≤ M 156 3 ∧ M 156 3 ≤ 80) ∧ ∀ j, 0 ≤ j → j < 80 → 0 ≤ M 157 j ∧ M 157 j ≤ 255
theorem TextI.fr {M M' : Mem} (h : TextI M) (h1 : M' 156 = M 156) (h2 : M' 157 = M 157) : TextI M' := by
  unfold TextI
  rw [h1, h2]
  exact h
theorem x_look {M : Mem} {Q : Int → Mem → Prop} (hT : TextI M) (h1 : M 156 3 ≤ M 156 2 → Q (-1) M) (h2 : M 156 2 < M 156 3 → 0 ≤ M 157 (M 156 2) → M 157 (M 156 2) ≤ 255 → Q (M 157 (M 156 2)) M) : qX9_look M Q := by
  obtain ⟨a, b, c, d⟩ := hT
  unfold qX9_look
  rintro _ rfl _ _ rfl _
  refine ⟨fun c1 => h1 c1, fun c1 => ?_⟩
  rintro _ rfl _
  refine ⟨by omega, by omega, ?_⟩
  rintro _ rfl _
  have hd := d (M 156 2) (by omega) (by omega)
  exact h2 (by omega) hd.1 hd.2
theorem x_pass {M : Mem} {Q : Mem → Prop} (hT : TextI M) (h1 : M 156 3 ≤ M 156 2 → Q M) (h2 : M 156 2 < M 156 3 → Q (up2 M 156 2 (M 156 2 + 1))) : qX9_pass M Q := by
  obtain ⟨a, b, c, d⟩ := hT
  unfold qX9_pass
  rintro _ rfl _ _ rfl _
  refine ⟨fun c1 => h1 c1, fun c1 => ?_⟩
  rintro _ rfl _
  refine ⟨by omega, ?_⟩
  rintro _ rfl
  exact h2 (by omega)
/-- reading goes on: the place of reading alone -/
def TOp (M M' : Mem) : Prop := Fr (fun i => i = 156) M M' ∧ M' 156 1 = M 156 1 ∧ M' 156 3 = M 156 3 ∧ M 156 2 ≤ M' 156 2 ∧ (M' 156 2 ≤ M 156 2 ∨ M' 156 2 ≤ M 156 3)
theorem TOp.rf {M : Mem} : TOp M M := ⟨Fr.rf, rfl, rfl, Int.le_refl _, Or.inl (Int.le_refl _)⟩
theorem TOp.tr {M M1 M2 : Mem} (h : TOp M M1) (h2 : TOp M1 M2) : TOp M M2 := by
  obtain ⟨a1, a2, a3, a4, a5⟩ := h
  obtain ⟨b1, b2, b3, b4, b5⟩ := h2
  exact ⟨a1.tr b1, by omega, by omega, by omega, by omega⟩
theorem TOp.pass {M : Mem} (h : M 156 2 < M 156 3) : TOp M (up2 M 156 2 (M 156 2 + 1)) := by
  refine ⟨Fr.rf.up rfl, by simp [up2_a], by simp [up2_a], ?_, ?_⟩ <;> rw [up2_s] <;> omega
theorem TOp.text {M M' : Mem} (h : TOp M M') (hT : TextI M) : TextI M' := by
  obtain ⟨a1, a2, a3, a4, a5⟩ := h
  obtain ⟨b1, b2, b3, b4⟩ := hT
  refine ⟨by omega, by omega, by omega, ?_⟩
  rw [a1 157 (by decide)]
  exact b4
theorem x_digit {M : Mem} {Q : Int → Mem → Prop} (hT : TextI M) (h1 : Q (-1) M) (h2 : ∀ z, 0 ≤ z → z ≤ 9 → M 156 2 < M 156 3 → z = M 157 (M 156 2) - 48 → Q z (up2 M 156 2 (M 156 2 + 1))) : qX9_digit M Q := by
  unfold qX9_digit
  refine x_look hT (fun c1 _ => ⟨fun _ => h1, fun c => absurd (by decide) c⟩) (fun c1 hb0 hb1 _ => ⟨fun _ => h1, fun c => ⟨fun c2 => ?_, fun _ => h1⟩⟩)
  refine x_pass hT (fun c3 => by omega) (fun _ => ⟨by omega, ?_⟩)
  exact h2 _ (by omega) (by omega) c1 rfl
theorem x_number {M : Mem} {p : Int} {Q : Int → Mem → Prop} (hp : p = 2 ∨ p = 3) (hT : TextI M) (h : ∀ z M', -1 ≤ z → z ≤ 999 → (p = 2 → z ≤ 99) → TOp M M' → (0 ≤ z → M 156 2 < M' 156 2) → Q z M') : qX9_number p M Q := by
  unfold qX9_number
  have L : ∀ (n : Nat) (v2 v3 v4 : Int) (M1 : Mem), (p - v4 < n) → 1 ≤ v4 → TOp M M1 → (v2 = -1 ∧ v3 = -1 ∨ 0 ≤ v2 ∧ M 156 2 < M1 156 2) → -1 ≤ v3 → v3 ≤ 9 → (v4 = 1 → v2 ≤ 9) → (v4 = 2 → v2 ≤ 99) → v2 ≤ 999 → (p = 2 → v2 ≤ 99) → (3 ≤ v4 → p = 2 ∨ v4 ≥ 3) → qX9_number_L10 p Q n v2 v3 v4 M1 := by
    intro n
    induction n with
    | zero => intro v2 v3 v4 M1 h1 h2 h3 h4 h5 h6 h7 h8 h9 h10; sorry
    | succ n ih => sorry
  sorry
