/-! FRAMES, by program out of the weakest preconditions: what a method does not write stays -/
def Ks (P : Nat → Int → Prop) (M M' : Mem) : Prop := ∀ k j, ¬ P k j → M' k j = M k j
theorem Ks.rf {P : Nat → Int → Prop} {M : Mem} : Ks P M M := fun _ _ _ => rfl
theorem Ks.tr {P : Nat → Int → Prop} {M M1 M2 : Mem} (h : Ks P M M1) (h2 : Ks P M1 M2) : Ks P M M2 := fun i j hi => (h2 i j hi).trans (h i j hi)
theorem Ks.mono {P P' : Nat → Int → Prop} {M M' : Mem} (h : Ks P M M') (hP : ∀ k j, P k j → P' k j) : Ks P' M M' := fun i j hi => h i j (fun q => hi (hP i j q))
theorem Ks.wr {P : Nat → Int → Prop} {M M' : Mem} (h : Ks P M M') {k : Nat} {j v : Int} (hk : P k j) : Ks P M (up2 M' k j v) := fun i j' hi => by
  have hn : ¬ (i = k ∧ j' = j) := fun q => hi (by rw [q.1, q.2]; exact hk)
  unfold up2
  by_cases c : i = k
  · rw [if_pos c]
    unfold up
    rw [if_neg (fun q => hn ⟨c, q⟩), ← c]
    exact h i j' hi
  · rw [if_neg c]
    exact h i j' hi
theorem Ks.cp {P : Nat → Int → Prop} {M M' : Mem} (h : Ks P M M') {a b : Nat} {n : Int} (hk : ∀ j, P b j) : Ks P M (cp2 M' a b n) := fun i j' hi => by
  have hn : i ≠ b := fun q => hi (by rw [q]; exact hk j')
  unfold cp2
  rw [if_neg hn]
  exact h i j' hi
theorem mo_0 : ∀ (k : Nat) (j : Int), (k = 156 ∧ (j = 1)) → k = 166 ∨ (k = 1 ∧ (j = 6 ∨ j = 7 ∨ j = 8 ∨ j = 9 ∨ j = 10)) ∨ (k = 156 ∧ (j = 1)) ∨ (k = 158 ∧ (j = 1 ∨ j = 2)) ∨ (k = 163 ∧ (j = 2)) := by intro k j h; omega
theorem mo_1 : ∀ (k : Nat) (j : Int), (k = 158 ∧ (j = 1 ∨ j = 2)) → k = 166 ∨ (k = 1 ∧ (j = 6 ∨ j = 7 ∨ j = 8 ∨ j = 9 ∨ j = 10)) ∨ (k = 156 ∧ (j = 1)) ∨ (k = 158 ∧ (j = 1 ∨ j = 2)) ∨ (k = 163 ∧ (j = 2)) := by intro k j h; omega
theorem mo_2 : ∀ (k : Nat) (j : Int), (k = 1 ∧ (j = 6 ∨ j = 7 ∨ j = 8 ∨ j = 9 ∨ j = 10)) → k = 166 ∨ (k = 1 ∧ (j = 6 ∨ j = 7 ∨ j = 8 ∨ j = 9 ∨ j = 10)) ∨ (k = 156 ∧ (j = 1)) ∨ (k = 158 ∧ (j = 1 ∨ j = 2)) ∨ (k = 163 ∧ (j = 2)) := by intro k j h; omega
theorem mo_3 : ∀ (k : Nat) (j : Int), (k = 163 ∧ (j = 2)) → k = 166 ∨ (k = 1 ∧ (j = 6 ∨ j = 7 ∨ j = 8 ∨ j = 9 ∨ j = 10)) ∨ (k = 156 ∧ (j = 1)) ∨ (k = 158 ∧ (j = 1 ∨ j = 2)) ∨ (k = 163 ∧ (j = 2)) := by intro k j h; omega
theorem mo_4 : ∀ (k : Nat) (j : Int), k = 166 → k = 166 ∨ (k = 1 ∧ (j = 6 ∨ j = 7 ∨ j = 8 ∨ j = 9 ∨ j = 10)) ∨ (k = 156 ∧ (j = 1)) ∨ (k = 158 ∧ (j = 1 ∨ j = 2)) ∨ (k = 163 ∧ (j = 2)) := by intro k j h; omega
theorem mo_5 : ∀ (k : Nat) (j : Int), (k = 156 ∧ (j = 2)) → (8 ≤ k ∧ k ≤ 10) ∨ (k = 156 ∧ (j = 2)) := by intro k j h; omega
theorem mo_6 : ∀ (k : Nat) (j : Int), (k = 8 ∧ (j = 6)) ∨ k = 8 + 1 ∨ k = 8 + 2 → (8 ≤ k ∧ k ≤ 10) ∨ (k = 156 ∧ (j = 2)) := by intro k j h; omega
theorem mo_7 : ∀ (k : Nat) (j : Int), (k = 156 ∧ (j = 2)) → k = 8 ∨ (11 ≤ k ∧ k ≤ 14) ∨ (k = 156 ∧ (j = 2)) := by intro k j h; omega
theorem mo_8 : ∀ (k : Nat) (j : Int), (k = 8 ∧ (j = 7)) ∨ k = 8 + 3 ∨ k = 8 + 4 ∨ k = 8 + 5 ∨ k = 8 + 6 → k = 8 ∨ (11 ≤ k ∧ k ≤ 14) ∨ (k = 156 ∧ (j = 2)) := by intro k j h; omega
theorem mo_9 : ∀ (k : Nat) (j : Int), k = 8 ∨ (11 ≤ k ∧ k ≤ 14) ∨ (k = 156 ∧ (j = 2)) → (2 ≤ k ∧ k ≤ 14) ∨ (k = 1 ∧ (j = 6 ∨ j = 7 ∨ j = 8 ∨ j = 9 ∨ j = 10)) ∨ (k = 156 ∧ (j = 2 ∨ j = 3)) ∨ (k = 163 ∧ (j = 2)) := by intro k j h; omega
theorem mo_10 : ∀ (k : Nat) (j : Int), (k = 156 ∧ (j = 2)) → (2 ≤ k ∧ k ≤ 14) ∨ (k = 1 ∧ (j = 6 ∨ j = 7 ∨ j = 8 ∨ j = 9 ∨ j = 10)) ∨ (k = 156 ∧ (j = 2 ∨ j = 3)) ∨ (k = 163 ∧ (j = 2)) := by intro k j h; omega
theorem mo_11 : ∀ (k : Nat) (j : Int), (8 ≤ k ∧ k ≤ 10) ∨ (k = 156 ∧ (j = 2)) → (2 ≤ k ∧ k ≤ 14) ∨ (k = 1 ∧ (j = 6 ∨ j = 7 ∨ j = 8 ∨ j = 9 ∨ j = 10)) ∨ (k = 156 ∧ (j = 2 ∨ j = 3)) ∨ (k = 163 ∧ (j = 2)) := by intro k j h; omega
theorem mo_12 : ∀ (k : Nat) (j : Int), (k = 8 ∧ (j = 6 ∨ j = 7 ∨ j = 8 ∨ j = 9 ∨ j = 10)) ∨ k = 8 + 1 ∨ k = 8 + 2 ∨ k = 8 + 3 ∨ k = 8 + 4 ∨ k = 8 + 5 ∨ k = 8 + 6 → (2 ≤ k ∧ k ≤ 14) ∨ (k = 1 ∧ (j = 6 ∨ j = 7 ∨ j = 8 ∨ j = 9 ∨ j = 10)) ∨ (k = 156 ∧ (j = 2 ∨ j = 3)) ∨ (k = 163 ∧ (j = 2)) := by intro k j h; omega
theorem mo_13 : ∀ (k : Nat) (j : Int), (k = 156 ∧ (j = 2 ∨ j = 3)) → (2 ≤ k ∧ k ≤ 14) ∨ (k = 1 ∧ (j = 6 ∨ j = 7 ∨ j = 8 ∨ j = 9 ∨ j = 10)) ∨ (k = 156 ∧ (j = 2 ∨ j = 3)) ∨ (k = 163 ∧ (j = 2)) := by intro k j h; omega
theorem mo_14 : ∀ (k : Nat) (j : Int), (k = 1 ∧ (j = 6 ∨ j = 7 ∨ j = 8 ∨ j = 9 ∨ j = 10)) ∨ k = 1 + 1 ∨ k = 1 + 2 ∨ k = 1 + 3 ∨ k = 1 + 4 ∨ k = 1 + 5 ∨ k = 1 + 6 → (2 ≤ k ∧ k ≤ 14) ∨ (k = 1 ∧ (j = 6 ∨ j = 7 ∨ j = 8 ∨ j = 9 ∨ j = 10)) ∨ (k = 156 ∧ (j = 2 ∨ j = 3)) ∨ (k = 163 ∧ (j = 2)) := by intro k j h; omega
theorem mo_15 : ∀ (k : Nat) (j : Int), (k = 163 ∧ (j = 2)) → (2 ≤ k ∧ k ≤ 14) ∨ (k = 1 ∧ (j = 6 ∨ j = 7 ∨ j = 8 ∨ j = 9 ∨ j = 10)) ∨ (k = 156 ∧ (j = 2 ∨ j = 3)) ∨ (k = 163 ∧ (j = 2)) := by intro k j h; omega
theorem mo_16 : ∀ (k : Nat) (j : Int), (2 ≤ k ∧ k ≤ 14) ∨ (k = 1 ∧ (j = 6 ∨ j = 7 ∨ j = 8 ∨ j = 9 ∨ j = 10)) ∨ (k = 156 ∧ (j = 2 ∨ j = 3)) ∨ (k = 163 ∧ (j = 2)) → (2 ≤ k ∧ k ≤ 14) ∨ (k = 1 ∧ (j = 6 ∨ j = 7 ∨ j = 8 ∨ j = 9 ∨ j = 10)) ∨ (k = 156 ∧ (j = 1 ∨ j = 2 ∨ j = 3)) ∨ (k = 163 ∧ (j = 2)) := by intro k j h; omega
theorem mo_17 : ∀ (k : Nat) (j : Int), (k = 156 ∧ (j = 1)) → (2 ≤ k ∧ k ≤ 14) ∨ (k = 1 ∧ (j = 6 ∨ j = 7 ∨ j = 8 ∨ j = 9 ∨ j = 10)) ∨ (k = 156 ∧ (j = 1 ∨ j = 2 ∨ j = 3)) ∨ (k = 163 ∧ (j = 2)) := by intro k j h; omega
theorem mo_18 : ∀ (k : Nat) (j : Int), (k = 156 ∧ (j = 1)) → k = 159 ∨ (k = 156 ∧ (j = 1)) ∨ (k = 158 ∧ (j = 3)) := by intro k j h; omega
theorem mo_19 : ∀ (k : Nat) (j : Int), k = 159 ∨ (k = 158 ∧ (j = 3)) → k = 159 ∨ (k = 156 ∧ (j = 1)) ∨ (k = 158 ∧ (j = 3)) := by intro k j h; omega
theorem mo_20 : ∀ (k : Nat) (j : Int), (k = 156 ∧ (j = 1)) → (186 ≤ k ∧ k ≤ 189) ∨ (192 ≤ k ∧ k ≤ 194) ∨ (k = 155 ∧ (j = 16 ∨ j = 17)) ∨ (k = 156 ∧ (j = 1 ∨ j = 2 ∨ j = 3)) ∨ (k = 185 ∧ (j = 1 ∨ j = 2 ∨ j = 3)) := by intro k j h; omega
theorem mo_21 : ∀ (k : Nat) (j : Int), (k = 167 ∧ (j = 1)) → k = 0 ∨ (k = 167 ∧ (j = 1)) := by intro k j h; omega
theorem mo_22 : ∀ (k : Nat) (j : Int), (k = 22 ∧ (j = 6 ∨ j = 7 ∨ j = 8 ∨ j = 9 ∨ j = 10)) ∨ k = 22 + 1 ∨ k = 22 + 2 ∨ k = 22 + 3 ∨ k = 22 + 4 ∨ k = 22 + 5 ∨ k = 22 + 6 → k = 0 ∨ (2 ≤ k ∧ k ≤ 4) ∨ (6 ≤ k ∧ k ≤ 7) ∨ (22 ≤ k ∧ k ≤ 28) ∨ (50 ≤ k ∧ k ≤ 154) ∨ (160 ≤ k ∧ k ≤ 162) ∨ (190 ≤ k ∧ k ≤ 191) ∨ (195 ≤ k ∧ k ≤ 196) ∨ (k = 1 ∧ (j = 8 ∨ j = 9 ∨ j = 10)) ∨ (k = 163 ∧ (j = 1 ∨ j = 2)) ∨ (k = 167 ∧ (j = 1)) := by intro k j h; omega
theorem mo_23 : ∀ (k : Nat) (j : Int), k = 0 ∨ (k = 167 ∧ (j = 1)) → k = 0 ∨ (2 ≤ k ∧ k ≤ 4) ∨ (6 ≤ k ∧ k ≤ 7) ∨ (22 ≤ k ∧ k ≤ 28) ∨ (50 ≤ k ∧ k ≤ 154) ∨ (160 ≤ k ∧ k ≤ 162) ∨ (190 ≤ k ∧ k ≤ 191) ∨ (195 ≤ k ∧ k ≤ 196) ∨ (k = 1 ∧ (j = 8 ∨ j = 9 ∨ j = 10)) ∨ (k = 163 ∧ (j = 1 ∨ j = 2)) ∨ (k = 167 ∧ (j = 1)) := by intro k j h; omega
theorem mo_24 : ∀ (k : Nat) (j : Int), (50 ≤ k ∧ k ≤ 154) ∨ (k = 163 ∧ (j = 1 ∨ j = 2)) → k = 0 ∨ (2 ≤ k ∧ k ≤ 4) ∨ (6 ≤ k ∧ k ≤ 7) ∨ (22 ≤ k ∧ k ≤ 28) ∨ (50 ≤ k ∧ k ≤ 154) ∨ (160 ≤ k ∧ k ≤ 162) ∨ (190 ≤ k ∧ k ≤ 191) ∨ (195 ≤ k ∧ k ≤ 196) ∨ (k = 1 ∧ (j = 8 ∨ j = 9 ∨ j = 10)) ∨ (k = 163 ∧ (j = 1 ∨ j = 2)) ∨ (k = 167 ∧ (j = 1)) := by intro k j h; omega
theorem mo_25 : ∀ (k : Nat) (j : Int), (k = 22 ∧ (j = 6 ∨ j = 7 ∨ j = 8 ∨ j = 9 ∨ j = 10)) ∨ k = 22 + 1 ∨ k = 22 + 2 ∨ k = 22 + 3 ∨ k = 22 + 4 ∨ k = 22 + 5 ∨ k = 22 + 6 → k = 6 ∨ (22 ≤ k ∧ k ≤ 28) ∨ (50 ≤ k ∧ k ≤ 154) ∨ (k = 163 ∧ (j = 1 ∨ j = 2)) := by intro k j h; omega
theorem mo_26 : ∀ (k : Nat) (j : Int), k = 1 + 5 → k = 6 ∨ (22 ≤ k ∧ k ≤ 28) ∨ (50 ≤ k ∧ k ≤ 154) ∨ (k = 163 ∧ (j = 1 ∨ j = 2)) := by intro k j h; omega
theorem mo_27 : ∀ (k : Nat) (j : Int), (50 ≤ k ∧ k ≤ 154) ∨ (k = 163 ∧ (j = 1 ∨ j = 2)) → k = 6 ∨ (22 ≤ k ∧ k ≤ 28) ∨ (50 ≤ k ∧ k ≤ 154) ∨ (k = 163 ∧ (j = 1 ∨ j = 2)) := by intro k j h; omega
theorem mo_28 : ∀ (k : Nat) (j : Int), (k = 22 ∧ (j = 6 ∨ j = 7 ∨ j = 8 ∨ j = 9 ∨ j = 10)) ∨ k = 22 + 1 ∨ k = 22 + 2 ∨ k = 22 + 3 ∨ k = 22 + 4 ∨ k = 22 + 5 ∨ k = 22 + 6 → k = 4 ∨ (22 ≤ k ∧ k ≤ 28) ∨ (50 ≤ k ∧ k ≤ 154) ∨ (k = 163 ∧ (j = 1 ∨ j = 2)) := by intro k j h; omega
theorem mo_29 : ∀ (k : Nat) (j : Int), k = 1 + 3 → k = 4 ∨ (22 ≤ k ∧ k ≤ 28) ∨ (50 ≤ k ∧ k ≤ 154) ∨ (k = 163 ∧ (j = 1 ∨ j = 2)) := by intro k j h; omega
theorem mo_30 : ∀ (k : Nat) (j : Int), (50 ≤ k ∧ k ≤ 154) ∨ (k = 163 ∧ (j = 1 ∨ j = 2)) → k = 4 ∨ (22 ≤ k ∧ k ≤ 28) ∨ (50 ≤ k ∧ k ≤ 154) ∨ (k = 163 ∧ (j = 1 ∨ j = 2)) := by intro k j h; omega
theorem mo_31 : ∀ (k : Nat) (j : Int), (k = 22 ∧ (j = 6 ∨ j = 7 ∨ j = 8 ∨ j = 9 ∨ j = 10)) ∨ k = 22 + 1 ∨ k = 22 + 2 ∨ k = 22 + 3 ∨ k = 22 + 4 ∨ k = 22 + 5 ∨ k = 22 + 6 → k = 2 ∨ (22 ≤ k ∧ k ≤ 28) ∨ (50 ≤ k ∧ k ≤ 154) ∨ (k = 163 ∧ (j = 1 ∨ j = 2)) := by intro k j h; omega
theorem mo_32 : ∀ (k : Nat) (j : Int), k = 1 + 1 → k = 2 ∨ (22 ≤ k ∧ k ≤ 28) ∨ (50 ≤ k ∧ k ≤ 154) ∨ (k = 163 ∧ (j = 1 ∨ j = 2)) := by intro k j h; omega
theorem mo_33 : ∀ (k : Nat) (j : Int), (50 ≤ k ∧ k ≤ 154) ∨ (k = 163 ∧ (j = 1 ∨ j = 2)) → k = 2 ∨ (22 ≤ k ∧ k ≤ 28) ∨ (50 ≤ k ∧ k ≤ 154) ∨ (k = 163 ∧ (j = 1 ∨ j = 2)) := by intro k j h; omega
theorem mo_34 : ∀ (k : Nat) (j : Int), (k = 156 ∧ (j = 2)) → (2 ≤ k ∧ k ≤ 4) ∨ (6 ≤ k ∧ k ≤ 7) ∨ (160 ≤ k ∧ k ≤ 162) ∨ (190 ≤ k ∧ k ≤ 191) ∨ (195 ≤ k ∧ k ≤ 196) ∨ (k = 1 ∧ (j = 8 ∨ j = 9 ∨ j = 10)) ∨ (k = 156 ∧ (j = 2)) := by intro k j h; omega
theorem mo_35 : ∀ (k : Nat) (j : Int), k = 1 + 3 → (2 ≤ k ∧ k ≤ 4) ∨ (6 ≤ k ∧ k ≤ 7) ∨ (160 ≤ k ∧ k ≤ 162) ∨ (190 ≤ k ∧ k ≤ 191) ∨ (195 ≤ k ∧ k ≤ 196) ∨ (k = 1 ∧ (j = 8 ∨ j = 9 ∨ j = 10)) ∨ (k = 156 ∧ (j = 2)) := by intro k j h; omega
theorem mo_36 : ∀ (k : Nat) (j : Int), k = 1 + 5 → (2 ≤ k ∧ k ≤ 4) ∨ (6 ≤ k ∧ k ≤ 7) ∨ (160 ≤ k ∧ k ≤ 162) ∨ (190 ≤ k ∧ k ≤ 191) ∨ (195 ≤ k ∧ k ≤ 196) ∨ (k = 1 ∧ (j = 8 ∨ j = 9 ∨ j = 10)) ∨ (k = 156 ∧ (j = 2)) := by intro k j h; omega
theorem mo_37 : ∀ (k : Nat) (j : Int), k = 1 + 1 → (2 ≤ k ∧ k ≤ 4) ∨ (6 ≤ k ∧ k ≤ 7) ∨ (160 ≤ k ∧ k ≤ 162) ∨ (190 ≤ k ∧ k ≤ 191) ∨ (195 ≤ k ∧ k ≤ 196) ∨ (k = 1 ∧ (j = 8 ∨ j = 9 ∨ j = 10)) ∨ (k = 156 ∧ (j = 2)) := by intro k j h; omega
theorem mo_38 : ∀ (k : Nat) (j : Int), (k = 156 ∧ (j = 2)) → (k = 156 ∧ (j = 2 ∨ j = 3)) := by intro k j h; omega
theorem mo_39 : ∀ (k : Nat) (j : Int), (2 ≤ k ∧ k ≤ 4) ∨ (6 ≤ k ∧ k ≤ 7) ∨ (160 ≤ k ∧ k ≤ 162) ∨ (190 ≤ k ∧ k ≤ 191) ∨ (195 ≤ k ∧ k ≤ 196) ∨ (k = 1 ∧ (j = 8 ∨ j = 9 ∨ j = 10)) ∨ (k = 156 ∧ (j = 2)) → k = 0 ∨ (2 ≤ k ∧ k ≤ 4) ∨ (6 ≤ k ∧ k ≤ 7) ∨ (22 ≤ k ∧ k ≤ 28) ∨ (50 ≤ k ∧ k ≤ 154) ∨ (160 ≤ k ∧ k ≤ 162) ∨ (190 ≤ k ∧ k ≤ 191) ∨ (195 ≤ k ∧ k ≤ 196) ∨ (k = 1 ∧ (j = 8 ∨ j = 9 ∨ j = 10)) ∨ (k = 156 ∧ (j = 1 ∨ j = 2 ∨ j = 3)) ∨ (k = 163 ∧ (j = 1 ∨ j = 2)) ∨ (k = 167 ∧ (j = 1)) := by intro k j h; omega
theorem mo_40 : ∀ (k : Nat) (j : Int), (k = 156 ∧ (j = 2 ∨ j = 3)) → k = 0 ∨ (2 ≤ k ∧ k ≤ 4) ∨ (6 ≤ k ∧ k ≤ 7) ∨ (22 ≤ k ∧ k ≤ 28) ∨ (50 ≤ k ∧ k ≤ 154) ∨ (160 ≤ k ∧ k ≤ 162) ∨ (190 ≤ k ∧ k ≤ 191) ∨ (195 ≤ k ∧ k ≤ 196) ∨ (k = 1 ∧ (j = 8 ∨ j = 9 ∨ j = 10)) ∨ (k = 156 ∧ (j = 1 ∨ j = 2 ∨ j = 3)) ∨ (k = 163 ∧ (j = 1 ∨ j = 2)) ∨ (k = 167 ∧ (j = 1)) := by intro k j h; omega
theorem mo_41 : ∀ (k : Nat) (j : Int), (k = 22 ∧ (j = 6 ∨ j = 7 ∨ j = 8 ∨ j = 9 ∨ j = 10)) ∨ k = 22 + 1 ∨ k = 22 + 2 ∨ k = 22 + 3 ∨ k = 22 + 4 ∨ k = 22 + 5 ∨ k = 22 + 6 → k = 0 ∨ (2 ≤ k ∧ k ≤ 4) ∨ (6 ≤ k ∧ k ≤ 7) ∨ (22 ≤ k ∧ k ≤ 28) ∨ (50 ≤ k ∧ k ≤ 154) ∨ (160 ≤ k ∧ k ≤ 162) ∨ (190 ≤ k ∧ k ≤ 191) ∨ (195 ≤ k ∧ k ≤ 196) ∨ (k = 1 ∧ (j = 8 ∨ j = 9 ∨ j = 10)) ∨ (k = 156 ∧ (j = 1 ∨ j = 2 ∨ j = 3)) ∨ (k = 163 ∧ (j = 1 ∨ j = 2)) ∨ (k = 167 ∧ (j = 1)) := by intro k j h; omega
theorem mo_42 : ∀ (k : Nat) (j : Int), (k = 156 ∧ (j = 1)) → k = 0 ∨ (2 ≤ k ∧ k ≤ 4) ∨ (6 ≤ k ∧ k ≤ 7) ∨ (22 ≤ k ∧ k ≤ 28) ∨ (50 ≤ k ∧ k ≤ 154) ∨ (160 ≤ k ∧ k ≤ 162) ∨ (190 ≤ k ∧ k ≤ 191) ∨ (195 ≤ k ∧ k ≤ 196) ∨ (k = 1 ∧ (j = 8 ∨ j = 9 ∨ j = 10)) ∨ (k = 156 ∧ (j = 1 ∨ j = 2 ∨ j = 3)) ∨ (k = 163 ∧ (j = 1 ∨ j = 2)) ∨ (k = 167 ∧ (j = 1)) := by intro k j h; omega
theorem mo_43 : ∀ (k : Nat) (j : Int), k = 0 ∨ (k = 167 ∧ (j = 1)) → k = 0 ∨ (2 ≤ k ∧ k ≤ 4) ∨ (6 ≤ k ∧ k ≤ 7) ∨ (22 ≤ k ∧ k ≤ 28) ∨ (50 ≤ k ∧ k ≤ 154) ∨ (160 ≤ k ∧ k ≤ 162) ∨ (190 ≤ k ∧ k ≤ 191) ∨ (195 ≤ k ∧ k ≤ 196) ∨ (k = 1 ∧ (j = 8 ∨ j = 9 ∨ j = 10)) ∨ (k = 156 ∧ (j = 1 ∨ j = 2 ∨ j = 3)) ∨ (k = 163 ∧ (j = 1 ∨ j = 2)) ∨ (k = 167 ∧ (j = 1)) := by intro k j h; omega
theorem mo_44 : ∀ (k : Nat) (j : Int), (50 ≤ k ∧ k ≤ 154) ∨ (k = 163 ∧ (j = 1 ∨ j = 2)) → k = 0 ∨ (2 ≤ k ∧ k ≤ 4) ∨ (6 ≤ k ∧ k ≤ 7) ∨ (22 ≤ k ∧ k ≤ 28) ∨ (50 ≤ k ∧ k ≤ 154) ∨ (160 ≤ k ∧ k ≤ 162) ∨ (190 ≤ k ∧ k ≤ 191) ∨ (195 ≤ k ∧ k ≤ 196) ∨ (k = 1 ∧ (j = 8 ∨ j = 9 ∨ j = 10)) ∨ (k = 156 ∧ (j = 1 ∨ j = 2 ∨ j = 3)) ∨ (k = 163 ∧ (j = 1 ∨ j = 2)) ∨ (k = 167 ∧ (j = 1)) := by intro k j h; omega
theorem mo_45 : ∀ (k : Nat) (j : Int), (k = 163 ∧ (j = 2)) ∨ (k = 1 ∧ (j = 6 ∨ j = 7 ∨ j = 8 ∨ j = 9 ∨ j = 10)) ∨ k = 1 + 1 ∨ k = 1 + 2 ∨ k = 1 + 3 ∨ k = 1 + 4 ∨ k = 1 + 5 ∨ k = 1 + 6 → (2 ≤ k ∧ k ≤ 7) ∨ (k = 1 ∧ (j = 6 ∨ j = 7 ∨ j = 8 ∨ j = 9 ∨ j = 10)) ∨ (k = 163 ∧ (j = 2)) := by intro k j h; omega
theorem mo_46 : ∀ (k : Nat) (j : Int), k = 0 ∨ (k = 167 ∧ (j = 1)) → k = 0 ∨ (8 ≤ k ∧ k ≤ 14) ∨ (160 ≤ k ∧ k ≤ 162) ∨ (190 ≤ k ∧ k ≤ 191) ∨ (195 ≤ k ∧ k ≤ 196) ∨ (k = 167 ∧ (j = 1)) := by intro k j h; omega
theorem mo_47 : ∀ (k : Nat) (j : Int), (k = 8 ∧ (j = 6 ∨ j = 7 ∨ j = 8 ∨ j = 9 ∨ j = 10)) ∨ k = 8 + 1 ∨ k = 8 + 2 ∨ k = 8 + 3 ∨ k = 8 + 4 ∨ k = 8 + 5 ∨ k = 8 + 6 → k = 0 ∨ (8 ≤ k ∧ k ≤ 14) ∨ (160 ≤ k ∧ k ≤ 162) ∨ (190 ≤ k ∧ k ≤ 191) ∨ (195 ≤ k ∧ k ≤ 196) ∨ (k = 167 ∧ (j = 1)) := by intro k j h; omega
theorem mo_48 : ∀ (k : Nat) (j : Int), (k = 167 ∧ (j = 1)) → k = 0 ∨ (8 ≤ k ∧ k ≤ 14) ∨ (160 ≤ k ∧ k ≤ 162) ∨ (190 ≤ k ∧ k ≤ 191) ∨ (195 ≤ k ∧ k ≤ 196) ∨ (k = 167 ∧ (j = 1)) := by intro k j h; omega
theorem mo_49 : ∀ (k : Nat) (j : Int), (160 ≤ k ∧ k ≤ 162) → k = 0 ∨ (8 ≤ k ∧ k ≤ 14) ∨ (160 ≤ k ∧ k ≤ 162) ∨ (190 ≤ k ∧ k ≤ 191) ∨ (195 ≤ k ∧ k ≤ 196) ∨ (k = 167 ∧ (j = 1)) := by intro k j h; omega
theorem mo_50 : ∀ (k : Nat) (j : Int), (k = 8 ∧ (j = 6 ∨ j = 7 ∨ j = 8 ∨ j = 9 ∨ j = 10)) ∨ k = 8 + 1 ∨ k = 8 + 2 ∨ k = 8 + 3 ∨ k = 8 + 4 ∨ k = 8 + 5 ∨ k = 8 + 6 → k = 0 ∨ (8 ≤ k ∧ k ≤ 14) ∨ (160 ≤ k ∧ k ≤ 162) ∨ (180 ≤ k ∧ k ≤ 181) ∨ (190 ≤ k ∧ k ≤ 191) ∨ (195 ≤ k ∧ k ≤ 196) ∨ (k = 167 ∧ (j = 1)) ∨ (k = 179 ∧ (j = 2)) := by intro k j h; omega
theorem mo_51 : ∀ (k : Nat) (j : Int), k = 8 + 1 → k = 0 ∨ (8 ≤ k ∧ k ≤ 14) ∨ (160 ≤ k ∧ k ≤ 162) ∨ (180 ≤ k ∧ k ≤ 181) ∨ (190 ≤ k ∧ k ≤ 191) ∨ (195 ≤ k ∧ k ≤ 196) ∨ (k = 167 ∧ (j = 1)) ∨ (k = 179 ∧ (j = 2)) := by intro k j h; omega
theorem mo_52 : ∀ (k : Nat) (j : Int), k = 180 → k = 0 ∨ (8 ≤ k ∧ k ≤ 14) ∨ (160 ≤ k ∧ k ≤ 162) ∨ (180 ≤ k ∧ k ≤ 181) ∨ (190 ≤ k ∧ k ≤ 191) ∨ (195 ≤ k ∧ k ≤ 196) ∨ (k = 167 ∧ (j = 1)) ∨ (k = 179 ∧ (j = 2)) := by intro k j h; omega
theorem mo_53 : ∀ (k : Nat) (j : Int), k = 181 → k = 0 ∨ (8 ≤ k ∧ k ≤ 14) ∨ (160 ≤ k ∧ k ≤ 162) ∨ (180 ≤ k ∧ k ≤ 181) ∨ (190 ≤ k ∧ k ≤ 191) ∨ (195 ≤ k ∧ k ≤ 196) ∨ (k = 167 ∧ (j = 1)) ∨ (k = 179 ∧ (j = 2)) := by intro k j h; omega
theorem mo_54 : ∀ (k : Nat) (j : Int), k = 0 ∨ (k = 167 ∧ (j = 1)) → k = 0 ∨ (8 ≤ k ∧ k ≤ 14) ∨ (160 ≤ k ∧ k ≤ 162) ∨ (180 ≤ k ∧ k ≤ 181) ∨ (190 ≤ k ∧ k ≤ 191) ∨ (195 ≤ k ∧ k ≤ 196) ∨ (k = 167 ∧ (j = 1)) ∨ (k = 179 ∧ (j = 2)) := by intro k j h; omega
theorem mo_55 : ∀ (k : Nat) (j : Int), k = 180 ∨ (k = 179 ∧ (j = 2)) → k = 0 ∨ (8 ≤ k ∧ k ≤ 14) ∨ (160 ≤ k ∧ k ≤ 162) ∨ (180 ≤ k ∧ k ≤ 181) ∨ (190 ≤ k ∧ k ≤ 191) ∨ (195 ≤ k ∧ k ≤ 196) ∨ (k = 167 ∧ (j = 1)) ∨ (k = 179 ∧ (j = 2)) := by intro k j h; omega
theorem mo_56 : ∀ (k : Nat) (j : Int), (k = 167 ∧ (j = 1)) → k = 0 ∨ (8 ≤ k ∧ k ≤ 14) ∨ (160 ≤ k ∧ k ≤ 162) ∨ (180 ≤ k ∧ k ≤ 181) ∨ (190 ≤ k ∧ k ≤ 191) ∨ (195 ≤ k ∧ k ≤ 196) ∨ (k = 167 ∧ (j = 1)) ∨ (k = 179 ∧ (j = 2)) := by intro k j h; omega
theorem mo_57 : ∀ (k : Nat) (j : Int), k = 8 + 5 → k = 13 := by intro k j h; omega
theorem mo_58 : ∀ (k : Nat) (j : Int), (k = 8 ∧ (j = 6 ∨ j = 7 ∨ j = 8 ∨ j = 9 ∨ j = 10)) ∨ k = 8 + 1 ∨ k = 8 + 2 ∨ k = 8 + 3 ∨ k = 8 + 4 ∨ k = 8 + 5 ∨ k = 8 + 6 → k = 0 ∨ (8 ≤ k ∧ k ≤ 21) ∨ (160 ≤ k ∧ k ≤ 162) ∨ (190 ≤ k ∧ k ≤ 191) ∨ (195 ≤ k ∧ k ≤ 196) ∨ (k = 167 ∧ (j = 1)) := by intro k j h; omega
theorem mo_59 : ∀ (k : Nat) (j : Int), k = 13 → k = 0 ∨ (8 ≤ k ∧ k ≤ 21) ∨ (160 ≤ k ∧ k ≤ 162) ∨ (190 ≤ k ∧ k ≤ 191) ∨ (195 ≤ k ∧ k ≤ 196) ∨ (k = 167 ∧ (j = 1)) := by intro k j h; omega
theorem mo_60 : ∀ (k : Nat) (j : Int), (k = 15 ∧ (j = 6 ∨ j = 7 ∨ j = 8 ∨ j = 9 ∨ j = 10)) ∨ k = 15 + 1 ∨ k = 15 + 2 ∨ k = 15 + 3 ∨ k = 15 + 4 ∨ k = 15 + 5 ∨ k = 15 + 6 → k = 0 ∨ (8 ≤ k ∧ k ≤ 21) ∨ (160 ≤ k ∧ k ≤ 162) ∨ (190 ≤ k ∧ k ≤ 191) ∨ (195 ≤ k ∧ k ≤ 196) ∨ (k = 167 ∧ (j = 1)) := by intro k j h; omega
theorem mo_61 : ∀ (k : Nat) (j : Int), k = 0 ∨ (k = 167 ∧ (j = 1)) → k = 0 ∨ (8 ≤ k ∧ k ≤ 21) ∨ (160 ≤ k ∧ k ≤ 162) ∨ (190 ≤ k ∧ k ≤ 191) ∨ (195 ≤ k ∧ k ≤ 196) ∨ (k = 167 ∧ (j = 1)) := by intro k j h; omega
theorem mo_62 : ∀ (k : Nat) (j : Int), k = 8 + 5 → (8 ≤ k ∧ k ≤ 14) := by intro k j h; omega
theorem mo_63 : ∀ (k : Nat) (j : Int), (k = 8 ∧ (j = 6 ∨ j = 7 ∨ j = 8 ∨ j = 9 ∨ j = 10)) ∨ k = 8 + 1 ∨ k = 8 + 2 ∨ k = 8 + 3 ∨ k = 8 + 4 ∨ k = 8 + 5 ∨ k = 8 + 6 → (8 ≤ k ∧ k ≤ 14) := by intro k j h; omega
theorem mo_64 : ∀ (k : Nat) (j : Int), (8 ≤ k ∧ k ≤ 14) → k = 0 ∨ (8 ≤ k ∧ k ≤ 14) ∨ (160 ≤ k ∧ k ≤ 162) ∨ (190 ≤ k ∧ k ≤ 191) ∨ (195 ≤ k ∧ k ≤ 196) ∨ (k = 167 ∧ (j = 1)) := by intro k j h; omega
theorem mo_65 : ∀ (k : Nat) (j : Int), (k = 8 ∧ (j = 8)) ∨ k = 8 + 1 ∨ k = 8 + 2 ∨ k = 8 + 5 → k = 0 ∨ (8 ≤ k ∧ k ≤ 14) ∨ (160 ≤ k ∧ k ≤ 162) ∨ (190 ≤ k ∧ k ≤ 191) ∨ (195 ≤ k ∧ k ≤ 196) ∨ (k = 167 ∧ (j = 1)) := by intro k j h; omega
theorem mo_66 : ∀ (k : Nat) (j : Int), k = 0 ∨ (k = 167 ∧ (j = 1)) → k = 0 ∨ (170 ≤ k ∧ k ≤ 178) ∨ (k = 167 ∧ (j = 1)) ∨ (k = 168 ∧ (j = 1)) := by intro k j h; omega
theorem mo_67 : ∀ (k : Nat) (j : Int), (170 ≤ k ∧ k ≤ 178) ∨ (k = 168 ∧ (j = 1)) → k = 0 ∨ (170 ≤ k ∧ k ≤ 178) ∨ (k = 167 ∧ (j = 1)) ∨ (k = 168 ∧ (j = 1)) := by intro k j h; omega
theorem mo_68 : ∀ (k : Nat) (j : Int), (k = 167 ∧ (j = 1)) → k = 0 ∨ (170 ≤ k ∧ k ≤ 178) ∨ (k = 167 ∧ (j = 1)) ∨ (k = 168 ∧ (j = 1)) := by intro k j h; omega
theorem mo_69 : ∀ (k : Nat) (j : Int), (k = 156 ∧ (j = 1)) → k = 0 ∨ (8 ≤ k ∧ k ≤ 14) ∨ (160 ≤ k ∧ k ≤ 162) ∨ (186 ≤ k ∧ k ≤ 196) ∨ (k = 156 ∧ (j = 1 ∨ j = 2 ∨ j = 3)) ∨ (k = 167 ∧ (j = 1)) ∨ (k = 185 ∧ (j = 1 ∨ j = 2 ∨ j = 3)) := by intro k j h; omega
theorem mo_70 : ∀ (k : Nat) (j : Int), (k = 8 ∧ (j = 6 ∨ j = 7 ∨ j = 8 ∨ j = 9 ∨ j = 10)) ∨ k = 8 + 1 ∨ k = 8 + 2 ∨ k = 8 + 3 ∨ k = 8 + 4 ∨ k = 8 + 5 ∨ k = 8 + 6 → k = 0 ∨ (8 ≤ k ∧ k ≤ 14) ∨ (160 ≤ k ∧ k ≤ 162) ∨ (186 ≤ k ∧ k ≤ 196) ∨ (k = 156 ∧ (j = 1 ∨ j = 2 ∨ j = 3)) ∨ (k = 167 ∧ (j = 1)) ∨ (k = 185 ∧ (j = 1 ∨ j = 2 ∨ j = 3)) := by intro k j h; omega
theorem mo_71 : ∀ (k : Nat) (j : Int), k = 0 ∨ (k = 167 ∧ (j = 1)) → k = 0 ∨ (8 ≤ k ∧ k ≤ 14) ∨ (160 ≤ k ∧ k ≤ 162) ∨ (186 ≤ k ∧ k ≤ 196) ∨ (k = 156 ∧ (j = 1 ∨ j = 2 ∨ j = 3)) ∨ (k = 167 ∧ (j = 1)) ∨ (k = 185 ∧ (j = 1 ∨ j = 2 ∨ j = 3)) := by intro k j h; omega
theorem mo_72 : ∀ (k : Nat) (j : Int), (k = 155 ∧ (j = 15)) → k = 0 ∨ (8 ≤ k ∧ k ≤ 14) ∨ (160 ≤ k ∧ k ≤ 162) ∨ (190 ≤ k ∧ k ≤ 191) ∨ (195 ≤ k ∧ k ≤ 196) ∨ (k = 155 ∧ (j = 15)) ∨ (k = 167 ∧ (j = 1)) := by intro k j h; omega
theorem mo_73 : ∀ (k : Nat) (j : Int), k = 8 + 3 → k = 0 ∨ (8 ≤ k ∧ k ≤ 14) ∨ (160 ≤ k ∧ k ≤ 162) ∨ (190 ≤ k ∧ k ≤ 191) ∨ (195 ≤ k ∧ k ≤ 196) ∨ (k = 155 ∧ (j = 15)) ∨ (k = 167 ∧ (j = 1)) := by intro k j h; omega
theorem mo_74 : ∀ (k : Nat) (j : Int), k = 8 + 5 → k = 0 ∨ (8 ≤ k ∧ k ≤ 14) ∨ (160 ≤ k ∧ k ≤ 162) ∨ (190 ≤ k ∧ k ≤ 191) ∨ (195 ≤ k ∧ k ≤ 196) ∨ (k = 155 ∧ (j = 15)) ∨ (k = 167 ∧ (j = 1)) := by intro k j h; omega
theorem mo_75 : ∀ (k : Nat) (j : Int), (k = 8 ∧ (j = 6 ∨ j = 7 ∨ j = 8 ∨ j = 9 ∨ j = 10)) ∨ k = 8 + 1 ∨ k = 8 + 2 ∨ k = 8 + 3 ∨ k = 8 + 4 ∨ k = 8 + 5 ∨ k = 8 + 6 → k = 0 ∨ (8 ≤ k ∧ k ≤ 14) ∨ (160 ≤ k ∧ k ≤ 162) ∨ (190 ≤ k ∧ k ≤ 191) ∨ (195 ≤ k ∧ k ≤ 196) ∨ (k = 155 ∧ (j = 15)) ∨ (k = 167 ∧ (j = 1)) := by intro k j h; omega
theorem mo_76 : ∀ (k : Nat) (j : Int), k = 0 ∨ (k = 167 ∧ (j = 1)) → k = 0 ∨ (8 ≤ k ∧ k ≤ 14) ∨ (160 ≤ k ∧ k ≤ 162) ∨ (190 ≤ k ∧ k ≤ 191) ∨ (195 ≤ k ∧ k ≤ 196) ∨ (k = 155 ∧ (j = 15)) ∨ (k = 167 ∧ (j = 1)) := by intro k j h; omega
theorem mo_77 : ∀ (k : Nat) (j : Int), (k = 1 ∧ (j = 6 ∨ j = 7 ∨ j = 8 ∨ j = 9 ∨ j = 10)) ∨ k = 1 + 1 ∨ k = 1 + 2 ∨ k = 1 + 3 ∨ k = 1 + 4 ∨ k = 1 + 5 ∨ k = 1 + 6 → (2 ≤ k ∧ k ≤ 7) ∨ (k = 1 ∧ (j = 6 ∨ j = 7 ∨ j = 8 ∨ j = 9 ∨ j = 10)) ∨ (k = 163 ∧ (j = 2)) := by intro k j h; omega
theorem mo_78 : ∀ (k : Nat) (j : Int), (k = 163 ∧ (j = 2)) → (2 ≤ k ∧ k ≤ 7) ∨ (k = 1 ∧ (j = 6 ∨ j = 7 ∨ j = 8 ∨ j = 9 ∨ j = 10)) ∨ (k = 163 ∧ (j = 2)) := by intro k j h; omega
theorem mo_79 : ∀ (k : Nat) (j : Int), (k = 1 ∧ (j = 15)) → k = 2 ∨ k = 5 ∨ k = 8 ∨ k = 29 ∨ (k = 1 ∧ (j = 0 ∨ j = 3 ∨ j = 4 ∨ j = 5 ∨ j = 14 ∨ j = 15 ∨ j = 16 ∨ j = 17 ∨ j = 28)) := by intro k j h; omega
theorem mo_80 : ∀ (k : Nat) (j : Int), (k = 1 ∧ (j = 14 ∨ j = 15 ∨ j = 16 ∨ j = 17)) → k = 2 ∨ k = 5 ∨ k = 8 ∨ k = 29 ∨ (k = 1 ∧ (j = 0 ∨ j = 3 ∨ j = 4 ∨ j = 5 ∨ j = 14 ∨ j = 15 ∨ j = 16 ∨ j = 17 ∨ j = 28)) := by intro k j h; omega
theorem mo_81 : ∀ (k : Nat) (j : Int), (k = 1 ∧ (j = 15)) → k = 9 ∨ (k = 1 ∧ (j = 15 ∨ j = 20)) := by intro k j h; omega
theorem mo_82 : ∀ (k : Nat) (j : Int), k = 9 ∨ (k = 1 ∧ (j = 15 ∨ j = 20)) → k = 5 ∨ k = 9 ∨ (k = 1 ∧ (j = 0 ∨ j = 4 ∨ j = 6 ∨ j = 14 ∨ j = 15 ∨ j = 16 ∨ j = 17 ∨ j = 20 ∨ j = 28)) := by intro k j h; omega
theorem mo_83 : ∀ (k : Nat) (j : Int), (k = 1 ∧ (j = 15)) → k = 5 ∨ k = 9 ∨ (k = 1 ∧ (j = 0 ∨ j = 4 ∨ j = 6 ∨ j = 14 ∨ j = 15 ∨ j = 16 ∨ j = 17 ∨ j = 20 ∨ j = 28)) := by intro k j h; omega
theorem mo_84 : ∀ (k : Nat) (j : Int), (k = 1 ∧ (j = 14 ∨ j = 15 ∨ j = 16 ∨ j = 17)) → k = 5 ∨ k = 9 ∨ (k = 1 ∧ (j = 0 ∨ j = 4 ∨ j = 6 ∨ j = 14 ∨ j = 15 ∨ j = 16 ∨ j = 17 ∨ j = 20 ∨ j = 28)) := by intro k j h; omega
theorem mo_85 : ∀ (k : Nat) (j : Int), (k = 1 ∧ (j = 6 ∨ j = 28)) → k = 5 ∨ k = 9 ∨ (k = 1 ∧ (j = 0 ∨ j = 4 ∨ j = 6 ∨ j = 14 ∨ j = 15 ∨ j = 16 ∨ j = 17 ∨ j = 20 ∨ j = 28)) := by intro k j h; omega
theorem mo_86 : ∀ (k : Nat) (j : Int), k = 9 ∨ (k = 1 ∧ (j = 15 ∨ j = 20)) → k = 3 ∨ k = 5 ∨ k = 9 ∨ (k = 1 ∧ (j = 0 ∨ j = 5 ∨ j = 6 ∨ j = 14 ∨ j = 15 ∨ j = 16 ∨ j = 17 ∨ j = 20 ∨ j = 28)) := by intro k j h; omega
theorem mo_87 : ∀ (k : Nat) (j : Int), (k = 1 ∧ (j = 15)) → k = 3 ∨ k = 5 ∨ k = 9 ∨ (k = 1 ∧ (j = 0 ∨ j = 5 ∨ j = 6 ∨ j = 14 ∨ j = 15 ∨ j = 16 ∨ j = 17 ∨ j = 20 ∨ j = 28)) := by intro k j h; omega
theorem mo_88 : ∀ (k : Nat) (j : Int), (k = 1 ∧ (j = 14 ∨ j = 15 ∨ j = 16 ∨ j = 17)) → k = 3 ∨ k = 5 ∨ k = 9 ∨ (k = 1 ∧ (j = 0 ∨ j = 5 ∨ j = 6 ∨ j = 14 ∨ j = 15 ∨ j = 16 ∨ j = 17 ∨ j = 20 ∨ j = 28)) := by intro k j h; omega
theorem mo_89 : ∀ (k : Nat) (j : Int), (k = 1 ∧ (j = 6 ∨ j = 28)) → k = 3 ∨ k = 5 ∨ k = 9 ∨ (k = 1 ∧ (j = 0 ∨ j = 5 ∨ j = 6 ∨ j = 14 ∨ j = 15 ∨ j = 16 ∨ j = 17 ∨ j = 20 ∨ j = 28)) := by intro k j h; omega
theorem mo_90 : ∀ (k : Nat) (j : Int), (k = 1 ∧ (j = 15)) → k = 4 ∨ k = 10 ∨ (k = 1 ∧ (j = 0 ∨ j = 7 ∨ j = 14 ∨ j = 15 ∨ j = 16 ∨ j = 17)) := by intro k j h; omega
theorem mo_91 : ∀ (k : Nat) (j : Int), (k = 1 ∧ (j = 14 ∨ j = 15 ∨ j = 16 ∨ j = 17)) → k = 4 ∨ k = 10 ∨ (k = 1 ∧ (j = 0 ∨ j = 7 ∨ j = 14 ∨ j = 15 ∨ j = 16 ∨ j = 17)) := by intro k j h; omega
theorem mo_92 : ∀ (k : Nat) (j : Int), (k = 1 ∧ (j = 15)) → k = 12 ∨ (k = 1 ∧ (j = 15 ∨ j = 17 ∨ j = 25)) := by intro k j h; omega
theorem mo_93 : ∀ (k : Nat) (j : Int), k = 12 ∨ (k = 1 ∧ (j = 25)) → k = 12 ∨ (k = 1 ∧ (j = 15 ∨ j = 17 ∨ j = 25)) := by intro k j h; omega
theorem mo_94 : ∀ (k : Nat) (j : Int), (k = 1 ∧ (j = 14 ∨ j = 15 ∨ j = 16 ∨ j = 17)) → k = 12 ∨ (k = 1 ∧ (j = 14 ∨ j = 15 ∨ j = 16 ∨ j = 17 ∨ j = 25)) := by intro k j h; omega
theorem mo_95 : ∀ (k : Nat) (j : Int), k = 12 ∨ (k = 1 ∧ (j = 15 ∨ j = 17 ∨ j = 25)) → k = 12 ∨ (k = 1 ∧ (j = 14 ∨ j = 15 ∨ j = 16 ∨ j = 17 ∨ j = 25)) := by intro k j h; omega
theorem mo_96 : ∀ (k : Nat) (j : Int), k = 12 ∨ (k = 1 ∧ (j = 14 ∨ j = 15 ∨ j = 16 ∨ j = 17 ∨ j = 25)) → (11 ≤ k ∧ k ≤ 12) ∨ (k = 1 ∧ (j = 0 ∨ j = 14 ∨ j = 15 ∨ j = 16 ∨ j = 17 ∨ j = 24 ∨ j = 25)) := by intro k j h; omega
theorem mo_97 : ∀ (k : Nat) (j : Int), k = 11 ∨ (k = 1 ∧ (j = 24)) → (11 ≤ k ∧ k ≤ 12) ∨ (k = 1 ∧ (j = 0 ∨ j = 14 ∨ j = 15 ∨ j = 16 ∨ j = 17 ∨ j = 24 ∨ j = 25)) := by intro k j h; omega
theorem mo_98 : ∀ (k : Nat) (j : Int), k = 13 → (13 ≤ k ∧ k ≤ 14) := by intro k j h; omega
theorem mo_99 : ∀ (k : Nat) (j : Int), (k = 1 ∧ (j = 0)) → (13 ≤ k ∧ k ≤ 14) ∨ (k = 1 ∧ (j = 0)) := by intro k j h; omega
theorem mo_100 : ∀ (k : Nat) (j : Int), (13 ≤ k ∧ k ≤ 14) → (13 ≤ k ∧ k ≤ 14) ∨ (k = 1 ∧ (j = 0)) := by intro k j h; omega
theorem mo_101 : ∀ (k : Nat) (j : Int), k = 15 → k = 0 ∨ k = 5 ∨ (13 ≤ k ∧ k ≤ 18) ∨ (k = 1 ∧ (j = 0 ∨ j = 1 ∨ j = 28 ∨ j = 30 ∨ j = 31 ∨ j = 35)) := by intro k j h; omega
theorem mo_102 : ∀ (k : Nat) (j : Int), (13 ≤ k ∧ k ≤ 14) ∨ (16 ≤ k ∧ k ≤ 18) ∨ (k = 1 ∧ (j = 30 ∨ j = 31 ∨ j = 35)) ∨ k = 5 → k = 0 ∨ k = 5 ∨ (13 ≤ k ∧ k ≤ 18) ∨ (k = 1 ∧ (j = 0 ∨ j = 1 ∨ j = 28 ∨ j = 30 ∨ j = 31 ∨ j = 35)) := by intro k j h; omega
theorem mo_103 : ∀ (k : Nat) (j : Int), k = 0 ∨ (k = 1 ∧ (j = 1)) → k = 0 ∨ k = 5 ∨ (13 ≤ k ∧ k ≤ 18) ∨ (k = 1 ∧ (j = 0 ∨ j = 1 ∨ j = 28 ∨ j = 30 ∨ j = 31 ∨ j = 35)) := by intro k j h; omega
theorem mo_104 : ∀ (k : Nat) (j : Int), k = 15 ∨ (k = 1 ∧ (j = 28)) → k = 0 ∨ k = 5 ∨ (13 ≤ k ∧ k ≤ 18) ∨ (k = 1 ∧ (j = 0 ∨ j = 1 ∨ j = 28 ∨ j = 30 ∨ j = 31 ∨ j = 35)) := by intro k j h; omega
theorem mo_105 : ∀ (k : Nat) (j : Int), k = 15 → k = 5 ∨ k = 15 ∨ (k = 1 ∧ (j = 0 ∨ j = 28)) := by intro k j h; omega
theorem mo_106 : ∀ (k : Nat) (j : Int), k = 5 → k = 5 ∨ k = 15 ∨ (k = 1 ∧ (j = 0 ∨ j = 28)) := by intro k j h; omega
theorem mo_107 : ∀ (k : Nat) (j : Int), k = 15 ∨ (k = 1 ∧ (j = 28)) → k = 5 ∨ k = 15 ∨ (k = 1 ∧ (j = 0 ∨ j = 28)) := by intro k j h; omega
theorem mo_108 : ∀ (k : Nat) (j : Int), (13 ≤ k ∧ k ≤ 14) ∨ (16 ≤ k ∧ k ≤ 18) ∨ (k = 1 ∧ (j = 30 ∨ j = 31 ∨ j = 35)) ∨ k = 5 → k = 5 ∨ (13 ≤ k ∧ k ≤ 14) ∨ (16 ≤ k ∧ k ≤ 18) ∨ (k = 1 ∧ (j = 30 ∨ j = 31 ∨ j = 35)) := by intro k j h; omega
theorem mo_109 : ∀ (k : Nat) (j : Int), k = 5 → k = 5 ∨ (13 ≤ k ∧ k ≤ 14) ∨ (16 ≤ k ∧ k ≤ 18) ∨ (k = 1 ∧ (j = 30 ∨ j = 31 ∨ j = 35)) := by intro k j h; omega
theorem mo_110 : ∀ (k : Nat) (j : Int), (k = 1 ∧ (j = 15)) → (19 ≤ k ∧ k ≤ 21) ∨ (k = 1 ∧ (j = 15 ∨ j = 39)) := by intro k j h; omega
theorem mo_111 : ∀ (k : Nat) (j : Int), (19 ≤ k ∧ k ≤ 21) ∨ (k = 1 ∧ (j = 15 ∨ j = 39)) → k = 0 ∨ k = 5 ∨ (13 ≤ k ∧ k ≤ 21) ∨ (k = 1 ∧ (j = 0 ∨ j = 1 ∨ j = 14 ∨ j = 15 ∨ j = 16 ∨ j = 17 ∨ j = 28 ∨ j = 30 ∨ j = 31 ∨ j = 35 ∨ j = 39)) := by intro k j h; omega
theorem mo_112 : ∀ (k : Nat) (j : Int), k = 5 ∨ (13 ≤ k ∧ k ≤ 14) ∨ (16 ≤ k ∧ k ≤ 18) ∨ (k = 1 ∧ (j = 30 ∨ j = 31 ∨ j = 35)) → k = 0 ∨ k = 5 ∨ (13 ≤ k ∧ k ≤ 21) ∨ (k = 1 ∧ (j = 0 ∨ j = 1 ∨ j = 14 ∨ j = 15 ∨ j = 16 ∨ j = 17 ∨ j = 28 ∨ j = 30 ∨ j = 31 ∨ j = 35 ∨ j = 39)) := by intro k j h; omega
theorem mo_113 : ∀ (k : Nat) (j : Int), (k = 1 ∧ (j = 14 ∨ j = 15 ∨ j = 16 ∨ j = 17)) → k = 0 ∨ k = 5 ∨ (13 ≤ k ∧ k ≤ 21) ∨ (k = 1 ∧ (j = 0 ∨ j = 1 ∨ j = 14 ∨ j = 15 ∨ j = 16 ∨ j = 17 ∨ j = 28 ∨ j = 30 ∨ j = 31 ∨ j = 35 ∨ j = 39)) := by intro k j h; omega
theorem mo_114 : ∀ (k : Nat) (j : Int), k = 15 → k = 0 ∨ k = 5 ∨ (13 ≤ k ∧ k ≤ 21) ∨ (k = 1 ∧ (j = 0 ∨ j = 1 ∨ j = 14 ∨ j = 15 ∨ j = 16 ∨ j = 17 ∨ j = 28 ∨ j = 30 ∨ j = 31 ∨ j = 35 ∨ j = 39)) := by intro k j h; omega
theorem mo_115 : ∀ (k : Nat) (j : Int), k = 0 ∨ (k = 1 ∧ (j = 1)) → k = 0 ∨ k = 5 ∨ (13 ≤ k ∧ k ≤ 21) ∨ (k = 1 ∧ (j = 0 ∨ j = 1 ∨ j = 14 ∨ j = 15 ∨ j = 16 ∨ j = 17 ∨ j = 28 ∨ j = 30 ∨ j = 31 ∨ j = 35 ∨ j = 39)) := by intro k j h; omega
theorem mo_116 : ∀ (k : Nat) (j : Int), k = 15 ∨ (k = 1 ∧ (j = 28)) → k = 0 ∨ k = 5 ∨ (13 ≤ k ∧ k ≤ 21) ∨ (k = 1 ∧ (j = 0 ∨ j = 1 ∨ j = 14 ∨ j = 15 ∨ j = 16 ∨ j = 17 ∨ j = 28 ∨ j = 30 ∨ j = 31 ∨ j = 35 ∨ j = 39)) := by intro k j h; omega
theorem mo_117 : ∀ (k : Nat) (j : Int), k = 0 ∨ (k = 1 ∧ (j = 1)) → k = 0 ∨ k = 18 ∨ (k = 1 ∧ (j = 0 ∨ j = 1 ∨ j = 35)) := by intro k j h; omega
theorem mo_118 : ∀ (k : Nat) (j : Int), k = 18 ∨ (k = 1 ∧ (j = 35)) → k = 0 ∨ k = 18 ∨ (k = 1 ∧ (j = 0 ∨ j = 1 ∨ j = 35)) := by intro k j h; omega
theorem mo_119 : ∀ (k : Nat) (j : Int), k = 0 ∨ (k = 1 ∧ (j = 1)) → k = 0 ∨ k = 6 ∨ (13 ≤ k ∧ k ≤ 14) ∨ (16 ≤ k ∧ k ≤ 18) ∨ (k = 1 ∧ (j = 0 ∨ j = 1 ∨ j = 30 ∨ j = 31 ∨ j = 35)) := by intro k j h; omega
theorem mo_120 : ∀ (k : Nat) (j : Int), k = 6 → k = 0 ∨ k = 6 ∨ (13 ≤ k ∧ k ≤ 14) ∨ (16 ≤ k ∧ k ≤ 18) ∨ (k = 1 ∧ (j = 0 ∨ j = 1 ∨ j = 30 ∨ j = 31 ∨ j = 35)) := by intro k j h; omega
theorem mo_121 : ∀ (k : Nat) (j : Int), (13 ≤ k ∧ k ≤ 14) ∨ (16 ≤ k ∧ k ≤ 18) ∨ (k = 1 ∧ (j = 30 ∨ j = 31 ∨ j = 35)) ∨ k = 6 → k = 0 ∨ k = 6 ∨ (13 ≤ k ∧ k ≤ 14) ∨ (16 ≤ k ∧ k ≤ 18) ∨ (k = 1 ∧ (j = 0 ∨ j = 1 ∨ j = 30 ∨ j = 31 ∨ j = 35)) := by intro k j h; omega
theorem mo_122 : ∀ (k : Nat) (j : Int), k = 18 ∨ (k = 1 ∧ (j = 35)) → k = 6 ∨ (13 ≤ k ∧ k ≤ 14) ∨ (16 ≤ k ∧ k ≤ 18) ∨ (k = 1 ∧ (j = 30 ∨ j = 31 ∨ j = 35)) := by intro k j h; omega
theorem mo_123 : ∀ (k : Nat) (j : Int), (13 ≤ k ∧ k ≤ 14) ∨ (16 ≤ k ∧ k ≤ 18) ∨ (k = 1 ∧ (j = 30 ∨ j = 31 ∨ j = 35)) ∨ k = 6 → k = 6 ∨ (13 ≤ k ∧ k ≤ 14) ∨ (16 ≤ k ∧ k ≤ 18) ∨ (k = 1 ∧ (j = 30 ∨ j = 31 ∨ j = 35)) := by intro k j h; omega
theorem mo_124 : ∀ (k : Nat) (j : Int), k = 6 ∨ (13 ≤ k ∧ k ≤ 14) ∨ (16 ≤ k ∧ k ≤ 18) ∨ (k = 1 ∧ (j = 30 ∨ j = 31 ∨ j = 35)) → k = 0 ∨ k = 6 ∨ (13 ≤ k ∧ k ≤ 14) ∨ (16 ≤ k ∧ k ≤ 18) ∨ (k = 1 ∧ (j = 0 ∨ j = 1 ∨ j = 30 ∨ j = 31 ∨ j = 35)) := by intro k j h; omega
theorem mo_125 : ∀ (k : Nat) (j : Int), k = 6 → k = 6 ∨ (13 ≤ k ∧ k ≤ 14) ∨ (16 ≤ k ∧ k ≤ 18) ∨ (22 ≤ k ∧ k ≤ 23) ∨ (k = 1 ∧ (j = 30 ∨ j = 31 ∨ j = 35 ∨ j = 42)) := by intro k j h; omega
theorem mo_126 : ∀ (k : Nat) (j : Int), k = 6 ∨ (13 ≤ k ∧ k ≤ 14) ∨ (16 ≤ k ∧ k ≤ 18) ∨ (k = 1 ∧ (j = 30 ∨ j = 31 ∨ j = 35)) → k = 6 ∨ (13 ≤ k ∧ k ≤ 14) ∨ (16 ≤ k ∧ k ≤ 18) ∨ (22 ≤ k ∧ k ≤ 23) ∨ (k = 1 ∧ (j = 30 ∨ j = 31 ∨ j = 35 ∨ j = 42)) := by intro k j h; omega
theorem mo_127 : ∀ (k : Nat) (j : Int), k = 0 ∨ (k = 1 ∧ (j = 1)) → k = 0 ∨ k = 6 ∨ (13 ≤ k ∧ k ≤ 14) ∨ (16 ≤ k ∧ k ≤ 18) ∨ (22 ≤ k ∧ k ≤ 23) ∨ (k = 1 ∧ (j = 0 ∨ j = 1 ∨ j = 30 ∨ j = 31 ∨ j = 35 ∨ j = 42)) := by intro k j h; omega
theorem mo_128 : ∀ (k : Nat) (j : Int), k = 6 ∨ (13 ≤ k ∧ k ≤ 14) ∨ (16 ≤ k ∧ k ≤ 18) ∨ (22 ≤ k ∧ k ≤ 23) ∨ (k = 1 ∧ (j = 30 ∨ j = 31 ∨ j = 35 ∨ j = 42)) → k = 0 ∨ k = 6 ∨ (13 ≤ k ∧ k ≤ 14) ∨ (16 ≤ k ∧ k ≤ 18) ∨ (22 ≤ k ∧ k ≤ 23) ∨ (k = 1 ∧ (j = 0 ∨ j = 1 ∨ j = 30 ∨ j = 31 ∨ j = 35 ∨ j = 42)) := by intro k j h; omega
theorem mo_129 : ∀ (k : Nat) (j : Int), k = 0 ∨ (k = 1 ∧ (j = 1)) → k = 0 ∨ (24 ≤ k ∧ k ≤ 25) ∨ (k = 1 ∧ (j = 0 ∨ j = 1 ∨ j = 42)) := by intro k j h; omega
theorem mo_130 : ∀ (k : Nat) (j : Int), (24 ≤ k ∧ k ≤ 25) ∨ (k = 1 ∧ (j = 42)) → k = 0 ∨ (24 ≤ k ∧ k ≤ 25) ∨ (k = 1 ∧ (j = 0 ∨ j = 1 ∨ j = 42)) := by intro k j h; omega
theorem mo_131 : ∀ (k : Nat) (j : Int), k = 0 ∨ (k = 1 ∧ (j = 1)) → k = 0 ∨ (k = 1 ∧ (j = 0 ∨ j = 1)) := by intro k j h; omega
theorem mo_132 : ∀ (k : Nat) (j : Int), k = 12 ∨ (k = 1 ∧ (j = 14 ∨ j = 15 ∨ j = 16 ∨ j = 17 ∨ j = 25)) → k = 0 ∨ k = 6 ∨ (11 ≤ k ∧ k ≤ 14) ∨ (16 ≤ k ∧ k ≤ 18) ∨ k = 28 ∨ (k = 1 ∧ (j = 0 ∨ j = 1 ∨ j = 14 ∨ j = 15 ∨ j = 16 ∨ j = 17 ∨ j = 24 ∨ j = 25 ∨ j = 30 ∨ j = 31 ∨ j = 35)) := by intro k j h; omega
theorem mo_133 : ∀ (k : Nat) (j : Int), k = 6 → k = 0 ∨ k = 6 ∨ (11 ≤ k ∧ k ≤ 14) ∨ (16 ≤ k ∧ k ≤ 18) ∨ k = 28 ∨ (k = 1 ∧ (j = 0 ∨ j = 1 ∨ j = 14 ∨ j = 15 ∨ j = 16 ∨ j = 17 ∨ j = 24 ∨ j = 25 ∨ j = 30 ∨ j = 31 ∨ j = 35)) := by intro k j h; omega
theorem mo_134 : ∀ (k : Nat) (j : Int), k = 6 ∨ (13 ≤ k ∧ k ≤ 14) ∨ (16 ≤ k ∧ k ≤ 18) ∨ (k = 1 ∧ (j = 30 ∨ j = 31 ∨ j = 35)) → k = 0 ∨ k = 6 ∨ (11 ≤ k ∧ k ≤ 14) ∨ (16 ≤ k ∧ k ≤ 18) ∨ k = 28 ∨ (k = 1 ∧ (j = 0 ∨ j = 1 ∨ j = 14 ∨ j = 15 ∨ j = 16 ∨ j = 17 ∨ j = 24 ∨ j = 25 ∨ j = 30 ∨ j = 31 ∨ j = 35)) := by intro k j h; omega
theorem mo_135 : ∀ (k : Nat) (j : Int), k = 11 ∨ (k = 1 ∧ (j = 24)) → k = 0 ∨ k = 6 ∨ (11 ≤ k ∧ k ≤ 14) ∨ (16 ≤ k ∧ k ≤ 18) ∨ k = 28 ∨ (k = 1 ∧ (j = 0 ∨ j = 1 ∨ j = 14 ∨ j = 15 ∨ j = 16 ∨ j = 17 ∨ j = 24 ∨ j = 25 ∨ j = 30 ∨ j = 31 ∨ j = 35)) := by intro k j h; omega
theorem mo_136 : ∀ (k : Nat) (j : Int), k = 0 ∨ (k = 1 ∧ (j = 1)) → k = 0 ∨ k = 6 ∨ (11 ≤ k ∧ k ≤ 14) ∨ (16 ≤ k ∧ k ≤ 18) ∨ k = 28 ∨ (k = 1 ∧ (j = 0 ∨ j = 1 ∨ j = 14 ∨ j = 15 ∨ j = 16 ∨ j = 17 ∨ j = 24 ∨ j = 25 ∨ j = 30 ∨ j = 31 ∨ j = 35)) := by intro k j h; omega
theorem mo_137 : ∀ (k : Nat) (j : Int), (k = 1 ∧ (j = 49)) → k = 0 ∨ k = 6 ∨ (13 ≤ k ∧ k ≤ 14) ∨ (16 ≤ k ∧ k ≤ 18) ∨ (k = 1 ∧ (j = 0 ∨ j = 1 ∨ j = 30 ∨ j = 31 ∨ j = 35 ∨ j = 49)) := by intro k j h; omega
theorem mo_138 : ∀ (k : Nat) (j : Int), k = 6 → k = 0 ∨ k = 6 ∨ (13 ≤ k ∧ k ≤ 14) ∨ (16 ≤ k ∧ k ≤ 18) ∨ (k = 1 ∧ (j = 0 ∨ j = 1 ∨ j = 30 ∨ j = 31 ∨ j = 35 ∨ j = 49)) := by intro k j h; omega
theorem mo_139 : ∀ (k : Nat) (j : Int), (13 ≤ k ∧ k ≤ 14) ∨ (16 ≤ k ∧ k ≤ 18) ∨ (k = 1 ∧ (j = 30 ∨ j = 31 ∨ j = 35)) ∨ k = 6 → k = 0 ∨ k = 6 ∨ (13 ≤ k ∧ k ≤ 14) ∨ (16 ≤ k ∧ k ≤ 18) ∨ (k = 1 ∧ (j = 0 ∨ j = 1 ∨ j = 30 ∨ j = 31 ∨ j = 35 ∨ j = 49)) := by intro k j h; omega
theorem mo_140 : ∀ (k : Nat) (j : Int), k = 0 ∨ (k = 1 ∧ (j = 1)) → k = 0 ∨ k = 6 ∨ (13 ≤ k ∧ k ≤ 14) ∨ (16 ≤ k ∧ k ≤ 18) ∨ (k = 1 ∧ (j = 0 ∨ j = 1 ∨ j = 30 ∨ j = 31 ∨ j = 35 ∨ j = 49)) := by intro k j h; omega
theorem mw_0 : ∀ j : Int, 157 = 157 ∨ (157 = 156 ∧ (j = 1)) := by intro j; omega
theorem mw_1 : 156 = 157 ∨ (156 = 156 ∧ ((1 : Int) = 1)) := by omega
theorem mw_2 : (156 = 156 ∧ ((1 : Int) = 1)) := by omega
theorem mw_3 : ∀ j : Int, 166 = 166 := by intro j; omega
theorem mw_4 : (163 = 163 ∧ ((2 : Int) = 2)) := by omega
theorem mw_5 : (158 = 158 ∧ ((2 : Int) = 1 ∨ (2 : Int) = 2)) := by omega
theorem mw_6 : (158 = 158 ∧ ((1 : Int) = 1 ∨ (1 : Int) = 2)) := by omega
theorem mw_7 : (156 = 156 ∧ ((2 : Int) = 2)) := by omega
theorem mw_8 : (156 = 156 ∧ ((2 : Int) = 2 ∨ (2 : Int) = 3)) := by omega
theorem mw_9 : (156 = 156 ∧ ((3 : Int) = 2 ∨ (3 : Int) = 3)) := by omega
theorem mw_10 : ∀ j : Int, 159 = 159 ∨ (159 = 158 ∧ (j = 3)) := by intro j; omega
theorem mw_11 : 158 = 159 ∨ (158 = 158 ∧ ((3 : Int) = 3)) := by omega
theorem mw_12 : ∀ j : Int, 186 = 186 ∨ (186 = 185 ∧ (j = 1)) := by intro j; omega
theorem mw_13 : 185 = 186 ∨ (185 = 185 ∧ ((1 : Int) = 1)) := by omega
theorem mw_14 : (186 ≤ 155 ∧ 155 ≤ 189) ∨ (192 ≤ 155 ∧ 155 ≤ 194) ∨ (155 = 155 ∧ ((16 : Int) = 16 ∨ (16 : Int) = 17)) ∨ (155 = 156 ∧ ((16 : Int) = 1 ∨ (16 : Int) = 2 ∨ (16 : Int) = 3)) ∨ (155 = 185 ∧ ((16 : Int) = 1 ∨ (16 : Int) = 2 ∨ (16 : Int) = 3)) := by omega
theorem mw_15 : (186 ≤ 155 ∧ 155 ≤ 189) ∨ (192 ≤ 155 ∧ 155 ≤ 194) ∨ (155 = 155 ∧ ((17 : Int) = 16 ∨ (17 : Int) = 17)) ∨ (155 = 156 ∧ ((17 : Int) = 1 ∨ (17 : Int) = 2 ∨ (17 : Int) = 3)) ∨ (155 = 185 ∧ ((17 : Int) = 1 ∨ (17 : Int) = 2 ∨ (17 : Int) = 3)) := by omega
theorem mw_16 : ∀ j : Int, 4 = 4 := by intro j; omega
theorem mw_17 : ∀ j : Int, (160 ≤ 161 ∧ 161 ≤ 162) := by intro j; omega
theorem mw_18 : ∀ j : Int, (160 ≤ 162 ∧ 162 ≤ 162) := by intro j; omega
theorem mw_19 : (160 ≤ 160 ∧ 160 ≤ 162) := by omega
theorem mw_20 : (50 ≤ 163 ∧ 163 ≤ 154) ∨ (163 = 163 ∧ ((1 : Int) = 1 ∨ (1 : Int) = 2)) := by omega
theorem mw_21 : (50 ≤ 163 ∧ 163 ≤ 154) ∨ (163 = 163 ∧ ((2 : Int) = 1 ∨ (2 : Int) = 2)) := by omega
theorem mw_22 : ∀ j : Int, 0 = 0 ∨ (0 = 167 ∧ (j = 1)) := by intro j; omega
theorem mw_23 : 167 = 0 ∨ (167 = 167 ∧ ((1 : Int) = 1)) := by omega
theorem mw_24 : (167 = 167 ∧ ((1 : Int) = 1)) := by omega
theorem mw_25 : ∀ j : Int, 180 = 180 ∨ (180 = 179 ∧ (j = 2)) := by intro j; omega
theorem mw_26 : 179 = 180 ∨ (179 = 179 ∧ ((2 : Int) = 2)) := by omega
theorem mw_27 : ∀ j : Int, 181 = 181 := by intro j; omega
theorem mw_28 : ∀ j : Int, 180 = 180 := by intro j; omega
theorem mw_29 : ∀ j : Int, 11 = 0 ∨ (8 ≤ 11 ∧ 11 ≤ 14) ∨ (160 ≤ 11 ∧ 11 ≤ 162) ∨ (190 ≤ 11 ∧ 11 ≤ 191) ∨ (195 ≤ 11 ∧ 11 ≤ 196) ∨ (11 = 167 ∧ (j = 1)) := by intro j; omega
theorem mw_30 : ∀ j : Int, 13 = 0 ∨ (8 ≤ 13 ∧ 13 ≤ 14) ∨ (160 ≤ 13 ∧ 13 ≤ 162) ∨ (190 ≤ 13 ∧ 13 ≤ 191) ∨ (195 ≤ 13 ∧ 13 ≤ 196) ∨ (13 = 167 ∧ (j = 1)) := by intro j; omega
theorem mw_31 : (170 ≤ 168 ∧ 168 ≤ 178) ∨ (168 = 168 ∧ ((1 : Int) = 1)) := by omega
theorem mw_32 : ∀ j : Int, (183 ≤ 183 ∧ 183 ≤ 184) ∨ (183 = 182 ∧ (j = 2)) := by intro j; omega
theorem mw_33 : ∀ j : Int, (183 ≤ 184 ∧ 184 ≤ 184) ∨ (184 = 182 ∧ (j = 2)) := by intro j; omega
theorem mw_34 : (183 ≤ 182 ∧ 182 ≤ 184) ∨ (182 = 182 ∧ ((2 : Int) = 2)) := by omega
theorem mw_35 : (182 = 182 ∧ ((2 : Int) = 2)) := by omega
theorem mw_36 : (155 = 155 ∧ ((15 : Int) = 15)) := by omega
theorem mw_37 : 155 = 0 ∨ (8 ≤ 155 ∧ 155 ≤ 14) ∨ (160 ≤ 155 ∧ 155 ≤ 162) ∨ (190 ≤ 155 ∧ 155 ≤ 191) ∨ (195 ≤ 155 ∧ 155 ≤ 196) ∨ (155 = 155 ∧ ((15 : Int) = 15)) ∨ (155 = 167 ∧ ((15 : Int) = 1)) := by omega
theorem mw_38 : ∀ j : Int, (29 ≤ 166 ∧ 166 ≤ 49) ∨ 166 = 166 := by intro j; omega
theorem mw_39 : ∀ j : Int, 7 = 7 ∨ (7 = 1 ∧ (j = 0 ∨ j = 14)) := by intro j; omega
theorem mw_40 : 1 = 7 ∨ (1 = 1 ∧ ((0 : Int) = 0 ∨ (0 : Int) = 14)) := by omega
theorem mw_41 : 1 = 7 ∨ (1 = 1 ∧ ((14 : Int) = 0 ∨ (14 : Int) = 14)) := by omega
theorem mw_42 : (1 = 1 ∧ ((0 : Int) = 0 ∨ (0 : Int) = 14)) := by omega
theorem mw_43 : (1 = 1 ∧ ((14 : Int) = 0 ∨ (14 : Int) = 14)) := by omega
theorem mw_44 : (1 = 1 ∧ ((14 : Int) = 14 ∨ (14 : Int) = 15 ∨ (14 : Int) = 16 ∨ (14 : Int) = 17)) := by omega
theorem mw_45 : (1 = 1 ∧ ((15 : Int) = 14 ∨ (15 : Int) = 15 ∨ (15 : Int) = 16 ∨ (15 : Int) = 17)) := by omega
theorem mw_46 : (1 = 1 ∧ ((17 : Int) = 14 ∨ (17 : Int) = 15 ∨ (17 : Int) = 16 ∨ (17 : Int) = 17)) := by omega
theorem mw_47 : (1 = 1 ∧ ((16 : Int) = 14 ∨ (16 : Int) = 15 ∨ (16 : Int) = 16 ∨ (16 : Int) = 17)) := by omega
theorem mw_48 : (1 = 1 ∧ ((15 : Int) = 15)) := by omega
theorem mw_49 : ∀ j : Int, 8 = 2 ∨ 8 = 5 ∨ 8 = 8 ∨ 8 = 29 ∨ (8 = 1 ∧ (j = 0 ∨ j = 3 ∨ j = 4 ∨ j = 5 ∨ j = 14 ∨ j = 15 ∨ j = 16 ∨ j = 17 ∨ j = 28)) := by intro j; omega
theorem mw_50 : ∀ j : Int, 2 = 2 ∨ 2 = 5 ∨ 2 = 8 ∨ 2 = 29 ∨ (2 = 1 ∧ (j = 0 ∨ j = 3 ∨ j = 4 ∨ j = 5 ∨ j = 14 ∨ j = 15 ∨ j = 16 ∨ j = 17 ∨ j = 28)) := by intro j; omega
theorem mw_51 : ∀ j : Int, 29 = 2 ∨ 29 = 5 ∨ 29 = 8 ∨ 29 = 29 ∨ (29 = 1 ∧ (j = 0 ∨ j = 3 ∨ j = 4 ∨ j = 5 ∨ j = 14 ∨ j = 15 ∨ j = 16 ∨ j = 17 ∨ j = 28)) := by intro j; omega
theorem mw_52 : 1 = 2 ∨ 1 = 5 ∨ 1 = 8 ∨ 1 = 29 ∨ (1 = 1 ∧ ((0 : Int) = 0 ∨ (0 : Int) = 3 ∨ (0 : Int) = 4 ∨ (0 : Int) = 5 ∨ (0 : Int) = 14 ∨ (0 : Int) = 15 ∨ (0 : Int) = 16 ∨ (0 : Int) = 17 ∨ (0 : Int) = 28)) := by omega
theorem mw_53 : 1 = 2 ∨ 1 = 5 ∨ 1 = 8 ∨ 1 = 29 ∨ (1 = 1 ∧ ((3 : Int) = 0 ∨ (3 : Int) = 3 ∨ (3 : Int) = 4 ∨ (3 : Int) = 5 ∨ (3 : Int) = 14 ∨ (3 : Int) = 15 ∨ (3 : Int) = 16 ∨ (3 : Int) = 17 ∨ (3 : Int) = 28)) := by omega
theorem mw_54 : 1 = 2 ∨ 1 = 5 ∨ 1 = 8 ∨ 1 = 29 ∨ (1 = 1 ∧ ((4 : Int) = 0 ∨ (4 : Int) = 3 ∨ (4 : Int) = 4 ∨ (4 : Int) = 5 ∨ (4 : Int) = 14 ∨ (4 : Int) = 15 ∨ (4 : Int) = 16 ∨ (4 : Int) = 17 ∨ (4 : Int) = 28)) := by omega
theorem mw_55 : 1 = 2 ∨ 1 = 5 ∨ 1 = 8 ∨ 1 = 29 ∨ (1 = 1 ∧ ((5 : Int) = 0 ∨ (5 : Int) = 3 ∨ (5 : Int) = 4 ∨ (5 : Int) = 5 ∨ (5 : Int) = 14 ∨ (5 : Int) = 15 ∨ (5 : Int) = 16 ∨ (5 : Int) = 17 ∨ (5 : Int) = 28)) := by omega
theorem mw_56 : 5 = 2 ∨ 5 = 5 ∨ 5 = 8 ∨ 5 = 29 ∨ (5 = 1 ∧ ((12 : Int) = 0 ∨ (12 : Int) = 3 ∨ (12 : Int) = 4 ∨ (12 : Int) = 5 ∨ (12 : Int) = 14 ∨ (12 : Int) = 15 ∨ (12 : Int) = 16 ∨ (12 : Int) = 17 ∨ (12 : Int) = 28)) := by omega
theorem mw_57 : 5 = 2 ∨ 5 = 5 ∨ 5 = 8 ∨ 5 = 29 ∨ (5 = 1 ∧ ((37 : Int) = 0 ∨ (37 : Int) = 3 ∨ (37 : Int) = 4 ∨ (37 : Int) = 5 ∨ (37 : Int) = 14 ∨ (37 : Int) = 15 ∨ (37 : Int) = 16 ∨ (37 : Int) = 17 ∨ (37 : Int) = 28)) := by omega
theorem mw_58 : 1 = 2 ∨ 1 = 5 ∨ 1 = 8 ∨ 1 = 29 ∨ (1 = 1 ∧ ((28 : Int) = 0 ∨ (28 : Int) = 3 ∨ (28 : Int) = 4 ∨ (28 : Int) = 5 ∨ (28 : Int) = 14 ∨ (28 : Int) = 15 ∨ (28 : Int) = 16 ∨ (28 : Int) = 17 ∨ (28 : Int) = 28)) := by omega
theorem mw_59 : (1 = 1 ∧ ((28 : Int) = 6 ∨ (28 : Int) = 28)) := by omega
theorem mw_60 : (1 = 1 ∧ ((6 : Int) = 6 ∨ (6 : Int) = 28)) := by omega
theorem mw_61 : ∀ j : Int, 9 = 9 ∨ (9 = 1 ∧ (j = 15 ∨ j = 20)) := by intro j; omega
theorem mw_62 : 1 = 9 ∨ (1 = 1 ∧ ((20 : Int) = 15 ∨ (20 : Int) = 20)) := by omega
theorem mw_63 : ∀ j : Int, 5 = 5 ∨ 5 = 9 ∨ (5 = 1 ∧ (j = 0 ∨ j = 4 ∨ j = 6 ∨ j = 14 ∨ j = 15 ∨ j = 16 ∨ j = 17 ∨ j = 20 ∨ j = 28)) := by intro j; omega
theorem mw_64 : 1 = 5 ∨ 1 = 9 ∨ (1 = 1 ∧ ((4 : Int) = 0 ∨ (4 : Int) = 4 ∨ (4 : Int) = 6 ∨ (4 : Int) = 14 ∨ (4 : Int) = 15 ∨ (4 : Int) = 16 ∨ (4 : Int) = 17 ∨ (4 : Int) = 20 ∨ (4 : Int) = 28)) := by omega
theorem mw_65 : 1 = 5 ∨ 1 = 9 ∨ (1 = 1 ∧ ((0 : Int) = 0 ∨ (0 : Int) = 4 ∨ (0 : Int) = 6 ∨ (0 : Int) = 14 ∨ (0 : Int) = 15 ∨ (0 : Int) = 16 ∨ (0 : Int) = 17 ∨ (0 : Int) = 20 ∨ (0 : Int) = 28)) := by omega
theorem mw_66 : 1 = 5 ∨ 1 = 9 ∨ (1 = 1 ∧ ((20 : Int) = 0 ∨ (20 : Int) = 4 ∨ (20 : Int) = 6 ∨ (20 : Int) = 14 ∨ (20 : Int) = 15 ∨ (20 : Int) = 16 ∨ (20 : Int) = 17 ∨ (20 : Int) = 20 ∨ (20 : Int) = 28)) := by omega
theorem mw_67 : ∀ j : Int, 5 = 3 ∨ 5 = 5 ∨ 5 = 9 ∨ (5 = 1 ∧ (j = 0 ∨ j = 5 ∨ j = 6 ∨ j = 14 ∨ j = 15 ∨ j = 16 ∨ j = 17 ∨ j = 20 ∨ j = 28)) := by intro j; omega
theorem mw_68 : ∀ j : Int, 3 = 3 ∨ 3 = 5 ∨ 3 = 9 ∨ (3 = 1 ∧ (j = 0 ∨ j = 5 ∨ j = 6 ∨ j = 14 ∨ j = 15 ∨ j = 16 ∨ j = 17 ∨ j = 20 ∨ j = 28)) := by intro j; omega
theorem mw_69 : 1 = 3 ∨ 1 = 5 ∨ 1 = 9 ∨ (1 = 1 ∧ ((5 : Int) = 0 ∨ (5 : Int) = 5 ∨ (5 : Int) = 6 ∨ (5 : Int) = 14 ∨ (5 : Int) = 15 ∨ (5 : Int) = 16 ∨ (5 : Int) = 17 ∨ (5 : Int) = 20 ∨ (5 : Int) = 28)) := by omega
theorem mw_70 : 1 = 3 ∨ 1 = 5 ∨ 1 = 9 ∨ (1 = 1 ∧ ((0 : Int) = 0 ∨ (0 : Int) = 5 ∨ (0 : Int) = 6 ∨ (0 : Int) = 14 ∨ (0 : Int) = 15 ∨ (0 : Int) = 16 ∨ (0 : Int) = 17 ∨ (0 : Int) = 20 ∨ (0 : Int) = 28)) := by omega
theorem mw_71 : 1 = 3 ∨ 1 = 5 ∨ 1 = 9 ∨ (1 = 1 ∧ ((20 : Int) = 0 ∨ (20 : Int) = 5 ∨ (20 : Int) = 6 ∨ (20 : Int) = 14 ∨ (20 : Int) = 15 ∨ (20 : Int) = 16 ∨ (20 : Int) = 17 ∨ (20 : Int) = 20 ∨ (20 : Int) = 28)) := by omega
theorem mw_72 : ∀ j : Int, 10 = 4 ∨ 10 = 10 ∨ (10 = 1 ∧ (j = 0 ∨ j = 7 ∨ j = 14 ∨ j = 15 ∨ j = 16 ∨ j = 17)) := by intro j; omega
theorem mw_73 : ∀ j : Int, 4 = 4 ∨ 4 = 10 ∨ (4 = 1 ∧ (j = 0 ∨ j = 7 ∨ j = 14 ∨ j = 15 ∨ j = 16 ∨ j = 17)) := by intro j; omega
theorem mw_74 : 1 = 4 ∨ 1 = 10 ∨ (1 = 1 ∧ ((0 : Int) = 0 ∨ (0 : Int) = 7 ∨ (0 : Int) = 14 ∨ (0 : Int) = 15 ∨ (0 : Int) = 16 ∨ (0 : Int) = 17)) := by omega
theorem mw_75 : 1 = 4 ∨ 1 = 10 ∨ (1 = 1 ∧ ((7 : Int) = 0 ∨ (7 : Int) = 7 ∨ (7 : Int) = 14 ∨ (7 : Int) = 15 ∨ (7 : Int) = 16 ∨ (7 : Int) = 17)) := by omega
theorem mw_76 : ∀ j : Int, 11 = 11 ∨ (11 = 1 ∧ (j = 24)) := by intro j; omega
theorem mw_77 : 1 = 11 ∨ (1 = 1 ∧ ((24 : Int) = 24)) := by omega
theorem mw_78 : ∀ j : Int, 12 = 12 ∨ (12 = 1 ∧ (j = 25)) := by intro j; omega
theorem mw_79 : 1 = 12 ∨ (1 = 1 ∧ ((25 : Int) = 25)) := by omega
theorem mw_80 : 1 = 12 ∨ (1 = 1 ∧ ((17 : Int) = 15 ∨ (17 : Int) = 17 ∨ (17 : Int) = 25)) := by omega
theorem mw_81 : 1 = 12 ∨ (1 = 1 ∧ ((25 : Int) = 14 ∨ (25 : Int) = 15 ∨ (25 : Int) = 16 ∨ (25 : Int) = 17 ∨ (25 : Int) = 25)) := by omega
theorem mw_82 : (11 ≤ 1 ∧ 1 ≤ 12) ∨ (1 = 1 ∧ ((0 : Int) = 0 ∨ (0 : Int) = 14 ∨ (0 : Int) = 15 ∨ (0 : Int) = 16 ∨ (0 : Int) = 17 ∨ (0 : Int) = 24 ∨ (0 : Int) = 25)) := by omega
theorem mw_83 : ∀ j : Int, 13 = 13 := by intro j; omega
theorem mw_84 : (13 ≤ 14 ∧ 14 ≤ 14) := by omega
theorem mw_85 : (1 = 1 ∧ ((0 : Int) = 0)) := by omega
theorem mw_86 : (13 ≤ 1 ∧ 1 ≤ 14) ∨ (1 = 1 ∧ ((0 : Int) = 0)) := by omega
theorem mw_87 : ∀ j : Int, 5 = 5 ∨ (5 = 1 ∧ (j = 0)) := by intro j; omega
theorem mw_88 : 1 = 5 ∨ (1 = 1 ∧ ((0 : Int) = 0)) := by omega
theorem mw_89 : ∀ j : Int, 5 = 5 ∨ (5 = 1 ∧ (j = 0 ∨ j = 28)) := by intro j; omega
theorem mw_90 : 1 = 5 ∨ (1 = 1 ∧ ((0 : Int) = 0 ∨ (0 : Int) = 28)) := by omega
theorem mw_91 : 1 = 5 ∨ (1 = 1 ∧ ((28 : Int) = 0 ∨ (28 : Int) = 28)) := by omega
theorem mw_92 : ∀ j : Int, 15 = 15 ∨ (15 = 1 ∧ (j = 28)) := by intro j; omega
theorem mw_93 : 1 = 15 ∨ (1 = 1 ∧ ((28 : Int) = 28)) := by omega
theorem mw_94 : ∀ j : Int, 0 = 0 ∨ (0 = 1 ∧ (j = 1)) := by intro j; omega
theorem mw_95 : 1 = 0 ∨ (1 = 1 ∧ ((1 : Int) = 1)) := by omega
theorem mw_96 : ∀ j : Int, 18 = 18 ∨ (18 = 1 ∧ (j = 35)) := by intro j; omega
theorem mw_97 : 1 = 18 ∨ (1 = 1 ∧ ((35 : Int) = 35)) := by omega
theorem mw_98 : ∀ j : Int, 15 = 15 := by intro j; omega
theorem mw_99 : 1 = 0 ∨ 1 = 5 ∨ (13 ≤ 1 ∧ 1 ≤ 18) ∨ (1 = 1 ∧ ((0 : Int) = 0 ∨ (0 : Int) = 1 ∨ (0 : Int) = 28 ∨ (0 : Int) = 30 ∨ (0 : Int) = 31 ∨ (0 : Int) = 35)) := by omega
theorem mw_100 : 1 = 0 ∨ 1 = 5 ∨ (13 ≤ 1 ∧ 1 ≤ 18) ∨ (1 = 1 ∧ ((1 : Int) = 0 ∨ (1 : Int) = 1 ∨ (1 : Int) = 28 ∨ (1 : Int) = 30 ∨ (1 : Int) = 31 ∨ (1 : Int) = 35)) := by omega
theorem mw_101 : 1 = 5 ∨ 1 = 15 ∨ (1 = 1 ∧ ((0 : Int) = 0 ∨ (0 : Int) = 28)) := by omega
theorem mw_102 : ∀ j : Int, 5 = 5 := by intro j; omega
theorem mw_103 : ∀ j : Int, (19 ≤ 19 ∧ 19 ≤ 21) ∨ (19 = 1 ∧ (j = 15 ∨ j = 39)) := by intro j; omega
theorem mw_104 : (19 ≤ 1 ∧ 1 ≤ 21) ∨ (1 = 1 ∧ ((39 : Int) = 15 ∨ (39 : Int) = 39)) := by omega
theorem mw_105 : ∀ j : Int, (19 ≤ 20 ∧ 20 ≤ 21) ∨ (20 = 1 ∧ (j = 15 ∨ j = 39)) := by intro j; omega
theorem mw_106 : ∀ j : Int, (19 ≤ 21 ∧ 21 ≤ 21) ∨ (21 = 1 ∧ (j = 15 ∨ j = 39)) := by intro j; omega
theorem mw_107 : 1 = 0 ∨ 1 = 5 ∨ (13 ≤ 1 ∧ 1 ≤ 21) ∨ (1 = 1 ∧ ((0 : Int) = 0 ∨ (0 : Int) = 1 ∨ (0 : Int) = 14 ∨ (0 : Int) = 15 ∨ (0 : Int) = 16 ∨ (0 : Int) = 17 ∨ (0 : Int) = 28 ∨ (0 : Int) = 30 ∨ (0 : Int) = 31 ∨ (0 : Int) = 35 ∨ (0 : Int) = 39)) := by omega
theorem mw_108 : 1 = 0 ∨ 1 = 5 ∨ (13 ≤ 1 ∧ 1 ≤ 21) ∨ (1 = 1 ∧ ((39 : Int) = 0 ∨ (39 : Int) = 1 ∨ (39 : Int) = 14 ∨ (39 : Int) = 15 ∨ (39 : Int) = 16 ∨ (39 : Int) = 17 ∨ (39 : Int) = 28 ∨ (39 : Int) = 30 ∨ (39 : Int) = 31 ∨ (39 : Int) = 35 ∨ (39 : Int) = 39)) := by omega
theorem mw_109 : 1 = 0 ∨ 1 = 5 ∨ (13 ≤ 1 ∧ 1 ≤ 21) ∨ (1 = 1 ∧ ((1 : Int) = 0 ∨ (1 : Int) = 1 ∨ (1 : Int) = 14 ∨ (1 : Int) = 15 ∨ (1 : Int) = 16 ∨ (1 : Int) = 17 ∨ (1 : Int) = 28 ∨ (1 : Int) = 30 ∨ (1 : Int) = 31 ∨ (1 : Int) = 35 ∨ (1 : Int) = 39)) := by omega
theorem mw_110 : 1 = 0 ∨ 1 = 18 ∨ (1 = 1 ∧ ((0 : Int) = 0 ∨ (0 : Int) = 1 ∨ (0 : Int) = 35)) := by omega
theorem mw_111 : 1 = 0 ∨ 1 = 18 ∨ (1 = 1 ∧ ((1 : Int) = 0 ∨ (1 : Int) = 1 ∨ (1 : Int) = 35)) := by omega
theorem mw_112 : ∀ j : Int, 6 = 6 := by intro j; omega
theorem mw_113 : 1 = 0 ∨ 1 = 6 ∨ (13 ≤ 1 ∧ 1 ≤ 14) ∨ (16 ≤ 1 ∧ 1 ≤ 18) ∨ (1 = 1 ∧ ((0 : Int) = 0 ∨ (0 : Int) = 1 ∨ (0 : Int) = 30 ∨ (0 : Int) = 31 ∨ (0 : Int) = 35)) := by omega
theorem mw_114 : 1 = 0 ∨ 1 = 6 ∨ (13 ≤ 1 ∧ 1 ≤ 14) ∨ (16 ≤ 1 ∧ 1 ≤ 18) ∨ (1 = 1 ∧ ((1 : Int) = 0 ∨ (1 : Int) = 1 ∨ (1 : Int) = 30 ∨ (1 : Int) = 31 ∨ (1 : Int) = 35)) := by omega
theorem mw_115 : ∀ j : Int, 22 = 6 ∨ (13 ≤ 22 ∧ 22 ≤ 14) ∨ (16 ≤ 22 ∧ 22 ≤ 18) ∨ (22 ≤ 22 ∧ 22 ≤ 23) ∨ (22 = 1 ∧ (j = 30 ∨ j = 31 ∨ j = 35 ∨ j = 42)) := by intro j; omega
theorem mw_116 : ∀ j : Int, 6 = 6 ∨ (13 ≤ 6 ∧ 6 ≤ 14) ∨ (16 ≤ 6 ∧ 6 ≤ 18) ∨ (22 ≤ 6 ∧ 6 ≤ 23) ∨ (6 = 1 ∧ (j = 30 ∨ j = 31 ∨ j = 35 ∨ j = 42)) := by intro j; omega
theorem mw_117 : ∀ j : Int, 23 = 6 ∨ (13 ≤ 23 ∧ 23 ≤ 14) ∨ (16 ≤ 23 ∧ 23 ≤ 18) ∨ (22 ≤ 23 ∧ 23 ≤ 23) ∨ (23 = 1 ∧ (j = 30 ∨ j = 31 ∨ j = 35 ∨ j = 42)) := by intro j; omega
theorem mw_118 : 1 = 6 ∨ (13 ≤ 1 ∧ 1 ≤ 14) ∨ (16 ≤ 1 ∧ 1 ≤ 18) ∨ (22 ≤ 1 ∧ 1 ≤ 23) ∨ (1 = 1 ∧ ((42 : Int) = 30 ∨ (42 : Int) = 31 ∨ (42 : Int) = 35 ∨ (42 : Int) = 42)) := by omega
theorem mw_119 : 1 = 0 ∨ 1 = 6 ∨ (13 ≤ 1 ∧ 1 ≤ 14) ∨ (16 ≤ 1 ∧ 1 ≤ 18) ∨ (22 ≤ 1 ∧ 1 ≤ 23) ∨ (1 = 1 ∧ ((0 : Int) = 0 ∨ (0 : Int) = 1 ∨ (0 : Int) = 30 ∨ (0 : Int) = 31 ∨ (0 : Int) = 35 ∨ (0 : Int) = 42)) := by omega
theorem mw_120 : 1 = 0 ∨ 1 = 6 ∨ (13 ≤ 1 ∧ 1 ≤ 14) ∨ (16 ≤ 1 ∧ 1 ≤ 18) ∨ (22 ≤ 1 ∧ 1 ≤ 23) ∨ (1 = 1 ∧ ((42 : Int) = 0 ∨ (42 : Int) = 1 ∨ (42 : Int) = 30 ∨ (42 : Int) = 31 ∨ (42 : Int) = 35 ∨ (42 : Int) = 42)) := by omega
theorem mw_121 : 1 = 0 ∨ 1 = 6 ∨ (13 ≤ 1 ∧ 1 ≤ 14) ∨ (16 ≤ 1 ∧ 1 ≤ 18) ∨ (22 ≤ 1 ∧ 1 ≤ 23) ∨ (1 = 1 ∧ ((1 : Int) = 0 ∨ (1 : Int) = 1 ∨ (1 : Int) = 30 ∨ (1 : Int) = 31 ∨ (1 : Int) = 35 ∨ (1 : Int) = 42)) := by omega
theorem mw_122 : ∀ j : Int, 6 = 0 ∨ 6 = 6 ∨ (13 ≤ 6 ∧ 6 ≤ 14) ∨ (16 ≤ 6 ∧ 6 ≤ 18) ∨ (6 = 1 ∧ (j = 0 ∨ j = 1 ∨ j = 30 ∨ j = 31 ∨ j = 35)) := by intro j; omega
theorem mw_123 : ∀ j : Int, (24 ≤ 24 ∧ 24 ≤ 25) ∨ (24 = 1 ∧ (j = 42)) := by intro j; omega
theorem mw_124 : ∀ j : Int, (24 ≤ 25 ∧ 25 ≤ 25) ∨ (25 = 1 ∧ (j = 42)) := by intro j; omega
theorem mw_125 : (24 ≤ 1 ∧ 1 ≤ 25) ∨ (1 = 1 ∧ ((42 : Int) = 42)) := by omega
theorem mw_126 : 1 = 0 ∨ (24 ≤ 1 ∧ 1 ≤ 25) ∨ (1 = 1 ∧ ((0 : Int) = 0 ∨ (0 : Int) = 1 ∨ (0 : Int) = 42)) := by omega
theorem mw_127 : 1 = 0 ∨ (24 ≤ 1 ∧ 1 ≤ 25) ∨ (1 = 1 ∧ ((42 : Int) = 0 ∨ (42 : Int) = 1 ∨ (42 : Int) = 42)) := by omega
theorem mw_128 : 1 = 0 ∨ (24 ≤ 1 ∧ 1 ≤ 25) ∨ (1 = 1 ∧ ((1 : Int) = 0 ∨ (1 : Int) = 1 ∨ (1 : Int) = 42)) := by omega
theorem mw_129 : 1 = 0 ∨ (1 = 1 ∧ ((0 : Int) = 0 ∨ (0 : Int) = 1)) := by omega
theorem mw_130 : 1 = 0 ∨ (1 = 1 ∧ ((1 : Int) = 0 ∨ (1 : Int) = 1)) := by omega
theorem mw_131 : (26 ≤ 1 ∧ 1 ≤ 27) ∨ (1 = 1 ∧ ((0 : Int) = 0 ∨ (0 : Int) = 45)) := by omega
theorem mw_132 : ∀ j : Int, (26 ≤ 26 ∧ 26 ≤ 27) ∨ (26 = 1 ∧ (j = 0 ∨ j = 45)) := by intro j; omega
theorem mw_133 : ∀ j : Int, (26 ≤ 27 ∧ 27 ≤ 27) ∨ (27 = 1 ∧ (j = 0 ∨ j = 45)) := by intro j; omega
theorem mw_134 : (26 ≤ 1 ∧ 1 ≤ 27) ∨ (1 = 1 ∧ ((45 : Int) = 0 ∨ (45 : Int) = 45)) := by omega
theorem mw_135 : (1 = 1 ∧ ((0 : Int) = 0 ∨ (0 : Int) = 45)) := by omega
theorem mw_136 : (1 = 1 ∧ ((45 : Int) = 0 ∨ (45 : Int) = 45)) := by omega
theorem mw_137 : ∀ j : Int, 28 = 0 ∨ 28 = 6 ∨ (11 ≤ 28 ∧ 28 ≤ 14) ∨ (16 ≤ 28 ∧ 28 ≤ 18) ∨ 28 = 28 ∨ (28 = 1 ∧ (j = 0 ∨ j = 1 ∨ j = 14 ∨ j = 15 ∨ j = 16 ∨ j = 17 ∨ j = 24 ∨ j = 25 ∨ j = 30 ∨ j = 31 ∨ j = 35)) := by intro j; omega
theorem mw_138 : 1 = 0 ∨ 1 = 6 ∨ (11 ≤ 1 ∧ 1 ≤ 14) ∨ (16 ≤ 1 ∧ 1 ≤ 18) ∨ 1 = 28 ∨ (1 = 1 ∧ ((0 : Int) = 0 ∨ (0 : Int) = 1 ∨ (0 : Int) = 14 ∨ (0 : Int) = 15 ∨ (0 : Int) = 16 ∨ (0 : Int) = 17 ∨ (0 : Int) = 24 ∨ (0 : Int) = 25 ∨ (0 : Int) = 30 ∨ (0 : Int) = 31 ∨ (0 : Int) = 35)) := by omega
theorem mw_139 : 1 = 0 ∨ 1 = 6 ∨ (11 ≤ 1 ∧ 1 ≤ 14) ∨ (16 ≤ 1 ∧ 1 ≤ 18) ∨ 1 = 28 ∨ (1 = 1 ∧ ((1 : Int) = 0 ∨ (1 : Int) = 1 ∨ (1 : Int) = 14 ∨ (1 : Int) = 15 ∨ (1 : Int) = 16 ∨ (1 : Int) = 17 ∨ (1 : Int) = 24 ∨ (1 : Int) = 25 ∨ (1 : Int) = 30 ∨ (1 : Int) = 31 ∨ (1 : Int) = 35)) := by omega
theorem mw_140 : (1 = 1 ∧ ((49 : Int) = 49)) := by omega
theorem mw_141 : 1 = 0 ∨ 1 = 6 ∨ (13 ≤ 1 ∧ 1 ≤ 14) ∨ (16 ≤ 1 ∧ 1 ≤ 18) ∨ (1 = 1 ∧ ((0 : Int) = 0 ∨ (0 : Int) = 1 ∨ (0 : Int) = 30 ∨ (0 : Int) = 31 ∨ (0 : Int) = 35 ∨ (0 : Int) = 49)) := by omega
theorem mw_142 : 1 = 0 ∨ 1 = 6 ∨ (13 ≤ 1 ∧ 1 ≤ 14) ∨ (16 ≤ 1 ∧ 1 ≤ 18) ∨ (1 = 1 ∧ ((49 : Int) = 0 ∨ (49 : Int) = 1 ∨ (49 : Int) = 30 ∨ (49 : Int) = 31 ∨ (49 : Int) = 35 ∨ (49 : Int) = 49)) := by omega
theorem mw_143 : 1 = 0 ∨ 1 = 6 ∨ (13 ≤ 1 ∧ 1 ≤ 14) ∨ (16 ≤ 1 ∧ 1 ≤ 18) ∨ (1 = 1 ∧ ((1 : Int) = 0 ∨ (1 : Int) = 1 ∨ (1 : Int) = 30 ∨ (1 : Int) = 31 ∨ (1 : Int) = 35 ∨ (1 : Int) = 49)) := by omega
theorem mw_144 : ∀ j : Int, (29 ≤ 31 ∧ 31 ≤ 31) ∨ (31 = 1 ∧ (j = 0)) := by intro j; omega
theorem mw_145 : (29 ≤ 1 ∧ 1 ≤ 31) ∨ (1 = 1 ∧ ((0 : Int) = 0)) := by omega
theorem mw_146 : ∀ j : Int, (29 ≤ 29 ∧ 29 ≤ 31) ∨ (29 = 1 ∧ (j = 0)) := by intro j; omega
theorem mw_147 : ∀ j : Int, (29 ≤ 30 ∧ 30 ≤ 31) ∨ (30 = 1 ∧ (j = 0)) := by intro j; omega
