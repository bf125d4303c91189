/-! FRAMES, by program out of the weakest preconditions: what a method does not write stays -/
def Ks (P : Nat → Int → Prop) (M M' : Mem) : Prop := ∀ k j, ¬ P k j → M' k j = M k j
theorem Ks.rf {P : Nat → Int → Prop} {M : Mem} : Ks P M M := fun _ _ _ => rfl
theorem Ks.tr {P : Nat → Int → Prop} {M M1 M2 : Mem} (h : Ks P M M1) (h2 : Ks P M1 M2) : Ks P M M2 := fun i j hi => (h2 i j hi).trans (h i j hi)
theorem Ks.mono {P P' : Nat → Int → Prop} {M M' : Mem} (h : Ks P M M') (hP : ∀ k j, P k j → P' k j) : Ks P' M M' := fun i j hi => h i j (fun q => hi (hP i j q))
theorem Ks.wr {P : Nat → Int → Prop} {M M' : Mem} (h : Ks P M M') {k : Nat} {j v : Int} (hk : P k j) : Ks P M (up2 M' k j v) := fun i j' hi => by
  have hn : ¬ (i = k ∧ j' = j) := fun q => hi (by rw [q.1, q.2]; exact hk)
  unfold up2
  by_cases c : i = k
  · rw [if_pos c]
    unfold up
    rw [if_neg (fun q => hn ⟨c, q⟩), ← c]
    exact h i j' hi
  · rw [if_neg c]
    exact h i j' hi
theorem Ks.cp {P : Nat → Int → Prop} {M M' : Mem} (h : Ks P M M') {a b : Nat} {n : Int} (hk : ∀ j, P b j) : Ks P M (cp2 M' a b n) := fun i j' hi => by
  have hn : i ≠ b := fun q => hi (by rw [q]; exact hk j')
  unfold cp2
  rw [if_neg hn]
  exact h i j' hi
