/-! SPECS of the reference: its boxes -/
def FrJ (P : Nat → Int → Prop) (M M' : Mem) : Prop := ∀ k j, ¬ P k j → M' k j = M k j
theorem FrJ.rf {P : Nat → Int → Prop} {M : Mem} : FrJ P M M := fun _ _ _ => rfl
theorem FrJ.tr {P : Nat → Int → Prop} {M M1 M2 : Mem} (h : FrJ P M M1) (h2 : FrJ P M1 M2) : FrJ P M M2 := fun i j hi => (h2 i j hi).trans (h i j hi)
theorem FrJ.mono {P P' : Nat → Int → Prop} {M M' : Mem} (h : FrJ P M M') (hP : ∀ i j, P i j → P' i j) : FrJ P' M M' := fun i j hi => h i j (fun q => hi (hP i j q))
theorem FrJ.up {P : Nat → Int → Prop} {M M' : Mem} (h : FrJ P M M') {k : Nat} {j v : Int} (hk : P k j) : FrJ P M (up2 M' k j v) := fun i j' hi => by
  rw [up2_a]
  by_cases c : i = k
  · by_cases c2 : j' = j
    · exact absurd (by rw [c, c2]; exact hk) hi
    · rw [if_pos c, if_neg c2]; exact h i j' hi
  · rw [if_neg c]; exact h i j' hi
abbrev isN (k : Nat) : Prop := k = 5 ∨ k = 6
/-- a number of a scene of the reference, by its place -/
def BN (b j v : Int) : Prop := (0 ≤ j ∧ j ≤ 5 → -1 ≤ v ∧ v ≤ 29) ∧ (13 ≤ j ∧ j ≤ 20 → -1 ≤ v ∧ v ≤ 29) ∧ (21 ≤ j ∧ j ≤ 28 → -1 ≤ v ∧ v ≤ 5) ∧ (j = 37 → 0 ≤ v ∧ v ≤ b)
theorem BN.mono {b b' j v : Int} (h : BN b j v) (hb : b ≤ b') : BN b' j v := ⟨h.1, h.2.1, h.2.2.1, fun c => ⟨(h.2.2.2 c).1, by have := (h.2.2.2 c).2; omega⟩⟩
def BM (b : Int) (k : Nat) (j v : Int) : Prop := if k = 5 ∨ k = 6 then BN b j v else if k = 15 ∨ k = 31 then BN b (j % 38) v else if k = 1 then (if j = 1 then 0 ≤ v ∧ v ≤ 24 else if j = 3 then 4 ≤ v ∧ v ≤ 30 else if j = 4 then 0 ≤ v ∧ v ≤ 6 else if j = 5 then 0 ≤ v ∧ v ≤ 8 else if j = 6 then 0 ≤ v ∧ v ≤ b else if j = 7 then 1 ≤ v ∧ v ≤ 20 else if j = 14 then 0 ≤ v ∧ v ≤ 80 else if j = 15 then 0 ≤ v ∧ v ≤ 80 else if j = 16 then 0 ≤ v ∧ v ≤ 80 else if j = 20 then 0 ≤ v ∧ v ≤ 8 else if j = 24 then 0 ≤ v ∧ v ≤ 80 else if j = 25 then 0 ≤ v ∧ v ≤ 80 else if j = 28 then 0 ≤ v ∧ v ≤ 15 else if j = 35 then 0 ≤ v ∧ v ≤ 6 else if j = 39 then 0 ≤ v ∧ v ≤ 60 else if j = 45 then 0 ≤ v ∧ v ≤ 8 else True) else if k = 3 then 0 ≤ v ∧ v ≤ 5 else if k = 7 then 0 ≤ v ∧ v ≤ 255 else if k = 8 then 0 ≤ v ∧ v ≤ 1 else if k = 9 then -1 ≤ v ∧ v ≤ 29 else if k = 18 then 0 ≤ v ∧ v ≤ 5 else if k = 20 then -1 ≤ v ∧ v ≤ 9 else if k = 21 then -100 ≤ v ∧ v ≤ 300 else if k = 22 then -1 ≤ v ∧ v ≤ 29 else True
theorem bm_n {b : Int} {k : Nat} (h : isN k) {j v : Int} : BM b k j v ↔ BN b j v := by unfold BM; rw [if_pos h]
theorem bm_c15 {b j v : Int} : BM b 15 j v ↔ BN b (j % 38) v := by simp [BM]
theorem bm_c31 {b j v : Int} : BM b 31 j v ↔ BN b (j % 38) v := by simp [BM]
theorem bm_c1_1 {b v : Int} : BM b 1 1 v ↔ (0 ≤ v ∧ v ≤ 24) := by simp [BM]
theorem bm_c1_3 {b v : Int} : BM b 1 3 v ↔ (4 ≤ v ∧ v ≤ 30) := by simp [BM]
theorem bm_c1_4 {b v : Int} : BM b 1 4 v ↔ (0 ≤ v ∧ v ≤ 6) := by simp [BM]
theorem bm_c1_5 {b v : Int} : BM b 1 5 v ↔ (0 ≤ v ∧ v ≤ 8) := by simp [BM]
theorem bm_c1_6 {b v : Int} : BM b 1 6 v ↔ (0 ≤ v ∧ v ≤ b) := by simp [BM]
theorem bm_c1_7 {b v : Int} : BM b 1 7 v ↔ (1 ≤ v ∧ v ≤ 20) := by simp [BM]
theorem bm_c1_14 {b v : Int} : BM b 1 14 v ↔ (0 ≤ v ∧ v ≤ 80) := by simp [BM]
theorem bm_c1_15 {b v : Int} : BM b 1 15 v ↔ (0 ≤ v ∧ v ≤ 80) := by simp [BM]
theorem bm_c1_16 {b v : Int} : BM b 1 16 v ↔ (0 ≤ v ∧ v ≤ 80) := by simp [BM]
theorem bm_c1_20 {b v : Int} : BM b 1 20 v ↔ (0 ≤ v ∧ v ≤ 8) := by simp [BM]
theorem bm_c1_24 {b v : Int} : BM b 1 24 v ↔ (0 ≤ v ∧ v ≤ 80) := by simp [BM]
theorem bm_c1_25 {b v : Int} : BM b 1 25 v ↔ (0 ≤ v ∧ v ≤ 80) := by simp [BM]
theorem bm_c1_28 {b v : Int} : BM b 1 28 v ↔ (0 ≤ v ∧ v ≤ 15) := by simp [BM]
theorem bm_c1_35 {b v : Int} : BM b 1 35 v ↔ (0 ≤ v ∧ v ≤ 6) := by simp [BM]
theorem bm_c1_39 {b v : Int} : BM b 1 39 v ↔ (0 ≤ v ∧ v ≤ 60) := by simp [BM]
theorem bm_c1_45 {b v : Int} : BM b 1 45 v ↔ (0 ≤ v ∧ v ≤ 8) := by simp [BM]
theorem bm_c3 {b j v : Int} : BM b 3 j v ↔ (0 ≤ v ∧ v ≤ 5) := by simp [BM]
theorem bm_c7 {b j v : Int} : BM b 7 j v ↔ (0 ≤ v ∧ v ≤ 255) := by simp [BM]
theorem bm_c8 {b j v : Int} : BM b 8 j v ↔ (0 ≤ v ∧ v ≤ 1) := by simp [BM]
theorem bm_c9 {b j v : Int} : BM b 9 j v ↔ (-1 ≤ v ∧ v ≤ 29) := by simp [BM]
theorem bm_c18 {b j v : Int} : BM b 18 j v ↔ (0 ≤ v ∧ v ≤ 5) := by simp [BM]
theorem bm_c20 {b j v : Int} : BM b 20 j v ↔ (-1 ≤ v ∧ v ≤ 9) := by simp [BM]
theorem bm_c21 {b j v : Int} : BM b 21 j v ↔ (-100 ≤ v ∧ v ≤ 300) := by simp [BM]
theorem bm_c22 {b j v : Int} : BM b 22 j v ↔ (-1 ≤ v ∧ v ≤ 29) := by simp [BM]
/-- how many wait after n rows of code -/
def dpc (f : Int → Int) : Nat → Int
  | 0 => 0
  | n + 1 => dpc f n + (if f n = 3000 then 0 else if f n < 2000 then 1 else -1)
/-- code that can be worked: nothing is taken that does not wait, letters are seven -/
def WFC (f : Int → Int) (n : Int) : Prop := ∀ j : Nat, (j : Int) < n → (f j = 3000 → 1 ≤ dpc f j) ∧ (2000 ≤ f j → f j ≠ 3000 → 2 ≤ dpc f j) ∧ (1000 ≤ f j → f j < 2000 → f j < 1007)
def IB (b : Int) (M : Mem) : Prop := ∀ k j, BM b k j (M k j)
def IM (b : Int) (M : Mem) : Prop := IB b M ∧ WFC (M 11) (M 1 24)
theorem IM.bx {b : Int} {M : Mem} (h : IM b M) (k : Nat) (j : Int) : BM b k j (M k j) := h.1 k j
theorem IB.up {b : Int} {M : Mem} (h : IB b M) {k : Nat} {j v : Int} (hv : BM b k j v) : IB b (up2 M k j v) := by
  intro k' j'
  rw [up2_a]
  by_cases c : k' = k
  · rw [if_pos c]
    by_cases c2 : j' = j
    · rw [if_pos c2, c, c2]; exact hv
    · rw [if_neg c2]; exact h k' j'
  · rw [if_neg c]; exact h k' j'
theorem IM.up {b : Int} {M : Mem} (h : IM b M) {k : Nat} {j v : Int} (hs : k ≠ 11 ∧ (k = 1 → j ≠ 24)) (hv : BM b k j v) : IM b (up2 M k j v) := by
  refine ⟨h.1.up hv, ?_⟩
  have h2 : up2 M k j v 1 24 = M 1 24 := by
    rw [up2_a]
    by_cases c : (1 : Nat) = k
    · rw [if_pos c, if_neg (fun q => hs.2 c.symm q.symm)]
    · rw [if_neg c]
  rw [up2_n (fun q => hs.1 q.symm), h2]
  exact h.2
theorem IB.mono {b b' : Int} {M : Mem} (h : IB b M) (hb : b ≤ b') : IB b' M := by
  intro k j
  by_cases c : isN k
  · exact (bm_n c).mpr (((bm_n c).mp (h k j)).mono hb)
  · by_cases c15 : k = 15
    · subst c15; exact bm_c15.mpr ((bm_c15.mp (h 15 j)).mono hb)
    · by_cases c31 : k = 31
      · subst c31; exact bm_c31.mpr ((bm_c31.mp (h 31 j)).mono hb)
      · by_cases c6 : k = 1 ∧ j = 6
        · obtain ⟨rfl, rfl⟩ := c6
          have := bm_c1_6.mp (h 1 6)
          exact bm_c1_6.mpr ⟨by omega, by omega⟩
        · have q := h k j
          unfold BM at q ⊢
          rw [if_neg c, if_neg (by omega)] at q ⊢
          by_cases c1 : k = 1
          · rw [if_pos c1] at q ⊢
            by_cases d6 : j = 6
            · exact absurd ⟨c1, d6⟩ c6
            · rw [if_neg d6] at *
              exact q
          · rw [if_neg c1] at q ⊢
            exact q
theorem IM.mono {b b' : Int} {M : Mem} (h : IM b M) (hb : b ≤ b') : IM b' M := ⟨h.1.mono hb, h.2⟩
theorem IM.nn {b : Int} {M : Mem} (h : IM b M) : 0 ≤ b := by have := bm_c1_6.mp (h.1 1 6); omega
theorem sJ6_bitCountM {p0 b : Int} {M : Mem} {Q : Int → Mem → Prop} (hI : IM b M) (hQ : ∀ z : Int, (0 ≤ z ∧ z ≤ 63) → Q z M) : qJ6_bitCount_0f7a4 p0 M Q := by
  unfold qJ6_bitCount_0f7a4
  intro x1 _ _ x2 _ _ x3 _ _ x4 _ _ x5 _ _ x6 _ _ x7 _ _ x8 _ _ x9 _ _ x10 e10 _
  exact hQ _ (by rw [e10]; exact aI_63 _)
