/-! SPECS of the class: the small methods. Safety: no machine throw, invariants kept. -/
theorem up2_a (M : Mem) (k : Nat) (j v : Int) (k' : Nat) (j' : Int) : up2 M k j v k' j' = if k' = k then (if j' = j then v else M k' j') else M k' j' := by
  unfold up2 up
  by_cases h : k' = k
  · subst h; simp
  · simp [h]
theorem up2_n {M : Mem} {k : Nat} {j v : Int} {k' : Nat} (h : k' ≠ k) : up2 M k j v k' = M k' := by
  unfold up2
  rw [if_neg h]
theorem up2_s (M : Mem) (k : Nat) (j v : Int) : up2 M k j v k j = v := by unfold up2 up; simp
theorem up2_j {M : Mem} {k : Nat} {j v : Int} {j' : Int} (h : j' ≠ j) : up2 M k j v k j' = M k j' := by unfold up2 up; simp [h]
theorem cp2_n {M : Mem} {a b : Nat} {n : Int} {k : Nat} (h : k ≠ b) : cp2 M a b n k = M k := by unfold cp2; rw [if_neg h]
theorem cp2_s {M : Mem} {a b : Nat} {n : Int} {j : Int} (h0 : 0 ≤ j) (h1 : j < n) : cp2 M a b n b j = M a j := by unfold cp2 cpy; rw [if_pos rfl, if_pos ⟨h0, h1⟩]
/-- rows outside P are as before -/
def Fr (P : Nat → Prop) (M M' : Mem) : Prop := ∀ i, ¬ P i → M' i = M i
theorem Fr.rf {P : Nat → Prop} {M : Mem} : Fr P M M := fun _ _ => rfl
theorem Fr.tr {P : Nat → Prop} {M M1 M2 : Mem} (h : Fr P M M1) (h2 : Fr P M1 M2) : Fr P M M2 := fun i hi => (h2 i hi).trans (h i hi)
theorem Fr.mono {P P' : Nat → Prop} {M M' : Mem} (h : Fr P M M') (hP : ∀ i, P i → P' i) : Fr P' M M' := fun i hi => h i (fun q => hi (hP i q))
theorem Fr.up {P : Nat → Prop} {M M' : Mem} (h : Fr P M M') {k : Nat} {j v : Int} (hk : P k) : Fr P M (up2 M' k j v) := fun i hi => by
  rw [up2_n (fun q => hi (by rw [q]; exact hk))]
  exact h i hi
theorem Fr.cp {P : Nat → Prop} {M M' : Mem} (h : Fr P M M') {a b : Nat} {n : Int} (hk : P b) : Fr P M (cp2 M' a b n) := fun i hi => by
  rw [cp2_n (fun q => hi (by rw [q]; exact hk))]
  exact h i hi
-- bits
theorem oI_R (a b : Int) : iR (oI a b) := toInt_R _
theorem aI_255 (a : Int) : 0 ≤ aI a 255 ∧ aI a 255 ≤ 255 := by
  obtain ⟨j, hj, e⟩ := pk_andE (iI a) (m := 255) 8 (by decide)
  have h : aI a 255 = (nI j).toInt := by
    unfold aI
    rw [show iI 255 = (255 : Int32) from rfl, ← e]
  rw [h]
  have h2 : (nI j).toInt = j := iI_toInt (z := (j : Int)) ⟨by omega, by omega⟩
  rw [h2]
  omega
def BX (k : Nat) (j v : Int) : Prop := if k = 0 then True else if k < 155 then (if (k - 1) % 7 = 0 then (if j = 6 then 0 ≤ v ∧ v ≤ 6 else if j = 7 then 0 ≤ v ∧ v ≤ 8 else True) else if (k - 1) % 7 = 1 then -1 ≤ v ∧ v ≤ 29 else if (k - 1) % 7 = 3 then -1 ≤ v ∧ v ≤ 29 else if (k - 1) % 7 = 4 then 0 ≤ v ∧ v ≤ 5 else if (k - 1) % 7 = 5 then -1 ≤ v ∧ v ≤ 5 else True) else if k = 156 then (if j = 1 then 0 ≤ v ∧ v ≤ 80 else if j = 2 then 0 ≤ v ∧ v ≤ 80 else if j = 3 then 0 ≤ v ∧ v ≤ 80 else True) else if k = 157 then 0 ≤ v ∧ v ≤ 255 else if k = 158 then (if j = 1 then 4 ≤ v ∧ v ≤ 30 else if j = 3 then 0 ≤ v ∧ v ≤ 20 else True) else if k = 163 then (if j = 1 then 0 ≤ v ∧ v ≤ 14 else if j = 2 then 0 ≤ v ∧ v ≤ 15 else True) else if k = 167 then (if j = 1 then 0 ≤ v ∧ v ≤ 8 else True) else if k = 168 then (if j = 1 then 0 ≤ v ∧ v ≤ 30 else True) else if k = 179 then (if j = 2 then 0 ≤ v ∧ v ≤ 6 else True) else if k = 180 then 0 ≤ v ∧ v ≤ 29 else if k = 182 then (if j = 2 then 0 ≤ v ∧ v ≤ 8 else True) else if k = 185 then (if j = 1 then 0 ≤ v ∧ v ≤ 40 else if j = 2 then 0 ≤ v ∧ v ≤ 4 else True) else if 170 ≤ k ∧ k ≤ 178 then 0 ≤ v ∧ v ≤ 178 - (k : Int) else if k = 187 ∨ k = 192 then (if j = 4 then 0 ≤ v ∧ v ≤ 40 else True) else True
theorem bx_c156_1 {v : Int} : BX 156 1 v ↔ (0 ≤ v ∧ v ≤ 80) := by simp [BX]
theorem bx_c156_2 {v : Int} : BX 156 2 v ↔ (0 ≤ v ∧ v ≤ 80) := by simp [BX]
theorem bx_c156_3 {v : Int} : BX 156 3 v ↔ (0 ≤ v ∧ v ≤ 80) := by simp [BX]
theorem bx_c157 {j v : Int} : BX 157 j v ↔ (0 ≤ v ∧ v ≤ 255) := by simp [BX]
theorem bx_c158_1 {v : Int} : BX 158 1 v ↔ (4 ≤ v ∧ v ≤ 30) := by simp [BX]
theorem bx_c158_3 {v : Int} : BX 158 3 v ↔ (0 ≤ v ∧ v ≤ 20) := by simp [BX]
theorem bx_c163_1 {v : Int} : BX 163 1 v ↔ (0 ≤ v ∧ v ≤ 14) := by simp [BX]
theorem bx_c163_2 {v : Int} : BX 163 2 v ↔ (0 ≤ v ∧ v ≤ 15) := by simp [BX]
theorem bx_c167_1 {v : Int} : BX 167 1 v ↔ (0 ≤ v ∧ v ≤ 8) := by simp [BX]
theorem bx_c168_1 {v : Int} : BX 168 1 v ↔ (0 ≤ v ∧ v ≤ 30) := by simp [BX]
theorem bx_c179_2 {v : Int} : BX 179 2 v ↔ (0 ≤ v ∧ v ≤ 6) := by simp [BX]
theorem bx_c180 {j v : Int} : BX 180 j v ↔ (0 ≤ v ∧ v ≤ 29) := by simp [BX]
theorem bx_c182_2 {v : Int} : BX 182 2 v ↔ (0 ≤ v ∧ v ≤ 8) := by simp [BX]
theorem bx_c185_1 {v : Int} : BX 185 1 v ↔ (0 ≤ v ∧ v ≤ 40) := by simp [BX]
theorem bx_c185_2 {v : Int} : BX 185 2 v ↔ (0 ≤ v ∧ v ≤ 4) := by simp [BX]
theorem bx_s0_6 {k : Nat} (h : isS k) {v : Int} : BX k 6 v ↔ (0 ≤ v ∧ v ≤ 6) := by have h2 : 0 < k ∧ k < 155 ∧ (k - 1) % 7 = 0 := h; unfold BX; rw [if_neg (by omega), if_pos (by omega), if_pos (by omega)]; simp
theorem bx_s0_7 {k : Nat} (h : isS k) {v : Int} : BX k 7 v ↔ (0 ≤ v ∧ v ≤ 8) := by have h2 : 0 < k ∧ k < 155 ∧ (k - 1) % 7 = 0 := h; unfold BX; rw [if_neg (by omega), if_pos (by omega), if_pos (by omega)]; simp
theorem bx_sf0 {k : Nat} (h : isS k) {j v : Int} (h6 : j ≠ 6) (h7 : j ≠ 7) : BX k j v := by have h2 : 0 < k ∧ k < 155 ∧ (k - 1) % 7 = 0 := h; unfold BX; rw [if_neg (by omega), if_pos (by omega), if_pos (by omega), if_neg h6, if_neg h7]; trivial
theorem bx_s1 {k : Nat} (h : isS k) {j v : Int} : BX (k + 1) j v ↔ (-1 ≤ v ∧ v ≤ 29) := by have h2 : 0 < k ∧ k < 155 ∧ (k - 1) % 7 = 0 := h; unfold BX; rw [if_neg (by omega), if_pos (by omega), if_neg (by omega), if_pos (by omega)]
theorem bx_sf2 {k : Nat} (h : isS k) {j v : Int} : BX (k + 2) j v := by have h2 : 0 < k ∧ k < 155 ∧ (k - 1) % 7 = 0 := h; unfold BX; rw [if_neg (by omega), if_pos (by omega), if_neg (by omega), if_neg (by omega), if_neg (by omega), if_neg (by omega), if_neg (by omega)]; trivial
theorem bx_s3 {k : Nat} (h : isS k) {j v : Int} : BX (k + 3) j v ↔ (-1 ≤ v ∧ v ≤ 29) := by have h2 : 0 < k ∧ k < 155 ∧ (k - 1) % 7 = 0 := h; unfold BX; rw [if_neg (by omega), if_pos (by omega), if_neg (by omega), if_neg (by omega), if_pos (by omega)]
theorem bx_s4 {k : Nat} (h : isS k) {j v : Int} : BX (k + 4) j v ↔ (0 ≤ v ∧ v ≤ 5) := by have h2 : 0 < k ∧ k < 155 ∧ (k - 1) % 7 = 0 := h; unfold BX; rw [if_neg (by omega), if_pos (by omega), if_neg (by omega), if_neg (by omega), if_neg (by omega), if_pos (by omega)]
theorem bx_s5 {k : Nat} (h : isS k) {j v : Int} : BX (k + 5) j v ↔ (-1 ≤ v ∧ v ≤ 5) := by have h2 : 0 < k ∧ k < 155 ∧ (k - 1) % 7 = 0 := h; unfold BX; rw [if_neg (by omega), if_pos (by omega), if_neg (by omega), if_neg (by omega), if_neg (by omega), if_neg (by omega), if_pos (by omega)]
theorem bx_sf6 {k : Nat} (h : isS k) {j v : Int} : BX (k + 6) j v := by have h2 : 0 < k ∧ k < 155 ∧ (k - 1) % 7 = 0 := h; unfold BX; rw [if_neg (by omega), if_pos (by omega), if_neg (by omega), if_neg (by omega), if_neg (by omega), if_neg (by omega), if_neg (by omega)]; trivial
theorem bx_l4 {k : Nat} (h : isL k) {v : Int} : BX k 4 v ↔ (0 ≤ v ∧ v ≤ 40) := by rcases h with rfl | rfl <;> simp [BX]
theorem bx_lf0 {k : Nat} (h : isL k) {j v : Int} (h4 : j ≠ 4) : BX k j v := by rcases h with rfl | rfl <;> simp [BX, h4]
theorem bx_lf1 {k : Nat} (h : isL k) {j v : Int} : BX (k + 1) j v := by rcases h with rfl | rfl <;> simp [BX]
theorem bx_lf2 {k : Nat} (h : isL k) {j v : Int} : BX (k + 2) j v := by rcases h with rfl | rfl <;> simp [BX]
theorem bx_lf3 {k : Nat} (h : isL k) {j v : Int} : BX (k + 3) j v := by rcases h with rfl | rfl <;> simp [BX]
theorem bx_lf4 {k : Nat} (h : isL k) {j v : Int} : BX (k + 4) j v := by rcases h with rfl | rfl <;> simp [BX]
theorem bx_sh {e : Int} (h0 : 0 ≤ e) (h1 : e < 9) {j v : Int} : BX (170 + e.toNat) j v ↔ (0 ≤ v ∧ v ≤ 8 - e) := by
  unfold BX
  rw [if_neg (by omega), if_neg (by omega), if_neg (by omega), if_neg (by omega), if_neg (by omega), if_neg (by omega), if_neg (by omega), if_neg (by omega), if_neg (by omega), if_neg (by omega), if_neg (by omega), if_neg (by omega), if_pos (by omega)]
  have : ((170 + e.toNat : Nat) : Int) = 170 + e := by omega
  omega
abbrev nSp (k : Nat) : Prop := k ≠ 155 ∧ k ≠ 188 ∧ k ≠ 189 ∧ k ≠ 193 ∧ k ≠ 194
theorem isS.nsp {k : Nat} (h : isS k) (r : Nat) (hr : r < 7) : nSp (k + r) := by have h2 : 0 < k ∧ k < 155 ∧ (k - 1) % 7 = 0 := h; exact ⟨by omega, by omega, by omega, by omega, by omega⟩
theorem isL.nsp0 {k : Nat} (h : isL k) : nSp k := by rcases h with rfl | rfl <;> decide
theorem isL.nsp3 {k : Nat} (h : isL k) : nSp (k + 3) := by rcases h with rfl | rfl <;> decide
theorem isL.nsp4 {k : Nat} (h : isL k) : nSp (k + 4) := by rcases h with rfl | rfl <;> decide
theorem sh_nsp {e : Int} (h0 : 0 ≤ e) (h1 : e < 9) : nSp (170 + e.toNat) := ⟨by omega, by omega, by omega, by omega, by omega⟩
/-- the class's state is in its boxes -/
def IX (M : Mem) : Prop := (∀ k j, BX k j (M k j)) ∧ (M 155 16 = 187 ∧ M 155 17 = 192 ∨ M 155 16 = 192 ∧ M 155 17 = 187) ∧ ∀ k j, isL k → M (k + 1) j = 301 → 0 ≤ M (k + 2) j ∧ M (k + 2) j ≤ 6
theorem IX.bx {M : Mem} (h : IX M) (k : Nat) (j : Int) : BX k j (M k j) := h.1 k j
theorem IX.l16 {M : Mem} (h : IX M) : isL (M 155 16).toNat := by rcases h.2.1 with q | q <;> rw [q.1] <;> decide
theorem IX.l17 {M : Mem} (h : IX M) : isL (M 155 17).toNat := by rcases h.2.1 with q | q <;> rw [q.2] <;> decide
theorem IX.lt {M : Mem} (h : IX M) {k : Nat} (hk : isL k) {j : Int} (he : M (k + 1) j = 301) : 0 ≤ M (k + 2) j ∧ M (k + 2) j ≤ 6 := h.2.2 k j hk he
theorem BX.up {M : Mem} (h : ∀ k j, BX k j (M k j)) {k : Nat} {j v : Int} (hv : BX k j v) : ∀ k' j', BX k' j' (up2 M k j v k' j') := by
  intro k' j'
  rw [up2_a]
  by_cases c : k' = k
  · rw [if_pos c]
    by_cases c2 : j' = j
    · rw [if_pos c2, c, c2]; exact hv
    · rw [if_neg c2]; exact h k' j'
  · rw [if_neg c]; exact h k' j'
theorem BX.cp {M : Mem} (h : ∀ k j, BX k j (M k j)) {a b : Nat} {n : Int} (hv : ∀ j v, BX a j v → BX b j v) : ∀ k' j', BX k' j' (cp2 M a b n k' j') := by
  intro k' j'
  by_cases c : k' = b
  · subst c
    unfold cp2 cpy
    rw [if_pos rfl]
    by_cases c2 : 0 ≤ j' ∧ j' < n
    · rw [if_pos c2]; exact hv _ _ (h a j')
    · rw [if_neg c2]; exact h _ j'
  · rw [cp2_n c]; exact h k' j'
theorem IX.up {M : Mem} (h : IX M) {k : Nat} {j v : Int} (hk : nSp k) (hv : BX k j v) : IX (up2 M k j v) := by
  obtain ⟨a, b, c, d, e⟩ := hk
  refine ⟨BX.up h.1 hv, ?_, fun k' j' hk' => ?_⟩
  · rw [up2_n (Ne.symm a)]; exact h.2.1
  · rw [up2_n (by rcases hk' with rfl | rfl <;> omega), up2_n (by rcases hk' with rfl | rfl <;> omega)]; exact h.2.2 k' j' hk'
theorem IX.up15 {M : Mem} (h : IX M) {j v : Int} (hj : j = 15) : IX (up2 M 155 j v) := by
  subst hj
  refine ⟨BX.up h.1 (by simp [BX]), ?_, fun k' j' hk' => ?_⟩
  · rw [up2_j (by decide), up2_j (by decide)]; exact h.2.1
  · rw [up2_n (by rcases hk' with rfl | rfl <;> omega), up2_n (by rcases hk' with rfl | rfl <;> omega)]; exact h.2.2 k' j' hk'
theorem IX.cp {M : Mem} (h : IX M) {a b : Nat} {n : Int} (hk : nSp b) (hv : ∀ j v, BX a j v → BX b j v) : IX (cp2 M a b n) := by
  obtain ⟨q, r, c, d, e⟩ := hk
  refine ⟨BX.cp h.1 hv, ?_, fun k' j' hk' => ?_⟩
  · rw [cp2_n (Ne.symm q)]; exact h.2.1
  · rw [cp2_n (by rcases hk' with rfl | rfl <;> omega), cp2_n (by rcases hk' with rfl | rfl <;> omega)]; exact h.2.2 k' j' hk'
theorem IX.cp180_181 {M : Mem} (h : IX M) {n : Int} : IX (cp2 M 180 181 n) := h.cp (by decide) (fun j v _ => by simp [BX])
-- bits
theorem aI_1 (a : Int) : 0 ≤ aI a 1 ∧ aI a 1 ≤ 1 := by
  obtain ⟨j, hj, e⟩ := pk_andE (iI a) (m := 1) 1 (by decide)
  have h : aI a 1 = (nI j).toInt := by
    unfold aI
    rw [show iI 1 = (1 : Int32) from rfl, ← e]
  rw [h]
  have h2 : (nI j).toInt = j := iI_toInt (z := (j : Int)) ⟨by omega, by omega⟩
  rw [h2]
  omega
theorem aI_63 (a : Int) : 0 ≤ aI a 63 ∧ aI a 63 ≤ 63 := by
  obtain ⟨j, hj, e⟩ := pk_andE (iI a) (m := 63) 6 (by decide)
  have h : aI a 63 = (nI j).toInt := by
    unfold aI
    rw [show iI 63 = (63 : Int32) from rfl, ← e]
  rw [h]
  have h2 : (nI j).toInt = j := iI_toInt (z := (j : Int)) ⟨by omega, by omega⟩
  rw [h2]
  omega
theorem slI_1 {b : Int} (h : 0 ≤ b ∧ b ≤ 8) : 1 ≤ slI 1 b ∧ slI 1 b ≤ 256 ∧ (b ≤ 6 → slI 1 b ≤ 64) ∧ (b ≤ 5 → slI 1 b ≤ 32) := by
  have : b = 0 ∨ b = 1 ∨ b = 2 ∨ b = 3 ∨ b = 4 ∨ b = 5 ∨ b = 6 ∨ b = 7 ∨ b = 8 := by omega
  rcases this with rfl | rfl | rfl | rfl | rfl | rfl | rfl | rfl | rfl <;> decide
theorem oI_64n : ∀ n, n < 64 → ∀ m, m < 33 → 0 ≤ oI (n : Nat) (m : Nat) ∧ oI (n : Nat) (m : Nat) ≤ 63 := by decide +kernel
theorem oI_64 {a b : Int} (ha : 0 ≤ a ∧ a ≤ 63) (hb : 0 ≤ b ∧ b ≤ 32) : 0 ≤ oI a b ∧ oI a b ≤ 63 := by
  have h := oI_64n a.toNat (by omega) b.toNat (by omega)
  rw [show ((a.toNat : Nat) : Int) = a from by omega, show ((b.toNat : Nat) : Int) = b from by omega] at h
  exact h
theorem dvI_e {a b : Int} (ha : 0 ≤ a ∧ a ≤ 2147483647) (hb : 1 ≤ b ∧ b ≤ 2147483647) : dvI a b = a / b := by
  unfold dvI
  rw [Int32.toInt_div, iI_toInt ⟨by omega, by omega⟩, iI_toInt ⟨by omega, by omega⟩, Int.tdiv_eq_ediv_of_nonneg ha.1]
  have h0 : 0 ≤ a / b := Int.ediv_nonneg ha.1 (by omega)
  have h1 : a / b ≤ a := Int.ediv_le_self b ha.1
  exact Int.bmod_eq_of_le (by omega) (by omega)
theorem rmI_b {a b : Int} (ha : 0 ≤ a ∧ a ≤ 2147483647) (hb : 1 ≤ b ∧ b ≤ 2147483647) : 0 ≤ rmI a b ∧ rmI a b ≤ b - 1 := by
  have h0 : 0 ≤ a / b := Int.ediv_nonneg ha.1 (by omega)
  have h1 : a / b ≤ a := Int.ediv_le_self b ha.1
  have q : iI a / iI b = iI (a / b) := by
    rw [← iI_toI (iI a / iI b)]
    exact congrArg iI (dvI_e ha hb)
  have hm : a - a / b * b = a % b := by
    have := Int.emod_add_mul_ediv a b
    have e : a / b * b = b * (a / b) := Int.mul_comm _ _
    omega
  have hr0 : 0 ≤ a % b := Int.emod_nonneg a (by omega)
  have hr1 : a % b < b := Int.emod_lt_of_pos a (by omega)
  have e : rmI a b = a % b := by
    unfold rmI
    rw [q, ← hm]
    have : iI a - iI (a / b) * iI b = iI (a - a / b * b) := by
      unfold iI
      rw [Int32.ofInt_sub, Int32.ofInt_mul]
    rw [this]
    exact iI_toInt ⟨by omega, by omega⟩
  omega
theorem dvI_b {a b : Int} (ha : 0 ≤ a ∧ a ≤ 2147483647) (hb : 1 ≤ b ∧ b ≤ 2147483647) : 0 ≤ dvI a b ∧ dvI a b ≤ a := by
  rw [dvI_e ha hb]
  exact ⟨Int.ediv_nonneg ha.1 (by omega), Int.ediv_le_self b ha.1⟩
theorem usI_16 (a : Int) : 0 ≤ usI a 16 ∧ usI a 16 ≤ 65535 := by
  have e : usI a 16 = ((iI a).toUInt32 >>> (16 : UInt32)).toBitVec.toInt := rfl
  have hn : ((iI a).toUInt32 >>> (16 : UInt32)).toBitVec.toNat < 65536 := by
    show ((iI a).toUInt32 >>> (16 : UInt32)).toNat < 65536
    rw [UInt32.toNat_shiftRight]
    show (iI a).toUInt32.toNat >>> 16 < 65536
    rw [Nat.shiftRight_eq_div_pow]
    have := (iI a).toUInt32.toNat_lt
    omega
  rw [e, BitVec.toInt_eq_toNat_of_lt (by omega)]
  omega
theorem ixS_0 (c : Int) : -1 ≤ ixS (bS 0) c ∧ ixS (bS 0) c ≤ 6 := by
  show -1 ≤ ixF c [112, 103, 99, 119, 116, 105, 109] 0 ∧ ixF c [112, 103, 99, 119, 116, 105, 109] 0 ≤ 6
  simp only [ixF]
  repeat (first | decide | split)

theorem sX2_add {k0 : Nat} {p1 p2 : Int} {M : Mem} {Q : Mem → Prop} (hI : IX M) (hk0 : isL k0) (hp : p1 = 301 → 0 ≤ p2 ∧ p2 ≤ 6) (hQ : ∀ M' : Mem, IX M' → Fr (fun i => i = k0 ∨ i = k0 + 1 ∨ i = k0 + 2) M M' → Q M') : qX2_add k0 p1 p2 M Q := by
  unfold qX2_add
  intro x1 e1 r1
  refine ⟨fun c => hQ _ hI Fr.rf, fun c => ?_⟩
  intro x3 e3 r3
  have b3 : 0 ≤ x3 ∧ x3 ≤ 40 := by rw [e3]; exact (bx_l4 hk0).mp (hI.bx _ _)
  refine ⟨by omega, by omega, ?_⟩
  intro M6 h6 x7 e7 r7
  have f7 : x7 = x3 := by rw [e7, h6, up2_n (by omega), e3]
  refine ⟨by omega, by omega, ?_⟩
  intro M10 h10 x11 e11 r11
  have f11 : x11 = x3 := by rw [e11, h10, up2_n (by omega), h6, up2_n (by omega), e3]
  refine ⟨⟨by omega, by omega⟩, ?_⟩
  intro M13 h13
  refine hQ _ ?_ ?_
  · rw [h13, h10, h6]
    refine ⟨BX.up (BX.up (BX.up hI.1 (bx_lf1 hk0)) (bx_lf2 hk0)) ((bx_l4 hk0).mpr ⟨by omega, by omega⟩), ?_, fun k' j' hk' => ?_⟩
    · rw [up2_n (by rcases hk0 with rfl | rfl <;> omega), up2_n (by rcases hk0 with rfl | rfl <;> omega), up2_n (by rcases hk0 with rfl | rfl <;> omega)]
      exact hI.2.1
    · have hd : k' + 1 ≠ k0 ∧ k' + 1 ≠ k0 + 2 ∧ k' + 2 ≠ k0 ∧ k' + 2 ≠ k0 + 1 := by rcases hk' with rfl | rfl <;> rcases hk0 with rfl | rfl <;> omega
      rw [up2_n hd.1, up2_n hd.2.1, up2_n hd.2.2.1, f7, up2_a, up2_a, up2_n (k' := k' + 2) hd.2.2.2]
      by_cases c1 : k' = k0
      · subst c1
        rw [if_pos rfl, if_pos rfl]
        by_cases c2 : j' = x3
        · rw [if_pos c2, if_pos c2]; exact hp
        · rw [if_neg c2, if_neg c2]; exact hI.2.2 _ _ hk'
      · rw [if_neg (by omega), if_neg (by omega)]; exact hI.2.2 _ _ hk'
  · rw [h13, h10, h6]
    exact ((Fr.rf.up (by omega)).up (by omega)).up (by omega)
theorem sX6_copyFrom {k0 k1 : Nat} {M : Mem} {Q : Mem → Prop} (hI : IX M) (hk0 : isS k0) (hk1 : isS k1) (hQ : ∀ M' : Mem, IX M' → Fr (fun i => k0 ≤ i ∧ i ≤ k0 + 6) M M' → Q M') : qX6_copyFrom k0 k1 M Q := by
  have ek0 : 0 < k0 ∧ k0 < 155 ∧ (k0 - 1) % 7 = 0 := hk0
  have ek1 : 0 < k1 ∧ k1 < 155 ∧ (k1 - 1) % 7 = 0 := hk1
  unfold qX6_copyFrom
  intro M1 h1 M2 h2 M3 h3 M4 h4 M5 h5 M6 h6 x7 e7 _ M8 h8 x9 e9 _ M10 h10 x11 e11 _ M12 h12 x13 e13 _ M14 h14 x15 e15 _ M16 h16
  have i1 : IX M1 := by rw [h1]; exact hI.cp (hk0.nsp 1 (by decide)) (fun j v q => (bx_s1 hk0).mpr ((bx_s1 hk1).mp q))
  have i2 : IX M2 := by rw [h2]; exact i1.cp (hk0.nsp 2 (by decide)) (fun j v q => bx_sf2 hk0)
  have i3 : IX M3 := by rw [h3]; exact i2.cp (hk0.nsp 3 (by decide)) (fun j v q => (bx_s3 hk0).mpr ((bx_s3 hk1).mp q))
  have i4 : IX M4 := by rw [h4]; exact i3.cp (hk0.nsp 4 (by decide)) (fun j v q => (bx_s4 hk0).mpr ((bx_s4 hk1).mp q))
  have i5 : IX M5 := by rw [h5]; exact i4.cp (hk0.nsp 5 (by decide)) (fun j v q => (bx_s5 hk0).mpr ((bx_s5 hk1).mp q))
  have i6 : IX M6 := by rw [h6]; exact i5.cp (hk0.nsp 6 (by decide)) (fun j v q => bx_sf6 hk0)
  have b7 : 0 ≤ x7 ∧ x7 ≤ 6 := by rw [e7]; exact (bx_s0_6 hk1).mp (i6.bx _ _)
  have i8 : IX M8 := by rw [h8]; exact i6.up (hk0.nsp 0 (by decide)) ((bx_s0_6 hk0).mpr b7)
  have b9 : 0 ≤ x9 ∧ x9 ≤ 8 := by rw [e9]; exact (bx_s0_7 hk1).mp (i8.bx _ _)
  have i10 : IX M10 := by rw [h10]; exact i8.up (hk0.nsp 0 (by decide)) ((bx_s0_7 hk0).mpr b9)
  have i12 : IX M12 := by rw [h12]; exact i10.up (hk0.nsp 0 (by decide)) (bx_sf0 hk0 (by decide) (by decide))
  have i14 : IX M14 := by rw [h14]; exact i12.up (hk0.nsp 0 (by decide)) (bx_sf0 hk0 (by decide) (by decide))
  have i16 : IX M16 := by rw [h16]; exact i14.up (hk0.nsp 0 (by decide)) (bx_sf0 hk0 (by decide) (by decide))
  refine hQ _ i16 ?_
  rw [h16, h14, h12, h10, h8, h6, h5, h4, h3, h2, h1]
  exact ((((((((((Fr.rf.cp (by omega)).cp (by omega)).cp (by omega)).cp (by omega)).cp (by omega)).cp (by omega)).up (by omega)).up (by omega)).up (by omega)).up (by omega)).up (by omega)
