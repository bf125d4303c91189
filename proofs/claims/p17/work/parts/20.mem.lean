/-! MEMORY: a world's numbers as one function (cell, place) ↦ number; the machine's operations on Ints. Pure. -/
abbrev Mem : Type := Nat → Int → Int
def up2 (M : Mem) (k : Nat) (j v : Int) : Mem := fun i => if i = k then up (M k) j v else M i
def cp2 (M : Mem) (a b : Nat) (n : Int) : Mem := fun i => if i = b then cpy (M a) (M b) n else M i
def w32 (z : Int) : Int := (iI z).toInt
def w64 (z : Int) : Int := (lI z).toInt
def aI (a b : Int) : Int := (iI a &&& iI b).toInt
def oI (a b : Int) : Int := (iI a ||| iI b).toInt
def xI (a b : Int) : Int := (iI a ^^^ iI b).toInt
def slI (a b : Int) : Int := (iI a <<< (iI b &&& 31)).toInt
def srI (a b : Int) : Int := (iI a >>> (iI b &&& 31)).toInt
def usI (a b : Int) : Int := ((iI a).toUInt32 >>> ((iI b).toUInt32 &&& Int32.toUInt32 31)).toInt32.toInt
def dvI (a b : Int) : Int := (iI a / iI b).toInt
def rmI (a b : Int) : Int := (iI a - iI a / iI b * iI b).toInt
def dvL (a b : Int) : Int := (lI a / lI b).toInt
def rmL (a b : Int) : Int := (lI a - lI a / lI b * lI b).toInt
def b8I (a : Int) : Int := (iI a).toInt8.toInt32.toInt
def s16I (a : Int) : Int := (iI a).toInt16.toInt32.toInt
theorem toInt_R (x : Int32) : iR x.toInt := ⟨by have := Int32.le_toInt x; omega, by have := Int32.toInt_lt x; omega⟩
theorem toInt_L (x : Int64) : lR x.toInt := ⟨by have := Int64.le_toInt x; omega, by have := Int64.toInt_lt x; omega⟩
theorem w32_R (z : Int) : iR (w32 z) := toInt_R _
theorem w64_R (z : Int) : lR (w64 z) := toInt_L _
theorem w32_id {z : Int} (h : iR z) : w32 z = z := iI_toInt h
theorem w64_id {z : Int} (h : lR z) : w64 z = z := lI_toInt h
theorem iI_toI (x : Int32) : iI x.toInt = x := Int32.ofInt_toInt x
theorem lI_toI (x : Int64) : lI x.toInt = x := Int64.ofInt_toInt x
theorem iR_lR {z : Int} (h : iR z) : lR z := ⟨by omega, by omega⟩
def MR (M : Mem) : Prop := (∀ k j, 0 < k → iR (M k j)) ∧ ∀ j, lR (M 0 j)
theorem MR.get {M : Mem} (h : MR M) {k : Nat} (hk : 0 < k) (j : Int) : iR (M k j) := h.1 k j hk
theorem MR.getL {M : Mem} (h : MR M) (j : Int) : lR (M 0 j) := h.2 j
theorem MR.put {M : Mem} (h : MR M) {k : Nat} (hk : 0 < k) {j v : Int} (hv : iR v) : MR (up2 M k j v) := by
  refine ⟨fun i x hi => ?_, fun x => ?_⟩
  · unfold up2 up
    by_cases c : i = k
    · rw [if_pos c]
      by_cases c2 : x = j
      · rw [if_pos c2]; exact hv
      · rw [if_neg c2]; exact h.1 k x hk
    · rw [if_neg c]; exact h.1 i x hi
  · unfold up2
    rw [if_neg (by omega)]
    exact h.2 x
theorem MR.putL {M : Mem} (h : MR M) {j v : Int} (hv : lR v) : MR (up2 M 0 j v) := by
  refine ⟨fun i x hi => ?_, fun x => ?_⟩
  · unfold up2
    rw [if_neg (by omega)]
    exact h.1 i x hi
  · unfold up2 up
    rw [if_pos rfl]
    by_cases c2 : x = j
    · rw [if_pos c2]; exact hv
    · rw [if_neg c2]; exact h.2 x
theorem MR.copy {M : Mem} (h : MR M) {a b : Nat} (ha : 0 < a) (hb : 0 < b) {n : Int} : MR (cp2 M a b n) := by
  refine ⟨fun i x hi => ?_, fun x => ?_⟩
  · unfold cp2 cpy
    by_cases c : i = b
    · rw [if_pos c]
      by_cases c2 : 0 ≤ x ∧ x < n
      · rw [if_pos c2]; exact h.1 a x ha
      · rw [if_neg c2]; exact h.1 b x hb
    · rw [if_neg c]; exact h.1 i x hi
  · unfold cp2
    rw [if_neg (by omega)]
    exact h.2 x
/-- which cells are scenes, which are laws -/
abbrev isS (k : Nat) : Prop := 0 < k ∧ k < 155 ∧ (k - 1) % 7 = 0
abbrev isL (k : Nat) : Prop := k = 187 ∨ k = 192
theorem isS.pos {k : Nat} (h : isS k) : 0 < k := h.1
theorem isL.pos {k : Nat} (h : isL k) : 0 < k := by rcases h with rfl | rfl <;> decide
theorem isL_R {k : Nat} (h : isL k) : iR (k : Int) := by rcases h with rfl | rfl <;> decide
theorem isS_kept {e : Int} (h0 : 0 ≤ e) (h1 : e < 3) : isS (29 + 7 * e.toNat) := ⟨by omega, by omega, by omega⟩
theorem isS_hist {e : Int} (h0 : 0 ≤ e) (h1 : e < 15) : isS (50 + 7 * e.toNat) := ⟨by omega, by omega, by omega⟩
def bS (i : Nat) : List Int := ([[112, 103, 99, 119, 116, 105, 109], [46, 99], [97, 98, 99, 100, 101, 102], [], [112, 103, 99, 119, 116, 105, 109], [60, 62, 61], [43, 45], [42, 47], [110, 116, 112, 98, 120]] : List (List Int)).getD i []
def ixF (c : Int) : List Int → Int → Int
  | [], _ => -1
  | b :: l, k => if b = c then k else ixF c l (k + 1)
def ixS (bs : List Int) (c : Int) : Int := ixF c bs 0
