/-! THE NEXT ORDER: nothing lies between a row and the next one -/
/-- the pivot I, the place J, of the row c of n different numbers -/
def PVT (c : Int → Int) (n I J : Int) : Prop := (0 ≤ I ∧ I < J ∧ J < n) ∧ (∀ j, I < j → j + 1 < n → c (j + 1) < c j) ∧ c I < c J ∧ ∀ k, J < k → k < n → c k < c I
def swF (c : Int → Int) (i j : Int) : Int → Int := up (up c i (c j)) j (c i)
def rvF (c : Int → Int) (lo hi : Int) : Int → Int := fun k => if lo ≤ k ∧ k ≤ hi then c (lo + hi - k) else c k
def nxC (c : Int → Int) (n I J : Int) : Int → Int := rvF (swF c I J) (I + 1) (n - 1)
/-- n different numbers; q has c's numbers alone; q lies above c -/
def INJ (c : Int → Int) (n : Int) : Prop := ∀ i j, 0 ≤ i → i < n → 0 ≤ j → j < n → c i = c j → i = j
def SUB (c q : Int → Int) (n : Int) : Prop := ∀ k, 0 ≤ k → k < n → ∃ m, 0 ≤ m ∧ m < n ∧ q k = c m
def ABV (c q : Int → Int) (n : Int) : Prop := ∃ k, (0 ≤ k ∧ k < n) ∧ (∀ m, 0 ≤ m → m < k → q m = c m) ∧ c k < q k
theorem desc {c : Int → Int} {n I : Int} (h : ∀ j, I < j → j + 1 < n → c (j + 1) < c j) : ∀ (d : Nat) (a : Int), I < a → a + d + 1 < n → c (a + d + 1) < c a := by
  intro d
  induction d with
  | zero => intro a p q; rw [show a + ((0 : Nat) : Int) + 1 = a + 1 from by omega]; exact h a p (by omega)
  | succ d ih =>
    intro a p q
    have e := ih a p (by omega)
    have e2 := h (a + d + 1) (by omega) (by omega)
    rw [show a + ((d + 1 : Nat) : Int) + 1 = a + d + 1 + 1 from by omega]
    omega
theorem desc2 {c : Int → Int} {n I a b : Int} (h : ∀ j, I < j → j + 1 < n → c (j + 1) < c j) (ha : I < a) (hab : a < b) (hb : b < n) : c b < c a := by
  have := desc h (b - a - 1).toNat a ha (by omega)
  rw [show a + (((b - a - 1).toNat : Nat) : Int) + 1 = b from by omega] at this
  exact this
/-- q's number at the first place where it differs stands further behind in c -/
theorem later {c q : Int → Int} {n k : Int} (hq : INJ q n) (hs : SUB c q n) (hk : 0 ≤ k ∧ k < n) (he : ∀ m, 0 ≤ m → m < k → q m = c m) (hd : q k ≠ c k) : ∃ m, k < m ∧ m < n ∧ q k = c m := by
  obtain ⟨m, m0, m1, e⟩ := hs k hk.1 hk.2
  refine ⟨m, ?_, m1, e⟩
  rcases Int.lt_or_le m k with p | p
  · have := hq m k m0 m1 hk.1 hk.2 (by rw [he m m0 p, e])
    omega
  · by_cases z : m = k
    · rw [z] at e
      exact absurd e hd
    · omega
theorem first {c q : Int → Int} : ∀ N : Nat, (∀ m : Int, 0 ≤ m → m < N → q m = c m) ∨ ∃ k : Int, (0 ≤ k ∧ k < N) ∧ (∀ m, 0 ≤ m → m < k → q m = c m) ∧ q k ≠ c k := by
  intro N
  induction N with
  | zero => exact Or.inl (fun m p q => by omega)
  | succ N ih =>
    rcases ih with h | ⟨k, h1, h2, h3⟩
    · by_cases e : q N = c N
      · refine Or.inl (fun m p r => ?_)
        by_cases z : m = N
        · rw [z]; exact e
        · exact h m p (by omega)
      · exact Or.inr ⟨N, by omega, h, e⟩
    · exact Or.inr ⟨k, by omega, h2, h3⟩
theorem nxC_lo {c : Int → Int} {n I J k : Int} (h : k < I) (hJ : I < J) : nxC c n I J k = c k := by
  unfold nxC rvF swF
  rw [if_neg (by omega), up_j (by omega), up_j (by omega)]
theorem nxC_I {c : Int → Int} {n I J : Int} (hJ : I < J) : nxC c n I J I = c J := by
  unfold nxC rvF swF
  rw [if_neg (by omega), up_j (by omega), upS]
theorem nxC_hi {c : Int → Int} {n I J k : Int} (h : I < k ∧ k < n) (hJ : I < J) : nxC c n I J k = if I + n - k = J then c I else c (I + n - k) := by
  unfold nxC rvF swF
  rw [if_pos (by omega), show I + 1 + (n - 1) - k = I + n - k from by omega]
  by_cases e : I + n - k = J
  · rw [if_pos e, e, upS]
  · rw [if_neg e, up_j e, up_j (by omega)]
theorem nxC_asc {c : Int → Int} {n I J a b : Int} (h : PVT c n I J) (ha : I < a) (hab : a < b) (hb : b < n) : nxC c n I J a < nxC c n I J b := by
  obtain ⟨h1, h2, h3, h4⟩ := h
  rw [nxC_hi ⟨ha, by omega⟩ h1.2.1, nxC_hi ⟨by omega, hb⟩ h1.2.1]
  by_cases e : I + n - a = J
  · rw [if_pos e, if_neg (by omega)]
    have := desc2 h2 (a := I + n - b) (b := J) (by omega) (by omega) h1.2.2
    omega
  · rw [if_neg e]
    by_cases e2 : I + n - b = J
    · rw [if_pos e2]
      exact h4 _ (by omega) (by omega)
    · rw [if_neg e2]
      exact desc2 h2 (by omega) (by omega) (by omega)
/-- the same numbers, each once -/
theorem nxC_sub {c : Int → Int} {n I J : Int} (h : PVT c n I J) : SUB (nxC c n I J) c n ∧ SUB c (nxC c n I J) n := by
  obtain ⟨h1, h2, h3, h4⟩ := h
  refine ⟨fun k k0 k1 => ?_, fun k k0 k1 => ?_⟩
  · rcases Int.lt_trichotomy k I with p | p | p
    · exact ⟨k, k0, k1, (nxC_lo p h1.2.1).symm⟩
    · refine ⟨I + n - J, by omega, by omega, ?_⟩
      rw [nxC_hi ⟨by omega, by omega⟩ h1.2.1, if_pos (by omega), p]
    · by_cases e : k = J
      · exact ⟨I, h1.1, by omega, by rw [nxC_I h1.2.1, e]⟩
      · refine ⟨I + n - k, by omega, by omega, ?_⟩
        rw [nxC_hi ⟨by omega, by omega⟩ h1.2.1, if_neg (by omega), show I + n - (I + n - k) = k from by omega]
  · rcases Int.lt_trichotomy k I with p | p | p
    · exact ⟨k, k0, k1, nxC_lo p h1.2.1⟩
    · exact ⟨J, by omega, h1.2.2, by rw [p, nxC_I h1.2.1]⟩
    · by_cases e : I + n - k = J
      · exact ⟨I, h1.1, by omega, by rw [nxC_hi ⟨p, k1⟩ h1.2.1, if_pos e]⟩
      · exact ⟨I + n - k, by omega, by omega, by rw [nxC_hi ⟨p, k1⟩ h1.2.1, if_neg e]⟩
theorem SUB.tr {a b c : Int → Int} {n : Int} (h : SUB a b n) (g : SUB b c n) : SUB a c n := fun k p q => by
  obtain ⟨m, m0, m1, e⟩ := g k p q
  obtain ⟨l, l0, l1, e2⟩ := h m m0 m1
  exact ⟨l, l0, l1, by rw [e, e2]⟩
/-- what lies above a row is the next one or lies above that -/
theorem nx_abv {c q : Int → Int} {n I J : Int} (hp : PVT c n I J) (hq : INJ q n) (hs : SUB c q n) (ha : ABV c q n) : (∀ k, 0 ≤ k → k < n → q k = nxC c n I J k) ∨ ABV (nxC c n I J) q n := by
  have hp' := hp
  obtain ⟨h1, h2, h3, h4⟩ := hp
  obtain ⟨k, hk, he, hl⟩ := ha
  obtain ⟨m, m0, m1, em⟩ := later hq hs hk he (by omega)
  have kI : k ≤ I := by
    rcases Int.lt_or_le I k with p | p
    · have := desc2 h2 p m0 m1
      omega
    · exact p
  by_cases c1 : k < I
  · exact Or.inr ⟨k, hk, fun j p r => by rw [nxC_lo (by omega) h1.2.1]; exact he j p r, by rw [nxC_lo c1 h1.2.1]; exact hl⟩
  · have kI' : k = I := by omega
    subst kI'
    have mJ : m ≤ J := by
      rcases Int.lt_or_le J m with p | p
      · have := h4 m p m1
        omega
      · exact p
    have pre : ∀ j, 0 ≤ j → j < k → q j = nxC c n k J j := fun j p r => by rw [nxC_lo r h1.2.1]; exact he j p r
    by_cases c2 : m = J
    · rw [c2] at em
      have s2 : SUB (nxC c n k J) q n := (nxC_sub hp').1.tr hs
      have fi := first (c := nxC c n k J) (q := q) n.toNat
      rcases fi with g | ⟨k2, g1, g2, g3⟩
      · exact Or.inl (fun j p r => g j p (by omega))
      · refine Or.inr ⟨k2, by omega, g2, ?_⟩
        have k2I : k < k2 := by
          rcases Int.lt_trichotomy k2 k with p | p | p
          · exact absurd (pre k2 g1.1 p) g3
          · rw [p, nxC_I h1.2.1, em] at g3
            exact absurd rfl g3
          · exact p
        obtain ⟨m2, p1, p2, p3⟩ := later hq s2 (show 0 ≤ k2 ∧ k2 < n by omega) g2 g3
        rw [p3]
        exact nxC_asc hp' k2I p1 p2
    · refine Or.inr ⟨k, hk, pre, ?_⟩
      rw [nxC_I h1.2.1, em]
      exact desc2 h2 m0 (by omega) h1.2.2
/-- a row that descends is the last -/
theorem nx_last {c q : Int → Int} {n : Int} (h : ∀ j, -1 < j → j + 1 < n → c (j + 1) < c j) (hq : INJ q n) (hs : SUB c q n) : ¬ ABV c q n := by
  intro ⟨k, hk, he, hl⟩
  obtain ⟨m, m0, m1, em⟩ := later hq hs hk he (by omega)
  have := desc2 h (show (-1 : Int) < k by omega) m0 m1
  omega
/-- of the ascending row all others lie above -/
theorem nx_least {c q : Int → Int} {n : Int} (hn : 0 ≤ n) (h : ∀ a b, 0 ≤ a → a < b → b < n → c a < c b) (hq : INJ q n) (hs : SUB c q n) : (∀ k, 0 ≤ k → k < n → q k = c k) ∨ ABV c q n := by
  rcases first (c := c) (q := q) n.toNat with g | ⟨k, g1, g2, g3⟩
  · exact Or.inl (fun j p r => g j p (by omega))
  · obtain ⟨m, m0, m1, em⟩ := later hq hs (show 0 ≤ k ∧ k < n by omega) g2 g3
    exact Or.inr ⟨k, by omega, g2, by rw [em]; exact h k m g1.1 m0 m1⟩
