/-! THE RANK OF AN ORDER: FEWER THAN 720 STAND BELOW ANY -/
def fac : Nat → Int
  | 0 => 1
  | n + 1 => (n + 1) * fac n
theorem fac_p : ∀ n : Nat, 1 ≤ fac n := by
  intro n
  induction n with
  | zero => exact Int.le_refl 1
  | succ n ih =>
    show 1 ≤ ((n : Int) + 1) * fac n
    have := Int.mul_le_mul (show (1 : Int) ≤ (n : Int) + 1 by omega) ih (by omega) (by omega)
    omega
theorem nB_s (c : Int → Int) (n : Nat) (v : Int) : nB c (n + 1) v = nB c n v + (if 0 ≤ c n ∧ c n < v then 1 else 0) := rfl
theorem nB_cg {c q : Int → Int} {v : Int} : ∀ n : Nat, (∀ m : Int, 0 ≤ m → m < n → q m = c m) → nB q n v = nB c n v := by
  intro n
  induction n with
  | zero => intro _; rfl
  | succ n ih =>
    intro h
    unfold nB
    rw [ih (fun m a b => h m a (by omega)), h n (by omega) (by omega)]
theorem nB_mono {c : Int → Int} {v w : Int} (h : v ≤ w) : ∀ n : Nat, nB c n v ≤ nB c n w := by
  intro n
  induction n with
  | zero => exact Int.le_refl 0
  | succ n ih =>
    unfold nB
    by_cases e : 0 ≤ c n ∧ c n < v
    · rw [if_pos e, if_pos (by omega)]; omega
    · rw [if_neg e]
      split <;> omega
/-- how many behind the k-th place (that one too) are below v: grows with v, by one at least where c k is passed -/
theorem tB_mono {c : Int → Int} {v w : Int} (h : v ≤ w) (k : Nat) : ∀ d : Nat, nB c (k + d) v - nB c k v ≤ nB c (k + d) w - nB c k w := by
  intro d
  induction d with
  | zero => rw [show k + 0 = k from rfl]; omega
  | succ d ih =>
    rw [show k + (d + 1) = (k + d) + 1 from rfl, nB_s c (k + d) v, nB_s c (k + d) w]
    by_cases e : 0 ≤ c (k + d : Nat) ∧ c (k + d : Nat) < v
    · rw [if_pos e, if_pos (by omega)]; omega
    · rw [if_neg e]
      split <;> omega
theorem nB_tail (c : Int → Int) (k : Nat) (v : Int) : ∀ d : Nat, nB c (k + 1 + d) v - nB c (k + 1) v ≤ d ∧ 0 ≤ nB c (k + 1 + d) v - nB c (k + 1) v := by
  intro d
  induction d with
  | zero => rw [show k + 1 + 0 = k + 1 from rfl]; omega
  | succ d ih =>
    rw [show k + 1 + (d + 1) = (k + 1 + d) + 1 from rfl, nB_s c (k + 1 + d) v]
    split <;> omega
def LH (c : Int → Int) (n k : Nat) : Int := nB c n (c k) - nB c k (c k)
theorem LH_b {c : Int → Int} {n k : Nat} (hk : k < n) : 0 ≤ LH c n k ∧ LH c n k ≤ (n : Int) - 1 - k := by
  have a := nB_tail c k (c k) (n - k - 1)
  rw [show k + 1 + (n - k - 1) = n from by omega] at a
  have e : nB c (k + 1) (c k) = nB c k (c k) := by
    show nB c k (c k) + (if 0 ≤ c k ∧ c k < c k then 1 else 0) = _
    rw [if_neg (by omega)]
    omega
  unfold LH
  omega
/-- rows of the same numbers: as many below any v -/
theorem nB_perm {c q : Int → Int} {n : Nat} (hc : INJ c n) (hq : INJ q n) (h1 : SUB c q n) (h2 : SUB q c n) : ∀ v : Nat, nB c n v = nB q n v := by
  have dc : DST c n := fun i j a b p r e _ => hc i j a b p r e
  have dq : DST q n := fun i j a b p r e _ => hq i j a b p r e
  intro v
  induction v with
  | zero => rw [show ((0 : Nat) : Int) = 0 from rfl, nB_0, nB_0]
  | succ v ih =>
    rw [show ((v + 1 : Nat) : Int) = (v : Int) + 1 from by omega]
    by_cases e : 0 ≤ onF c n v
    · have b := onF_b c n v
      have g := onF_c e
      obtain ⟨m, m0, m1, em⟩ := h2 _ e b.2
      rw [nB_one (by omega) n _ dc ⟨e, b.2⟩ g, nB_one (by omega) n m dq ⟨m0, m1⟩ (by rw [← em]; exact g), ih]
    · have g := onF_n (c := c) (n := n) (v := v) (by omega)
      rw [nB_no n g, nB_no n (fun i p r s => ?_), ih]
      obtain ⟨m, m0, m1, em⟩ := h1 i p r
      exact g m m0 m1 (by rw [← em]; exact s)
def rk (c : Int → Int) (n : Nat) : Nat → Int
  | 0 => 0
  | d + 1 => LH c n (n - d - 1) * fac d + rk c n d
theorem rk_b {c : Int → Int} {n : Nat} : ∀ d : Nat, d ≤ n → 0 ≤ rk c n d ∧ rk c n d + 1 ≤ fac d := by
  intro d
  induction d with
  | zero => intro _; exact ⟨Int.le_refl 0, Int.le_refl 1⟩
  | succ d ih =>
    intro hd
    have a := ih (by omega)
    have b := LH_b (c := c) (n := n) (k := n - d - 1) (by omega)
    have p := fac_p d
    have m0 := Int.mul_nonneg b.1 (show 0 ≤ fac d by omega)
    have m1 := Int.mul_le_mul_of_nonneg_right (show LH c n (n - d - 1) ≤ (d : Int) by omega) (show 0 ≤ fac d by omega)
    show 0 ≤ LH c n (n - d - 1) * fac d + rk c n d ∧ LH c n (n - d - 1) * fac d + rk c n d + 1 ≤ ((d : Int) + 1) * fac d
    rw [Int.add_mul, Int.one_mul]
    omega
theorem rk_lt {c q : Int → Int} {n : Nat} (hc : INJ c n) (hq : INJ q n) (h1 : SUB c q n) (h2 : SUB q c n) (hp : ∀ k : Int, 0 ≤ k → k < n → 0 ≤ c k) (ha : ABV c q n) : rk c n n < rk q n n := by
  obtain ⟨k, hk, he, hl⟩ := ha
  have pc := hp k hk.1 hk.2
  have pe : ∀ v : Int, 0 ≤ v → nB c n v = nB q n v := fun v hv => by
    have := nB_perm hc hq h1 h2 v.toNat
    rw [show ((v.toNat : Nat) : Int) = v from by omega] at this
    exact this
  have kk : ((k.toNat : Nat) : Int) = k := by omega
  have base : rk c n (n - k.toNat - 1 + 1) < rk q n (n - k.toNat - 1 + 1) := by
    have l : LH c n k.toNat + 1 ≤ LH q n k.toNat := by
      unfold LH
      rw [kk, ← pe (q k) (by omega), nB_cg (c := c) (q := q) k.toNat (fun m a b => he m a (by omega))]
      have t := tB_mono (c := c) (v := c k) (w := q k) (by omega) (k.toNat + 1) (n - k.toNat - 1)
      rw [show k.toNat + 1 + (n - k.toNat - 1) = n from by omega] at t
      have s1 : nB c (k.toNat + 1) (c k) = nB c k.toNat (c k) := by
        show nB c k.toNat (c k) + (if 0 ≤ c (k.toNat : Nat) ∧ c (k.toNat : Nat) < c k then 1 else 0) = _
        rw [kk, if_neg (by omega)]
        omega
      have s2 : nB c (k.toNat + 1) (q k) = nB c k.toNat (q k) + 1 := by
        show nB c k.toNat (q k) + (if 0 ≤ c (k.toNat : Nat) ∧ c (k.toNat : Nat) < q k then 1 else 0) = _
        rw [kk, if_pos (by omega)]
      omega
    have p := fac_p (n - k.toNat - 1)
    have b1 := rk_b (c := c) (n := n) (n - k.toNat - 1) (by omega)
    have b2 := rk_b (c := q) (n := n) (n - k.toNat - 1) (by omega)
    have m1 := Int.mul_le_mul_of_nonneg_right l (show 0 ≤ fac (n - k.toNat - 1) by omega)
    rw [Int.add_mul, Int.one_mul] at m1
    show LH c n (n - (n - k.toNat - 1) - 1) * fac (n - k.toNat - 1) + rk c n (n - k.toNat - 1) < LH q n (n - (n - k.toNat - 1) - 1) * fac (n - k.toNat - 1) + rk q n (n - k.toNat - 1)
    rw [show n - (n - k.toNat - 1) - 1 = k.toNat from by omega]
    omega
  have up : ∀ e : Nat, n - k.toNat - 1 + 1 + e ≤ n → rk c n (n - k.toNat - 1 + 1 + e) < rk q n (n - k.toNat - 1 + 1 + e) := by
    intro e
    induction e with
    | zero => intro _; exact base
    | succ e ih =>
      intro hle
      have a := ih (by omega)
      have l : LH c n (n - (n - k.toNat - 1 + 1 + e) - 1) = LH q n (n - (n - k.toNat - 1 + 1 + e) - 1) := by
        have hm : ((n - (n - k.toNat - 1 + 1 + e) - 1 : Nat) : Int) < k := by omega
        unfold LH
        rw [he _ (by omega) hm, pe _ (hp _ (by omega) (by omega)), nB_cg (c := c) (q := q) (n - (n - k.toNat - 1 + 1 + e) - 1) (fun m a b => he m a (by omega))]
      show LH c n (n - (n - k.toNat - 1 + 1 + e) - 1) * fac (n - k.toNat - 1 + 1 + e) + rk c n (n - k.toNat - 1 + 1 + e) < LH q n (n - (n - k.toNat - 1 + 1 + e) - 1) * fac (n - k.toNat - 1 + 1 + e) + rk q n (n - k.toNat - 1 + 1 + e)
      rw [l]
      omega
  have z := up k.toNat (by omega)
  rw [show n - k.toNat - 1 + 1 + k.toNat = n from by omega] at z
  exact z
theorem fac6 {n : Nat} (h : n ≤ 6) : fac n ≤ 720 := by
  match n, h with
  | 0, _ => decide
  | 1, _ => decide
  | 2, _ => decide
  | 3, _ => decide
  | 4, _ => decide
  | 5, _ => decide
  | 6, _ => decide
  | n + 7, h => omega
/-- the next row lies above -/
theorem nx_up {c : Int → Int} {n I J : Int} (h : PVT c n I J) : ABV c (nxC c n I J) n :=
  ⟨I, ⟨h.1.1, by have := h.1.2; omega⟩, fun m _ q => nxC_lo q h.1.2.1, by rw [nxC_I h.1.2.1]; exact h.2.2.1⟩
theorem nx_inj {c : Int → Int} {n I J : Int} (h : PVT c n I J) (hc : INJ c n) : INJ (nxC c n I J) n := by
  have a1 : ∀ i j, 0 ≤ i → i < j → j < n → nxC c n I J i ≠ nxC c n I J j := fun i j i0 ij jn e => by
    by_cases z : I < i
    · have := nxC_asc h z ij jn
      omega
    · have hi : nxC c n I J i = if i = I then c J else c i := by
        by_cases y : i = I
        · rw [if_pos y, y, nxC_I h.1.2.1]
        · rw [if_neg y, nxC_lo (by omega) h.1.2.1]
      by_cases y2 : j ≤ I
      · have hj : nxC c n I J j = if j = I then c J else c j := by
          by_cases y : j = I
          · rw [if_pos y, y, nxC_I h.1.2.1]
          · rw [if_neg y, nxC_lo (by omega) h.1.2.1]
        rw [hi, hj, if_neg (by omega)] at e
        by_cases y : j = I
        · rw [if_pos y] at e
          have := hc i J i0 (by omega) (by have := h.1; omega) h.1.2.2 e
          have := h.1
          omega
        · rw [if_neg y] at e
          have := hc i j i0 (by omega) (by omega) jn e
          omega
      · have hj := nxC_hi (c := c) (n := n) (I := I) (J := J) (k := j) ⟨by omega, jn⟩ h.1.2.1
        have hp := h.1
        rw [hi, hj] at e
        by_cases y : i = I
        · rw [if_pos y] at e
          by_cases w : I + n - j = J
          · rw [if_pos w] at e
            have := h.2.2.1
            omega
          · rw [if_neg w] at e
            have := hc J (I + n - j) (by omega) (by omega) (by omega) (by omega) e
            omega
        · rw [if_neg y] at e
          by_cases w : I + n - j = J
          · rw [if_pos w] at e
            have := hc i I i0 (by omega) (by omega) (by omega) e
            omega
          · rw [if_neg w] at e
            have := hc i (I + n - j) i0 (by omega) (by omega) (by omega) e
            omega
  intro i j i0 i1 j0 j1 e
  rcases Int.lt_trichotomy i j with p | p | p
  · exact absurd e (a1 i j i0 p j1)
  · exact p
  · exact absurd e.symm (a1 j i j0 p i1)
