/-! HOW MANY BITS A NUMBER HAS -/
theorem bt_nI (n i : Nat) : bt (nI n) i = (decide (i < 32) && n.testBit i) := by
  show (BitVec.ofNat 32 n).getLsbD i = _
  rw [BitVec.getLsbD_ofNat]
theorem aI_nat {a b : Nat} (ha : a < 2 ^ 31) : aI (a : Int) (b : Int) = ((a &&& b : Nat) : Int) := by
  unfold aI
  have e : iI (a : Int) &&& iI (b : Int) = nI (a &&& b) := by
    apply b_ext
    intro i hi
    rw [b_and, iI_nI, iI_nI, bt_nI, bt_nI, bt_nI, Nat.testBit_and]
    simp [hi]
  rw [e, nI_toInt (Nat.lt_of_le_of_lt Nat.and_le_left ha)]
theorem usI_nat {a k : Nat} (ha : a < 2 ^ 31) (hk : k < 32) : usI (a : Int) (k : Int) = ((a / 2 ^ k : Nat) : Int) := by
  unfold usI
  have e : ((iI (a : Int)).toUInt32 >>> ((iI (k : Int)).toUInt32 &&& Int32.toUInt32 31)).toInt32 = nI (a / 2 ^ k) := by
    apply b_ext
    intro i hi
    rw [iI_nI, iI_nI, b_ushr k hk, bt_nI, bt_nI, Nat.testBit_div_two_pow, Nat.add_comm k i]
    by_cases h : i + k < 32
    · simp [hi, h]
    · have : a.testBit (i + k) = false := Nat.testBit_lt_two_pow (Nat.lt_of_lt_of_le ha (Nat.pow_le_pow_right (by decide) (by omega)))
      simp [hi, h, this]
  rw [e, nI_toInt (Nat.lt_of_le_of_lt (Nat.div_le_self _ _) ha)]
def pS1 (m x : Nat) : Nat := x - ((x / 2) &&& m)
def pS2 (m x : Nat) : Nat := (x &&& m) + ((x / 4) &&& m)
def pS3 (m x : Nat) : Nat := (x + x / 16) &&& m
def q1F (x : Nat) : Nat := x - ((x / 2) &&& 85)
def q2F (x : Nat) : Nat := (x &&& 51) + ((x / 4) &&& 51)
def q3F (x : Nat) : Nat := (x + x / 16) &&& 15
theorem bcF_nat {n : Nat} (hn : n < 2 ^ 30) : bcF (n : Int) = (((pS3 252645135 (pS2 858993459 (pS1 1431655765 n)) + pS3 252645135 (pS2 858993459 (pS1 1431655765 n)) / 256) + (pS3 252645135 (pS2 858993459 (pS1 1431655765 n)) + pS3 252645135 (pS2 858993459 (pS1 1431655765 n)) / 256) / 65536 &&& 63 : Nat) : Int) := by
  have hn' : n < 1073741824 := hn
  have u1 : usI (n : Int) 1 = ((n / 2 : Nat) : Int) := usI_nat (k := 1) (by omega) (by decide)
  have a1 : aI (usI (n : Int) 1) 1431655765 = ((n / 2 &&& 1431655765 : Nat) : Int) := by
    rw [u1]
    exact aI_nat (b := 1431655765) (by omega)
  have l1 : n / 2 &&& 1431655765 ≤ n / 2 := Nat.and_le_left
  have d1 : (n : Int) - aI (usI (n : Int) 1) 1431655765 = ((pS1 1431655765 n : Nat) : Int) := by
    rw [a1]
    unfold pS1
    omega
  have b1 : pS1 1431655765 n ≤ n := by unfold pS1; omega
  generalize pS1 1431655765 n = s1 at d1 b1 ⊢
  have e2 : bc2 (n : Int) (aI (usI (n : Int) 1) 1431655765) = ((pS2 858993459 s1 : Nat) : Int) := by
    unfold bc2
    rw [d1, show usI (s1 : Int) 2 = ((s1 / 4 : Nat) : Int) from usI_nat (k := 2) (by omega) (by decide), show aI (s1 : Int) 858993459 = ((s1 &&& 858993459 : Nat) : Int) from aI_nat (b := 858993459) (by omega), show aI ((s1 / 4 : Nat) : Int) 858993459 = ((s1 / 4 &&& 858993459 : Nat) : Int) from aI_nat (b := 858993459) (by omega)]
    unfold pS2
    exact (Int.natCast_add _ _).symm
  have b2 : pS2 858993459 s1 ≤ 1717986918 := by
    have x : s1 &&& 858993459 ≤ 858993459 := Nat.and_le_right
    have y : s1 / 4 &&& 858993459 ≤ 858993459 := Nat.and_le_right
    unfold pS2
    omega
  unfold bcF
  rw [e2]
  generalize pS2 858993459 s1 = s2 at b2 ⊢
  have e7 : bc7 (s2 : Int) = ((pS3 252645135 s2 : Nat) : Int) := by
    unfold bc7
    rw [show usI (s2 : Int) 4 = ((s2 / 16 : Nat) : Int) from usI_nat (k := 4) (by omega) (by decide), ← Int.natCast_add]
    exact aI_nat (b := 252645135) (by omega)
  have b3 : pS3 252645135 s2 ≤ 252645135 := Nat.and_le_right
  rw [e7]
  generalize pS3 252645135 s2 = s3 at b3 ⊢
  rw [show usI (s3 : Int) 8 = ((s3 / 256 : Nat) : Int) from usI_nat (k := 8) (by omega) (by decide), ← Int.natCast_add, show usI ((s3 + s3 / 256 : Nat) : Int) 16 = (((s3 + s3 / 256) / 65536 : Nat) : Int) from usI_nat (k := 16) (by omega) (by decide), ← Int.natCast_add]
  exact aI_nat (b := 63) (by omega)
theorem and_sp (a M m : Nat) (hm : m < 256) : a &&& (256 * M + m) = 256 * (a / 256 &&& M) + (a % 256 &&& m) := by
  have h := Nat.div_add_mod (a &&& (256 * M + m)) 256
  have h1 : (a &&& (256 * M + m)) / 2 ^ 8 = a / 2 ^ 8 &&& (256 * M + m) / 2 ^ 8 := Nat.and_div_two_pow
  have h2 : (a &&& (256 * M + m)) % 2 ^ 8 = (a % 2 ^ 8) &&& ((256 * M + m) % 2 ^ 8) := Nat.and_mod_two_pow
  rw [show (2 : Nat) ^ 8 = 256 from rfl] at h1 h2
  rw [show (256 * M + m) / 256 = M by omega] at h1
  rw [show (256 * M + m) % 256 = m by omega] at h2
  rw [h1, h2] at h
  exact h.symm
set_option maxRecDepth 100000 in
theorem by1 : ∀ l : Nat, l < 256 → ∀ e : Nat, e < 2 → (l / 2 + 128 * e) &&& 85 = (l / 2) &&& 85 := by decide +kernel
set_option maxRecDepth 100000 in
theorem by2 : ∀ l : Nat, l < 256 → ∀ e : Nat, e < 4 → (l / 4 + 64 * e) &&& 51 = (l / 4) &&& 51 := by decide +kernel
set_option maxRecDepth 100000 in
theorem by3 : ∀ l : Nat, l < 69 → ∀ e : Nat, e < 5 → (l + l / 16 + 16 * e) &&& 15 = (l + l / 16) &&& 15 := by decide +kernel
set_option maxRecDepth 100000 in
theorem byb : ∀ b : Nat, b < 256 → q1F b < 256 ∧ q2F (q1F b) < 69 ∧ q2F (q1F b) % 16 < 5 := by decide +kernel
def pcB (n : Nat) : Nat → Nat
  | 0 => 0
  | k + 1 => pcB n k + (if n.testBit k then 1 else 0)
set_option maxRecDepth 100000 in
theorem byp : ∀ b : Nat, b < 256 → q3F (q2F (q1F b)) = pcB b 8 ∧ pcB b 8 ≤ 8 := by decide +kernel
theorem pS1_sp (M h l : Nat) (hl : l < 256) : pS1 (256 * M + 85) (256 * h + l) = 256 * pS1 M h + q1F l := by
  unfold pS1 q1F
  rw [and_sp _ _ _ (by decide), show (256 * h + l) / 2 / 256 = h / 2 by omega, show (256 * h + l) / 2 % 256 = l / 2 + 128 * (h % 2) by omega, by1 l hl (h % 2) (by omega)]
  have a : h / 2 &&& M ≤ h / 2 := Nat.and_le_left
  have b : l / 2 &&& 85 ≤ l / 2 := Nat.and_le_left
  omega
theorem pS2_sp (M h l : Nat) (hl : l < 256) : pS2 (256 * M + 51) (256 * h + l) = 256 * pS2 M h + q2F l := by
  unfold pS2 q2F
  rw [and_sp (256 * h + l) M 51 (by decide), and_sp ((256 * h + l) / 4) M 51 (by decide), show (256 * h + l) / 256 = h by omega, show (256 * h + l) % 256 = l by omega, show (256 * h + l) / 4 / 256 = h / 4 by omega, show (256 * h + l) / 4 % 256 = l / 4 + 64 * (h % 4) by omega, by2 l hl (h % 4) (by omega)]
  omega
theorem pS3_sp (M h l : Nat) (hl : l < 69) (hh : h % 16 < 5) : pS3 (256 * M + 15) (256 * h + l) = 256 * pS3 M h + q3F l := by
  unfold pS3 q3F
  rw [and_sp _ _ _ (by decide), show (256 * h + l + (256 * h + l) / 16) / 256 = h + h / 16 by omega, show (256 * h + l + (256 * h + l) / 16) % 256 = l + l / 16 + 16 * (h % 16) by omega, by3 l hl (h % 16) hh]
theorem pcB_cg {a b : Nat} : ∀ k : Nat, (∀ i, i < k → a.testBit i = b.testBit i) → pcB a k = pcB b k := by
  intro k
  induction k with
  | zero => intro _; rfl
  | succ k ih =>
    intro h
    unfold pcB
    rw [ih (fun i q => h i (by omega)), h k (by omega)]
theorem pcB_add (n : Nat) : ∀ k : Nat, pcB n (8 + k) = pcB (n % 256) 8 + pcB (n / 256) k := by
  intro k
  induction k with
  | zero =>
    show pcB n 8 = pcB (n % 256) 8 + 0
    rw [Nat.add_zero]
    refine pcB_cg 8 (fun i hi => ?_)
    have := Nat.testBit_mod_two_pow n 8 i
    rw [show (2 : Nat) ^ 8 = 256 from rfl] at this
    rw [this]
    simp [hi]
  | succ k ih =>
    show pcB n (8 + k) + (if n.testBit (8 + k) then 1 else 0) = pcB (n % 256) 8 + (pcB (n / 256) k + (if (n / 256).testBit k then 1 else 0))
    have := Nat.testBit_div_two_pow (n := 8) n k
    rw [show (2 : Nat) ^ 8 = 256 from rfl, Nat.add_comm k 8] at this
    rw [ih, this]
    omega
theorem bcF_pc {n : Nat} (hn : n < 2 ^ 30) : bcF (n : Int) = ((pcB n 32 : Nat) : Int) := by
  have hn' : n < 1073741824 := hn
  have hb : n = 256 * (256 * (256 * (n / 16777216) + n / 65536 % 256) + n / 256 % 256) + n % 256 := by omega
  have hp : pcB n 32 = pcB (n % 256) 8 + (pcB (n / 256 % 256) 8 + (pcB (n / 65536 % 256) 8 + pcB (n / 16777216) 8)) := by
    have a1 : pcB n (8 + 24) = _ := pcB_add n 24
    have a2 : pcB (n / 256) (8 + 16) = _ := pcB_add (n / 256) 16
    have a3 : pcB (n / 256 / 256) (8 + 8) = _ := pcB_add (n / 256 / 256) 8
    rw [show n / 256 / 256 = n / 65536 by omega] at a2 a3
    rw [show n / 65536 / 256 = n / 16777216 by omega] at a3
    show pcB n (8 + 24) = _
    rw [a1]
    show pcB (n % 256) 8 + pcB (n / 256) (8 + 16) = _
    rw [a2]
    show pcB (n % 256) 8 + (pcB (n / 256 % 256) 8 + pcB (n / 65536) (8 + 8)) = _
    rw [a3]
  rw [bcF_nat hn, hp]
  have h0 : n % 256 < 256 := by omega
  have h1 : n / 256 % 256 < 256 := by omega
  have h2 : n / 65536 % 256 < 256 := by omega
  have h3 : n / 16777216 < 256 := by omega
  generalize n % 256 = b0 at hb h0 ⊢
  generalize n / 256 % 256 = b1 at hb h1 ⊢
  generalize n / 65536 % 256 = b2 at hb h2 ⊢
  generalize n / 16777216 = b3 at hb h3 ⊢
  have g0 := byb b0 h0
  have g1 := byb b1 h1
  have g2 := byb b2 h2
  have g3 := byb b3 h3
  have p0 := byp b0 h0
  have p1 := byp b1 h1
  have p2 := byp b2 h2
  have p3 := byp b3 h3
  have e1 : pS1 1431655765 n = 256 * (256 * (256 * q1F b3 + q1F b2) + q1F b1) + q1F b0 := by
    rw [hb, show 1431655765 = 256 * (256 * (256 * 85 + 85) + 85) + 85 from rfl, pS1_sp _ _ _ h0, pS1_sp _ _ _ h1, pS1_sp _ _ _ h2]
    rfl
  have e2 : pS2 858993459 (256 * (256 * (256 * q1F b3 + q1F b2) + q1F b1) + q1F b0) = 256 * (256 * (256 * q2F (q1F b3) + q2F (q1F b2)) + q2F (q1F b1)) + q2F (q1F b0) := by
    rw [show 858993459 = 256 * (256 * (256 * 51 + 51) + 51) + 51 from rfl, pS2_sp _ _ _ g0.1, pS2_sp _ _ _ g1.1, pS2_sp _ _ _ g2.1]
    rfl
  have e3 : pS3 252645135 (256 * (256 * (256 * q2F (q1F b3) + q2F (q1F b2)) + q2F (q1F b1)) + q2F (q1F b0)) = 256 * (256 * (256 * pcB b3 8 + pcB b2 8) + pcB b1 8) + pcB b0 8 := by
    rw [show 252645135 = 256 * (256 * (256 * 15 + 15) + 15) + 15 from rfl, pS3_sp _ _ _ g0.2.1 (by omega), pS3_sp _ _ _ g1.2.1 (by omega), pS3_sp _ _ _ g2.2.1 (by omega)]
    show 256 * (256 * (256 * q3F (q2F (q1F b3)) + q3F (q2F (q1F b2))) + q3F (q2F (q1F b1))) + q3F (q2F (q1F b0)) = _
    rw [p0.1, p1.1, p2.1, p3.1]
  rw [e1, e2, e3]
  have k0 := p0.2
  have k1 := p1.2
  have k2 := p2.2
  have k3 := p3.2
  generalize pcB b0 8 = c0 at k0 ⊢
  generalize pcB b1 8 = c1 at k1 ⊢
  generalize pcB b2 8 = c2 at k2 ⊢
  generalize pcB b3 8 = c3 at k3 ⊢
  have m6 : ∀ x : Nat, x &&& 63 = x % 64 := fun x => Nat.and_two_pow_sub_one_eq_mod x 6
  rw [m6]
  have d1 : (256 * (256 * (256 * c3 + c2) + c1) + c0) / 256 = 65536 * c3 + 256 * c2 + c1 := by omega
  rw [d1]
  have d2 : (256 * (256 * (256 * c3 + c2) + c1) + c0 + (65536 * c3 + 256 * c2 + c1)) / 65536 = 257 * c3 + c2 := by omega
  rw [d2]
  have d3 : (256 * (256 * (256 * c3 + c2) + c1) + c0 + (65536 * c3 + 256 * c2 + c1) + (257 * c3 + c2)) % 64 = c0 + (c1 + (c2 + c3)) := by omega
  rw [d3]
def cnF (f : Int → Int) : Nat → Int
  | 0 => 0
  | n + 1 => cnF f n + (if f n = 0 then 0 else 1)
theorem bc_cn {x : Int} {f : Int → Int} {n : Nat} (hn : n ≤ 30) (hR : iR x) (h : ∀ i : Nat, i < 32 → (bt (iI x) i = true ↔ (i < n ∧ f i ≠ 0))) : bcF x = cnF f n := by
  have hb : ∀ i : Nat, (iI x).toBitVec.toNat.testBit i = bt (iI x) i := fun i => rfl
  have lt : (iI x).toBitVec.toNat < 2 ^ 30 := by
    refine Nat.lt_pow_two_of_testBit _ (fun i hi => ?_)
    rw [hb]
    by_cases c : i < 32
    · cases e : bt (iI x) i with
      | false => rfl
      | true => have := (h i c).mp e; omega
    · exact b_big (by omega)
  have ex : x = (((iI x).toBitVec.toNat : Nat) : Int) := by
    have e := iI_toInt hR
    have e2 : (iI x).toInt = (((iI x).toBitVec.toNat : Nat) : Int) := BitVec.toInt_eq_toNat_of_lt (x := (iI x).toBitVec) (by
      have : (2 : Nat) ^ 30 = 1073741824 := rfl
      have : (2 : Nat) ^ 32 = 4294967296 := rfl
      omega)
    rw [← e2]
    exact e.symm
  have key : ∀ k : Nat, k ≤ 32 → ((pcB (iI x).toBitVec.toNat k : Nat) : Int) = cnF f (min k n) := by
    intro k
    induction k with
    | zero => intro _; rw [Nat.zero_min]; rfl
    | succ k ih =>
      intro hk
      have e := ih (by omega)
      unfold pcB
      rw [hb k]
      by_cases c : k < n
      · rw [show min (k + 1) n = min k n + 1 from by omega]
        unfold cnF
        rw [show min k n = k from by omega] at e ⊢
        rw [← e]
        by_cases d : f k = 0
        · have : ¬ bt (iI x) k = true := fun q => ((h k (by omega)).mp q).2 d
          rw [if_neg this, if_pos d]
          omega
        · have : bt (iI x) k = true := (h k (by omega)).mpr ⟨c, d⟩
          rw [if_pos this, if_neg d]
          omega
      · have : ¬ bt (iI x) k = true := fun q => c ((h k (by omega)).mp q).1
        rw [if_neg this, show min (k + 1) n = min k n from by omega, ← e]
        omega
  have := key 32 (Nat.le_refl _)
  rw [show min 32 n = n from by omega] at this
  rw [← this, ← bcF_pc lt, ← ex]
theorem egF_cn (r : Int → Int) : ∀ n : Nat, egF r n = cnF (fun i => if r (29 + i) = -1 then 0 else 1) n := by
  intro n
  induction n with
  | zero => rfl
  | succ n ih =>
    unfold egF cnF
    rw [ih]
    by_cases c : r (29 + n) = -1
    · rw [if_pos c, if_pos rfl]
    · rw [if_neg c, if_neg (by decide)]
theorem cnF_s {f : Int → Int} {i : Int} (h : 0 ≤ i) : cnF f (i + 1).toNat = cnF f i.toNat + (if f i = 0 then 0 else 1) := by
  rw [show (i + 1).toNat = i.toNat + 1 from by omega]
  show cnF f i.toNat + (if f (i.toNat : Nat) = 0 then 0 else 1) = _
  rw [show ((i.toNat : Nat) : Int) = i from by omega]
theorem cnF_b (f : Int → Int) : ∀ n : Nat, 0 ≤ cnF f n ∧ cnF f n ≤ n := by
  intro n
  induction n with
  | zero => exact ⟨Int.le_refl _, Int.le_refl _⟩
  | succ n ih =>
    unfold cnF
    split <;> omega
