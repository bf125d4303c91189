/-! THE CLASS'S NEXT ORDER IS THE NEXT ONE -/
theorem swF_a {c : Int → Int} {i j k : Int} : swF c i j k = if k = j then c i else if k = i then c j else c k := by
  unfold swF
  by_cases e : k = j
  · rw [if_pos e, e, upS]
  · rw [if_neg e, up_j e]
    by_cases e2 : k = i
    · rw [if_pos e2, e2, upS]
    · rw [if_neg e2, up_j e2]
theorem rvF_a {c : Int → Int} {lo hi k : Int} : rvF c lo hi k = if lo ≤ k ∧ k ≤ hi then c (lo + hi - k) else c k := rfl
theorem rv_step {c : Int → Int} {lo hi k : Int} (h : lo < hi) : rvF (swF c lo hi) (lo + 1) (hi - 1) k = rvF c lo hi k := by
  rw [rvF_a, rvF_a]
  by_cases a : lo + 1 ≤ k ∧ k ≤ hi - 1
  · rw [if_pos a, if_pos (by omega), swF_a, if_neg (by omega), if_neg (by omega), show lo + 1 + (hi - 1) - k = lo + hi - k from by omega]
  · rw [if_neg a, swF_a]
    by_cases e : k = hi
    · rw [if_pos e, if_pos (by omega), show lo + hi - k = lo from by omega]
    · rw [if_neg e]
      by_cases e2 : k = lo
      · rw [if_pos e2, if_pos (by omega), show lo + hi - k = hi from by omega]
      · rw [if_neg e2, if_neg (by omega)]
theorem rv_end {c : Int → Int} {lo hi k : Int} (h : hi ≤ lo) : rvF c lo hi k = c k := by
  rw [rvF_a]
  split
  · rw [show lo + hi - k = k from by omega]
  · rfl
theorem gX3_exchangeCells {i j : Int} {M : Mem} {Q : Mem → Prop} (hI : IX M) (hi : 0 ≤ i ∧ i < 6) (hj : 0 ≤ j ∧ j < 6) (hQ : ∀ M' : Mem, IX M' → (∀ k, k ≠ 180 → M' k = M k) → (∀ k, M' 180 k = swF (M 180) i j k) → Q M') : qX3_exchangeCells i j M Q := by
  unfold qX3_exchangeCells
  refine ⟨hi.1, hi.2, fun x3 e3 _ => ⟨hj.1, hj.2, fun x6 e6 _ M7 e7 M8 e8 => ?_⟩⟩
  have b3 : 0 ≤ x3 ∧ x3 ≤ 29 := by rw [e3]; exact (bx_c180).mp (hI.bx _ _)
  have b6 : 0 ≤ x6 ∧ x6 ≤ 29 := by rw [e6]; exact (bx_c180).mp (hI.bx _ _)
  have i7 : IX M7 := by rw [e7]; exact hI.up (by decide) ((bx_c180).mpr ⟨by omega, by omega⟩)
  have i8 : IX M8 := by rw [e8]; exact i7.up (by decide) ((bx_c180).mpr ⟨by omega, by omega⟩)
  refine hQ _ i8 (fun k hk => ?_) (fun k => ?_)
  · rw [e8, up2_n hk, e7, up2_n hk]
  · rw [e8, e7, e6, e3]
    unfold up2 swF
    simp
theorem gX3_toNext_L91 {Q : Int → Mem → Prop} : ∀ (n : Nat) (lo hi : Int) (M : Mem), IX M → (0 ≤ lo ∧ lo ≤ 6 ∧ -1 ≤ hi ∧ hi ≤ 5) → 6 - lo < (n : Int) → (∀ M' : Mem, IX M' → (∀ k, k ≠ 180 → M' k = M k) → (∀ k, M' 180 k = rvF (M 180) lo hi k) → Q 1 M') → qX3_toNext_L91 Q n lo hi M := by
  intro n
  induction n with
  | zero => intro lo hi M hI hb hm; exact absurd hm (by omega)
  | succ n ih =>
    intro lo hi M hI hb hm hQ
    rw [qX3_toNext_L91]
    refine ⟨⟨by omega, by omega⟩, ⟨by omega, by omega⟩, fun c => ?_, fun c => ?_⟩
    · exact hQ M hI (fun _ _ => rfl) (fun k => (rv_end c).symm)
    · refine gX3_exchangeCells hI (by omega) (by omega) (fun M1 i1 h1 h2 => ?_)
      refine ih (lo + 1) (hi + (-1)) M1 i1 (by omega) (by omega) (fun M2 i2 g1 g2 => hQ M2 i2 (fun k hk => by rw [g1 k hk, h1 k hk]) (fun k => ?_))
      rw [g2, show hi + (-1) = hi - 1 from by omega, show M1 180 = swF (M 180) lo hi from funext h2]
      exact rv_step (by omega)
theorem gX3_toNext_L7 {X34 : Int → Mem → Prop} {Q : Int → Mem → Prop} {M : Mem} {s : Int} (hs : s ≤ 6)
    (hX : ∀ i : Int, (-2 ≤ i ∧ i + 2 ≤ s) → (∀ j, i < j → j + 1 < s → M 180 (j + 1) < M 180 j) → (0 ≤ i → M 180 i ≤ M 180 (i + 1)) → X34 i M) :
    ∀ (n : Nat) (i : Int), (-2 ≤ i ∧ i + 2 ≤ s) → i + 2 < (n : Int) → (∀ j, i < j → j + 1 < s → M 180 (j + 1) < M 180 j) → qX3_toNext_L7 X34 Q n i M := by
  intro n
  induction n with
  | zero => intro i hi hm; exact absurd hm (by omega)
  | succ n ih =>
    intro i hi hm hd
    rw [qX3_toNext_L7]
    refine ⟨⟨by omega, by omega⟩, fun c => hX i hi hd (fun p => absurd p (by omega)), fun c => ?_⟩
    refine ⟨by omega, by omega, fun x6 e6 _ => ⟨by omega, by omega, fun x9 e9 _ => ⟨fun c2 => hX i hi hd (fun _ => by rw [← e6, ← e9]; exact c2), fun c2 => ?_⟩⟩⟩
    refine ih _ (by omega) (by omega) (fun j p q => ?_)
    by_cases z : j = i
    · rw [z, ← e6, ← e9]; omega
    · exact hd j (by omega) q
theorem gX3_toNext_L47 {X73 : Int → Int → Mem → Prop} {Q : Int → Mem → Prop} {M : Mem} {s i : Int} (hs : s ≤ 6) (hi : 0 ≤ i ∧ i < s) 
    (hX : ∀ j : Int, (i ≤ j ∧ j < s) → (∀ k, j < k → k < s → M 180 k < M 180 i) → (i < j → M 180 i ≤ M 180 j) → X73 i j M) :
    ∀ (n : Nat) (j : Int), (i ≤ j ∧ j < s) → j < (n : Int) → (∀ k, j < k → k < s → M 180 k < M 180 i) → qX3_toNext_L47 X73 Q n i j M := by
  intro n
  induction n with
  | zero => intro j hj hm; exact absurd hm (by omega)
  | succ n ih =>
    intro j hj hm hd
    rw [qX3_toNext_L47]
    refine ⟨⟨by omega, by omega⟩, ⟨by omega, by omega⟩, fun c => hX j hj hd (fun p => absurd p (by omega)), fun c => ?_⟩
    refine ⟨by omega, by omega, fun x20 e20 _ => ⟨by omega, by omega, fun x23 e23 _ => ⟨fun c2 => hX j hj hd (fun _ => by rw [← e20, ← e23]; exact c2), fun c2 => ?_⟩⟩⟩
    refine ih _ (by omega) (by omega) (fun k p q => ?_)
    by_cases z : k = j
    · rw [z, ← e20, ← e23]; omega
    · exact hd k (by omega) q
theorem gX3_toNext {M : Mem} {Q : Int → Mem → Prop} (hI : IX M) (hs : 0 ≤ M 179 2 ∧ M 179 2 ≤ 6) (hc : INJ (M 180) (M 179 2))
    (h0 : (∀ j, -1 < j → j + 1 < M 179 2 → M 180 (j + 1) < M 180 j) → Q 0 M)
    (h1 : ∀ I J, PVT (M 180) (M 179 2) I J → ∀ M' : Mem, IX M' → (∀ k, k ≠ 180 → M' k = M k) → (∀ k, M' 180 k = nxC (M 180) (M 179 2) I J k) → Q 1 M') : qX3_toNext M Q := by
  unfold qX3_toNext
  intro x1 e1 _
  refine ⟨8, gX3_toNext_L7 hs.2 (fun i hi hd hp => ?_) 8 (x1 - 2) (by omega) (by omega) (fun j p q => by omega)⟩
  unfold qX3_toNext_J34
  refine ⟨⟨by omega, by omega⟩, fun c => ?_, fun c => h0 (fun j p q => hd j (by omega) q)⟩
  intro x14 e14 _
  have lt : M 180 i < M 180 (i + 1) := by
    have a := hp c
    rcases Int.lt_or_le (M 180 i) (M 180 (i + 1)) with b | b
    · exact b
    · have := hc i (i + 1) c (by omega) (by omega) (by omega) (by omega)
      omega
  refine ⟨8, gX3_toNext_L47 hs.2 (by omega) (fun j hj hd2 hp2 => ?_) 8 (x14 - 1) (by omega) (by omega) (fun k p q => by omega)⟩
  have ij : i < j := by
    rcases Int.lt_or_le i j with b | b
    · exact b
    · have := hd2 (i + 1) (by omega) (by omega)
      omega
  have lt2 : M 180 i < M 180 j := by
    have a := hp2 ij
    rcases Int.lt_or_le (M 180 i) (M 180 j) with b | b
    · exact b
    · have := hc i j c (by omega) (by omega) (by omega) (by omega)
      omega
  unfold qX3_toNext_J73
  refine ⟨⟨by omega, by omega⟩, ⟨by omega, by omega⟩, gX3_exchangeCells hI (by omega) (by omega) (fun M1 i1 g1 g2 => ?_)⟩
  intro x29 e29 _
  have e29' : x29 = M 179 2 := by rw [e29, g1 179 (by decide)]
  refine ⟨8, gX3_toNext_L91 8 (i + 1) (x29 - 1) M1 i1 (by omega) (by omega) (fun M2 i2 k1 k2 => ?_)⟩
  refine h1 i j ⟨⟨c, ij, by omega⟩, hd, lt2, hd2⟩ M2 i2 (fun k hk => by rw [k1 k hk, g1 k hk]) (fun k => ?_)
  rw [k2, e29', show M1 180 = swF (M 180) i j from funext g2]
  rfl
