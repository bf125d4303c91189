theorem sX12_isSo {p1 : Int} {p2 : Int} {p3 : Int} {b : Int} {M : Mem} {Q : Int → Mem → Prop} (hI : IM b M) (hp : 0 ≤ p1 ∧ p1 ≤ 5) (hQ : ∀ z : Int, Q z M) : qX12_isSo p1 p2 p3 M Q := by
  unfold qX12_isSo
  have hbn := hI.nn
  refine ⟨fun c => ?_, fun c => ?_, fun c => ?_, fun c => ?_⟩
  · refine sX12_owners (p1 := p1) hI  ?_
    intro x2_2642 q2643
    refine sJ6_bitCountM (p0 := x2_2642) hI  ?_
    intro x3_2644 p2645 q2646
    refine ⟨fun c => ?_, fun c => ?_⟩
    · exact hQ _
    · exact hQ _
  · refine sX12_isOn (p1 := p1) hI (Or.inr rfl) (by omega) ?_
    intro x5_2650 p2651 q2652 q2653
    refine ⟨fun c => ?_, fun c => ?_⟩
    · exact hQ _
    · refine ⟨by omega, ?_⟩
      refine ⟨by omega, ?_⟩
      intro x9_2656 ex9_2656 rx9_2656
      have bx9_2656 : -2147483648 ≤ x9_2656 ∧ x9_2656 ≤ 2147483647 := rx9_2656
      refine ⟨fun c => ?_, fun c => ?_⟩
      · exact hQ _
      · exact hQ _
  · refine sX12_bitsBy (p2 := 29) (p3 := p1) hI (Or.inr rfl) (by omega) ?_
    intro x11_2660 q2661
    refine sJ6_bitCountM (p0 := x11_2660) hI  ?_
    intro x12_2662 p2663 q2664
    refine ⟨fun c => ?_, fun c => ?_⟩
    · exact hQ _
    · exact hQ _
  · intro x14_2668 ex14_2668 rx14_2668
    first | (have fx14_2668 := rmI_b (a := p1) (b := 2) (by omega) (by omega); rw [← ex14_2668] at fx14_2668) | skip
    refine ⟨fun c => ?_, fun c => ?_⟩
    · exact hQ _
    · exact hQ _
theorem sX12_fits_L37  {X84 : Int → Int → Int → Mem → Prop} {Q : Int → Mem → Prop} {b : Int} {g1 : Int} {g2 : Int} (hb : b + 200 ≤ 2000000000) (hQ : ∀ z : Int, ∀ M' : Mem, IM (b + 200) M' → Q z M') (hX84 : ∀ w1 w2 w3 : Int, ∀ M' : Mem, IM (b + 200) M' → (w1 = g1 ∧ w2 = g2 ∧ 0 ≤ w3 ∧ w3 ≤ 1) → X84 w1 w2 w3 M') : ∀ (n : Nat) (v1 v2 v3 v4 : Int) (M : Mem), IM (b + 200) M → (v1 = g1 ∧ v2 = g2 ∧ 0 ≤ v2 ∧ v2 ≤ 5 ∧ 0 ≤ v3 ∧ v3 ≤ 1 ∧ 0 ≤ v4 ∧ v4 ≤ 8) → 8 - v4 < (n : Int) → qX12_fits_L37 X84 Q n v1 v2 v3 v4 M := by
  intro n
  induction n with
  | zero => intro v1 v2 v3 v4 M hI hv hm; exact absurd hm (by omega)
  | succ n ih =>
    intro v1 v2 v3 v4 M hI hv hm
    rw [qX12_fits_L37]
    have hbn := hI.nn
    intro x7_2671 ex7_2671 rx7_2671
    have bx7_2671 : 0 ≤ x7_2671 ∧ x7_2671 ≤ 8 := by rw [ex7_2671]; exact bm_c1_45.mp (hI.bx _ _)
    refine ⟨(by first | assumption | exact (by omega)), ?_⟩
    refine ⟨fun c => ?_, fun c => ?_⟩
    · exact hX84 _ _ _ _ (hI.mono (by omega)) (by omega)
    · refine ⟨(by first | assumption | exact (by omega)), ?_⟩
      refine ⟨fun c => ?_, fun c => ?_⟩
      · exact ih _ _ _ _ _ (hI.mono (by omega)) (by omega) (by omega)
      · refine ⟨by omega, ?_⟩
        refine ⟨by omega, ?_⟩
        intro x14_2676 ex14_2676 rx14_2676
        have bx14_2676 : -2147483648 ≤ x14_2676 ∧ x14_2676 ≤ 2147483647 := rx14_2676
        intro x15_2677 ex15_2677 rx15_2677
        have bx15_2677 : -2147483648 ≤ x15_2677 ∧ x15_2677 ≤ 2147483647 := rx15_2677
        refine ⟨(by first | assumption | exact (by omega)), ?_⟩
        refine sX12_isSo (p1 := v2) (p2 := x14_2676) (p3 := x15_2677) hI (by omega) ?_
        intro x17_2678 q2679 q2680
        refine ⟨fun c => ?_, fun c => ?_⟩
        · exact ih _ _ _ _ _ (hI.mono (by omega)) (by omega) (by omega)
        · exact ih _ _ _ _ _ (hI.mono (by omega)) (by omega) (by omega)
theorem sX12_fits_L24  {X104 : Int → Mem → Prop} {Q : Int → Mem → Prop} {b : Int} (hb : b + 200 ≤ 2000000000) (hQ : ∀ z : Int, ∀ M' : Mem, IM (b + 200) M' → Q z M') (hX104 : ∀ w1 : Int, ∀ M' : Mem, IM (b + 200) M' → iR w1 → X104 w1 M') : ∀ (n : Nat) (v1 v2 : Int) (M : Mem), IM (b + 200) M → (0 ≤ v2 ∧ v2 ≤ 6) → iR v1 → 6 - v2 < (n : Int) → qX12_fits_L24 X104 Q n v1 v2 M := by
  intro n
  induction n with
  | zero => intro v1 v2 M hI hv hrv1 hm; exact absurd hm (by omega)
  | succ n ih =>
    intro v1 v2 M hI hv hrv1 hm
    rw [qX12_fits_L24]
    have hbn := hI.nn
    intro x4_2683 ex4_2683 rx4_2683
    have bx4_2683 : 0 ≤ x4_2683 ∧ x4_2683 ≤ 6 := by rw [ex4_2683]; exact bm_c1_4.mp (hI.bx _ _)
    refine ⟨(by first | assumption | exact (by omega)), ?_⟩
    refine ⟨fun c => ?_, fun c => ?_⟩
    · exact hX104 _ _ (hI.mono (by omega)) (by first | assumption | exact (by omega))
    · refine ⟨9, ?_⟩
      refine sX12_fits_L37 (b := b)  (g1 := v1) (g2 := v2) hb ?_ ?_ _ _ _ _ _ _ (hI.mono (by omega)) (by omega) (by omega)
      · exact hQ
      · intro v1_2686 v2_2687 v3_2688 M_2689 hM_2689 p2690
        refine ⟨(by first | assumption | exact (by omega)), ?_⟩
        refine ⟨fun c => ?_, fun c => ?_⟩
        · intro x22_2692 ex22_2692 rx22_2692
          first | (have fx22_2692 := oI_64 (a := v1_2686) (b := 0) (by omega) (by omega); rw [← ex22_2692] at fx22_2692) | skip
          exact ih _ _ _ (hM_2689.mono (by omega)) (by omega) (by first | assumption | exact (by omega)) (by omega)
        · intro x23_2694 ex23_2694 rx23_2694
          first | (have fx23_2694 := slI_1 (b := v2_2687) (by omega); rw [← ex23_2694] at fx23_2694) | skip
          intro x24_2695 ex24_2695 rx24_2695
          first | (have fx24_2695 := oI_64 (a := v1_2686) (b := x23_2694) (by omega) (by omega); rw [← ex24_2695] at fx24_2695) | skip
          exact ih _ _ _ (hM_2689.mono (by omega)) (by omega) (by first | assumption | exact (by omega)) (by omega)
theorem sX12_fits  {b : Int} {M : Mem} {Q : Int → Mem → Prop} (hI : IM b M) (hb : b + 200 ≤ 2000000000) (hQ : ∀ z : Int, ∀ M' : Mem, IM (b + 200) M' → Q z M') : qX12_fits M Q := by
  unfold qX12_fits
  have hbn := hI.nn
  intro M1_2696 h_M1_2696
  have hM1_2696 : IM (b) M1_2696 := by rw [h_M1_2696]; exact hI.up (by omega) (by simp [BM])
  refine sX12_copies  hM1_2696  ?_
  intro M2_2697 hM2_2697
  refine sX12_goesOn (p2 := 200) hM2_2697 (by omega) (Or.inr rfl) (by omega) ?_
  intro M3_2698 hM3_2698
  refine ⟨7, ?_⟩
  refine sX12_fits_L24 (b := b)  hb ?_ ?_ _ _ _ _ (hM3_2698.mono (by omega)) (by omega) (by first | assumption | exact (by omega)) (by omega)
  · exact hQ
  · intro v1_2699 M_2700 hM_2700 r2701
    intro M26_2702 h_M26_2702
    have hM26_2702 : IM (b + 200) M26_2702 := by rw [h_M26_2702]; exact hM_2700.up (by omega) (bm_c1_1.mpr (by omega))
    refine ⟨(by first | assumption | exact (by omega)), ?_⟩
    refine sJ6_bitCountM (p0 := v1_2699) hM26_2702  ?_
    intro x28_2703 p2704 q2705
    have u2706 : 0 ≤ M26_2702 1 1 ∧ M26_2702 1 1 ≤ 24 := bm_c1_1.mp (hM26_2702.bx _ _)
    have t2707 : M26_2702 1 1 = 0 := by rw [h_M26_2702, up2_s]
    refine sX12_enters (p1 := x28_2703) hM26_2702 (by omega) ?_
    intro M29_2708 hM29_2708 p2709
    exact hQ _ _ (hM29_2708.mono (by omega))
theorem rmL_e {a b : Int} (ha : lR a) (hb : lR b) (h0 : b ≠ 0) (ho : 0 ≤ a ∨ 0 < b) : rmL a b = Int.tmod a b := by
  have nq : (Int.tdiv a b).natAbs ≤ a.natAbs := by rw [Int.natAbs_tdiv]; exact Nat.div_le_self _ _
  have nr : (Int.tmod a b).natAbs < b.natAbs := by rw [Int.natAbs_tmod]; exact Nat.mod_lt _ (by omega)
  have ha' : -9223372036854775808 ≤ a ∧ a ≤ 9223372036854775807 := ha
  have hb' : -9223372036854775808 ≤ b ∧ b ≤ 9223372036854775807 := hb
  have hq0 : 0 ≤ a → 0 < b → 0 ≤ Int.tdiv a b := fun x y => Int.tdiv_nonneg x (by omega)
  have hqR : -9223372036854775808 ≤ Int.tdiv a b ∧ Int.tdiv a b ≤ 9223372036854775807 := by
    rcases ho with h | h
    · omega
    · rcases Int.lt_or_le a 0 with h2 | h2
      · have : Int.tdiv a b ≤ 0 := by
          have := Int.tdiv_nonneg (a := -a) (b := b) (by omega) (by omega)
          rw [Int.neg_tdiv] at this
          omega
        omega
      · omega
  have q : lI a / lI b = lI (Int.tdiv a b) := by
    rw [← lI_toI (lI a / lI b), Int64.toInt_div, show (lI a).toInt = a from lI_toInt ha, show (lI b).toInt = b from lI_toInt hb]
    rw [Int.bmod_eq_of_le (by omega) (by omega)]
  have hm : a - Int.tdiv a b * b = Int.tmod a b := by
    have := Int.tmod_add_mul_tdiv a b
    have e : Int.tdiv a b * b = b * Int.tdiv a b := Int.mul_comm _ _
    omega
  unfold rmL
  rw [q]
  have : lI a - lI (Int.tdiv a b) * lI b = lI (a - Int.tdiv a b * b) := by
    unfold lI
    rw [Int64.ofInt_sub, Int64.ofInt_mul]
  rw [this, hm]
  exact lI_toInt (show -9223372036854775808 ≤ Int.tmod a b ∧ Int.tmod a b ≤ 9223372036854775807 from (by omega))
theorem common_step {d : Nat} {p0 p2 : Int} {M : Mem} {Q : Int → Mem → Prop} (h0 : lR p0) (h2 : lR p2) (ho : 0 ≤ p0 ∨ 0 ≤ p2) (ha : p2 = 0 → Q p0 M) (hb : p2 ≠ 0 → qX12_common d p2 (Int.tmod p0 p2) M (fun (x5 : Int) (M5 : Mem) => lR x5 → Q x5 M5)) : qX12_common (d + 1) p0 p2 M Q := by
  show bX12_common (qX12_common d) p0 p2 M Q
  unfold bX12_common
  intro x1 _ c1
  refine ⟨fun c => ?_, fun c => ha (by omega)⟩
  have hn : p2 ≠ 0 := by omega
  refine ⟨hn, ?_⟩
  intro x4 e4 _
  rw [e4, rmL_e h0 h2 hn (by omega)]
  exact hb hn
theorem sX12_common : ∀ (k d : Nat) (p0 p2 : Int) (M : Mem) (Q : Int → Mem → Prop), lR p0 → lR p2 → (0 ≤ p0 ∨ 0 ≤ p2) → (p0 ≠ 0 ∨ p2 ≠ 0) → p2.natAbs < 2 ^ k → 2 * k + 1 ≤ d → (∀ z : Int, z ≠ 0 → lR z → Q z M) → qX12_common d p0 p2 M Q := by
  have tb : ∀ (a b : Int), lR b → b ≠ 0 → lR (Int.tmod a b) ∧ (Int.tmod a b).natAbs < b.natAbs := by
    intro a b hb h0
    have nr : (Int.tmod a b).natAbs < b.natAbs := by rw [Int.natAbs_tmod]; exact Nat.mod_lt _ (by omega)
    have hb' : -9223372036854775808 ≤ b ∧ b ≤ 9223372036854775807 := hb
    exact ⟨show -9223372036854775808 ≤ Int.tmod a b ∧ Int.tmod a b ≤ 9223372036854775807 from (by omega), nr⟩
  have ts : ∀ (a b : Int), (0 ≤ a ∨ 0 ≤ b) → 0 ≤ b ∨ 0 ≤ Int.tmod a b := by
    intro a b h
    rcases h with h | h
    · exact Or.inr (Int.tmod_nonneg _ h)
    · exact Or.inl h
  intro k
  induction k with
  | zero =>
    intro d p0 p2 M Q h0 h2 ho hn hk hd hQ
    obtain ⟨d, rfl⟩ : ∃ e, d = e + 1 := ⟨d - 1, by omega⟩
    have hz : p2 = 0 := by have : p2.natAbs < 1 := hk; omega
    exact common_step h0 h2 ho (fun _ => hQ _ (by omega) h0) (fun c => absurd hz c)
  | succ k ih =>
    intro d p0 p2 M Q h0 h2 ho hn hk hd hQ
    obtain ⟨d, rfl⟩ : ∃ e, d = e + 2 := ⟨d - 2, by omega⟩
    refine common_step h0 h2 ho (fun c => hQ _ (by omega) h0) (fun c => ?_)
    have t1 := tb p0 p2 h2 c
    have o1 := ts p0 p2 ho
    refine common_step h2 t1.1 o1 (fun c2 => fun _ => hQ _ c h2) (fun c2 => ?_)
    have t2 := tb p2 (Int.tmod p0 p2) t1.1 c2
    refine ih _ _ _ _ _ t1.1 t2.1 (ts _ _ o1) (Or.inl c2) ?_ (by omega) (fun z hz hl => fun _ => fun _ => hQ z hz hl)
    have e2 : (Int.tmod p2 (Int.tmod p0 p2)).natAbs = p2.natAbs % (Int.tmod p0 p2).natAbs := Int.natAbs_tmod _ _
    have hd2 := Nat.div_add_mod p2.natAbs (Int.tmod p0 p2).natAbs
    have hq : 1 ≤ p2.natAbs / (Int.tmod p0 p2).natAbs := (Nat.one_le_div_iff (by omega)).mpr (by omega)
    have hm2 : (Int.tmod p0 p2).natAbs ≤ (Int.tmod p0 p2).natAbs * (p2.natAbs / (Int.tmod p0 p2).natAbs) := Nat.le_mul_of_pos_right _ (by omega)
    rw [Nat.pow_succ] at hk
    omega
def p10 (z : Int) : Int := (10 : Int) ^ z.toNat
theorem p10_s {z : Int} (h : 0 ≤ z) : p10 (z + 1) = p10 z * 10 := by
  unfold p10
  rw [show (z + 1).toNat = z.toNat + 1 from by omega, Int.pow_succ]
theorem p10_b {z : Int} (h : 0 ≤ z ∧ z ≤ 12) : 1 ≤ p10 z ∧ p10 z ≤ 1000000000000 := by
  have : z = 0 ∨ z = 1 ∨ z = 2 ∨ z = 3 ∨ z = 4 ∨ z = 5 ∨ z = 6 ∨ z = 7 ∨ z = 8 ∨ z = 9 ∨ z = 10 ∨ z = 11 ∨ z = 12 := by omega
  rcases this with rfl | rfl | rfl | rfl | rfl | rfl | rfl | rfl | rfl | rfl | rfl | rfl | rfl <;> decide
theorem slI_12 {b : Int} (h : 0 ≤ b ∧ b ≤ 12) : 1 ≤ slI 1 b ∧ slI 1 b ≤ 4096 := by
  have : b = 0 ∨ b = 1 ∨ b = 2 ∨ b = 3 ∨ b = 4 ∨ b = 5 ∨ b = 6 ∨ b = 7 ∨ b = 8 ∨ b = 9 ∨ b = 10 ∨ b = 11 ∨ b = 12 := by omega
  rcases this with rfl | rfl | rfl | rfl | rfl | rfl | rfl | rfl | rfl | rfl | rfl | rfl | rfl <;> decide
theorem sX12_rains_L52 {p1 p2 p3 : Int} {X72 : Int → Int → Mem → Prop} {Q : Int → Mem → Prop} (hp : 1 ≤ p1 ∧ p1 ≤ 12) {v4 : Int} {M : Mem} (hX : X72 v4 (p10 p1) M) : ∀ (n : Nat) (v6 v8 : Int), v6 = p10 v8 → (0 ≤ v8 ∧ v8 ≤ p1) → p1 - v8 < (n : Int) → qX12_rains_L52 p1 p2 p3 X72 Q n v4 v6 v8 M := by
  intro n
  induction n with
  | zero => intro v6 v8 h6 hv hm; exact absurd hm (by omega)
  | succ n ih =>
    intro v6 v8 h6 hv hm
    rw [qX12_rains_L52]
    refine ⟨(by omega), ⟨fun c => ?_, fun c => ?_⟩⟩
    · rw [h6, show v8 = p1 from by omega]; exact hX
    · intro x10 e10 _
      refine ih _ _ ?_ (by omega) (by omega)
      have hb := p10_b (z := v8 + 1) (by omega)
      have hs := p10_s (z := v8) hv.1
      rw [e10, h6, ← hs]
      exact w64_id (by omega)
theorem sX12_rains_L89 {p1 p2 p3 b : Int} {X126 : Int → Int → Int → Int → Mem → Prop} {Q : Int → Mem → Prop} (hp : 1 ≤ p1 ∧ p1 ≤ 12) {v4 v6 v8 : Int} (h8 : iR v8) {M : Mem} (hI : IM b M) (hX : ∀ w : Int, lR w → X126 v4 v6 v8 w M) : ∀ (n : Nat) (v9 v11 : Int), lR v9 → (0 ≤ v11 ∧ v11 ≤ p1) → p1 - v11 < (n : Int) → qX12_rains_L89 p1 p2 p3 X126 Q n v4 v6 v8 v9 v11 M := by
  intro n
  induction n with
  | zero => intro v9 v11 h9 hv hm; exact absurd hm (by omega)
  | succ n ih =>
    intro v9 v11 h9 hv hm
    rw [qX12_rains_L89]
    refine ⟨(by omega), ⟨fun c => hX _ h9, fun c => ⟨h8, ?_⟩⟩⟩
    refine sX12_has (p0 := v8) (p1 := v11) hI ?_
    intro x18 _ _
    refine ⟨fun c2 => ?_, fun c2 => ?_⟩
    · intro x20 _ _ x21 _ r21
      exact ih _ _ r21 (by omega) (by omega)
    · intro x22 _ r22
      exact ih _ _ r22 (by omega) (by omega)
theorem sX12_rains_L75 {p1 p2 p3 b : Int} {X161 : Int → Int → Mem → Prop} {Q : Int → Mem → Prop} (hp : 1 ≤ p1 ∧ p1 ≤ 12) {v6 : Int} {M : Mem} (hI : IM b M) (hX : ∀ w : Int, lR w → X161 w v6 M) : ∀ (n : Nat) (v4 v8 : Int), lR v4 → (0 ≤ v8 ∧ v8 ≤ 4096) → 4096 - v8 < (n : Int) → qX12_rains_L75 p1 p2 p3 X161 Q n v4 v6 v8 M := by
  intro n
  induction n with
  | zero => intro v4 v8 h4 hv hm; exact absurd hm (by omega)
  | succ n ih =>
    intro v4 v8 h4 hv hm
    rw [qX12_rains_L75]
    intro x12 e12 _
    have b12 := slI_12 (b := p1) (by omega)
    refine ⟨(by omega), ⟨fun c => hX _ h4, fun c => ?_⟩⟩
    have h8 : iR v8 := (by omega)
    refine ⟨14, sX12_rains_L89 (b := b) hp h8 hI ?_ _ _ _ ⟨by decide, by decide⟩ (by omega) (by omega)⟩
    intro w hw
    refine ⟨h8, ?_⟩
    refine sX12_has (p0 := v8) (p1 := 0) hI ?_
    intro x25 _ _
    refine ⟨fun c2 => ?_, fun c2 => ?_⟩
    · intro x27 _ r27
      exact ih _ _ r27 (by omega) (by omega)
    · refine sJ6_bitCountM hI ?_
      intro x28 _ _
      refine ⟨fun c3 => ?_, fun c3 => ?_⟩
      · intro x30 _ r30
        exact ih _ _ r30 (by omega) (by omega)
      · intro x31 _ r31
        exact ih _ _ r31 (by omega) (by omega)
theorem sX12_rains {p1 p2 p3 b : Int} {M : Mem} {Q : Int → Mem → Prop} (hI : IM b M) (hQ : ∀ (z : Int) (M' : Mem), IM b M' → (z = if (1 ≤ p1 ∧ p1 ≤ 12) ∧ (0 ≤ p2 ∧ p2 ≤ 12) ∧ (0 ≤ p3 ∧ p3 ≤ 10) then 0 else -1) → Q z M') : qX12_rains p1 p2 p3 M Q := by
  unfold qX12_rains
  intro M1 h1
  have i1 : IM b M1 := by rw [h1]; exact hI.up (by omega) (by simp [BM])
  refine sX12_in (p0 := p1) (p2 := 1) (p4 := 12) i1 ?_
  intro x2 p2' _ _
  refine ⟨fun c => hQ _ _ i1 (by rw [if_neg (by omega)]), fun c => ?_⟩
  refine sX12_in (p0 := p2) (p2 := 0) (p4 := 12) i1 ?_
  intro x4 p4' _ _
  refine ⟨fun c2 => hQ _ _ i1 (by rw [if_neg (by omega)]), fun c2 => ?_⟩
  refine sX12_in (p0 := p3) (p2 := 0) (p4 := 10) i1 ?_
  intro x6 p6' _ _
  refine ⟨fun c3 => ?_, fun c3 => hQ _ _ i1 (by rw [if_neg (by omega)])⟩
  have hp : 1 ≤ p1 ∧ p1 ≤ 12 := by omega
  refine ⟨14, sX12_rains_L52 hp ?_ _ _ _ rfl (by omega) (by omega)⟩
  refine ⟨4097, sX12_rains_L75 (b := b) hp i1 ?_ _ _ _ ⟨by decide, by decide⟩ (by omega) (by omega)⟩
  intro w hw
  have hb := p10_b (z := p1) (by omega)
  have hl : lR (p10 p1) := show -9223372036854775808 ≤ p10 p1 ∧ p10 p1 ≤ 9223372036854775807 from (by omega)
  refine ⟨hw, hl, 110, by omega, ?_⟩
  refine sX12_common 40 110 _ _ _ _ hw hl (by omega) (by omega) (by have : (2 : Nat) ^ 40 = 1099511627776 := by decide
                                                                    omega) (by omega) ?_
  intro z hz hz2 _ M37 h37
  have i37 : IM b M37 := by rw [h37]; exact i1.up (by omega) (bm_c1_1.mpr (by decide))
  have k37 : M37 1 1 = 0 := by rw [h37, up2_s]
  refine ⟨hz, ?_⟩
  intro x39 _ _
  refine sX12_enters i37 (by omega) ?_
  intro M40 h40 g40
  refine ⟨hz, ?_⟩
  intro x42 _ _
  refine sX12_enters h40 (by omega) ?_
  intro M43 h43 g43
  exact hQ _ _ h43 (by rw [if_pos ⟨hp, by omega, by omega⟩])
theorem sX12_law_L42 {X71 : Int → Int → Mem → Prop} {Q : Int → Mem → Prop} {b : Int} {M0 : Mem} {v2 v3 : Int} (hX : ∀ (M' : Mem), IM b M' → (∀ j, 0 ≤ j → j < M0 1 24 → M' 28 j = M0 11 j) → FrJ (fun k j => k = 28) M0 M' → X71 v2 v3 M') : ∀ (n : Nat) (v4 : Int) (M : Mem), IM b M → (∀ j, 0 ≤ j → j < v4 → M 28 j = M0 11 j) → FrJ (fun k j => k = 28) M0 M → (0 ≤ v4 ∧ v4 ≤ 80) → 80 - v4 < (n : Int) → qX12_law_L42 X71 Q n v2 v3 v4 M := by
  intro n
  induction n with
  | zero => intro v4 M hI h1 hF hv hm; exact absurd hm (by omega)
  | succ n ih =>
    intro v4 M hI h1 hF hv hm
    rw [qX12_law_L42]
    intro x8 e8 _
    have b8 : 0 ≤ x8 ∧ x8 ≤ 80 := by rw [e8]; exact bm_c1_24.mp (hI.bx _ _)
    have f8 : x8 = M0 1 24 := by rw [e8]; exact hF 1 24 (by omega)
    refine ⟨(by omega), ⟨fun c => hX _ hI (fun j a q => h1 j a (by omega)) hF, fun c => ⟨by omega, by omega, ?_⟩⟩⟩
    intro x13 e13 _ M14 h14
    refine ih _ _ (by rw [h14]; exact hI.up (by omega) (by simp [BM])) ?_ (by rw [h14]; exact hF.up rfl) (by omega) (by omega)
    intro j a q
    rw [h14]
    by_cases cj : j = v4
    · rw [cj, up2_s, e13]; exact hF 11 v4 (by omega)
    · rw [up2_j cj]; exact h1 j a (by omega)
theorem sX12_draws {p1 : Int} {b : Int} {M : Mem} {Q : Int → Mem → Prop} (hI : IM b M) (hp : 1 ≤ p1 ∧ p1 ≤ 100) (hQ : ∀ z : Int, ∀ M' : Mem, IM b M' → (0 ≤ z ∧ z ≤ p1 - 1) → Q z M') : qX12_draws p1 M Q := by
  unfold qX12_draws
  have hbn := hI.nn
  intro x1_2796 ex1_2796 rx1_2796
  have bx1_2796 : -2147483648 ≤ x1_2796 ∧ x1_2796 ≤ 2147483647 := rx1_2796
  intro x2_2797 ex2_2797 rx2_2797
  first | (have fx2_2797 : x2_2797 = x1_2796 * 1103515245 := by rw [ex2_2797]; exact w32_id (by omega)) | skip
  intro x3_2798 ex3_2798 rx3_2798
  first | (have fx3_2798 : x3_2798 = x2_2797 + 12345 := by rw [ex3_2798]; exact w32_id (by omega)) | skip
  intro M4_2799 h_M4_2799
  have hM4_2799 : IM (b) M4_2799 := by rw [h_M4_2799]; exact hI.up (by omega) (by simp [BM])
  intro x5_2800 ex5_2800 rx5_2800
  have bx5_2800 : -2147483648 ≤ x5_2800 ∧ x5_2800 ≤ 2147483647 := rx5_2800
  have fx5_2800 : x5_2800 = x3_2798 := by rw [ex5_2800, h_M4_2799, up2_s]
  intro x6_2801 ex6_2801 rx6_2801
  have fx6_2801 := usI_16 x5_2800; rw [← ex6_2801] at fx6_2801
  refine ⟨by omega, ?_⟩
  intro x8_2802 ex8_2802 rx8_2802
  first | (have fx8_2802 := rmI_b (a := x6_2801) (b := p1) (by omega) (by omega); rw [← ex8_2802] at fx8_2802) | skip
  exact hQ _ _ (hM4_2799.mono (by omega)) (by omega)
theorem sX12_years_L30 {p1 : Int} {p2 : Int} {X120 : Mem → Prop} {Q : Int → Mem → Prop} {b : Int} (hb : b + 60 ≤ 2000000000) (hQ : ∀ z : Int, ∀ M' : Mem, IM (b + 60) M' → Q z M') (hX120 : ∀ M' : Mem, IM (b + 60) M' → X120 M') : ∀ (n : Nat) (v3 : Int) (M : Mem), IM (b + v3) M → (0 ≤ v3 ∧ v3 ≤ 60 ∧ p2 ≤ 60) → 60 - v3 < (n : Int) → qX12_years_L30 p1 p2 X120 Q n v3 M := by
  intro n
  induction n with
  | zero => intro v3 M hI hv hm; exact absurd hm (by omega)
  | succ n ih =>
    intro v3 M hI hv hm
    rw [qX12_years_L30]
    have hbn := hI.nn
    refine ⟨(by first | assumption | exact (by omega)), ?_⟩
    refine ⟨fun c => ?_, fun c => ?_⟩
    · exact hX120 _ (hI.mono (by omega))
    · refine sX12_draws (p1 := 4) hI (by omega) ?_
      intro x8_2805 M8_2806 hM8_2806 p2807 q2808
      refine ⟨fun c => ?_, fun c => ?_⟩
      · intro x10_2810 ex10_2810 rx10_2810
        have bx10_2810 : 0 ≤ x10_2810 ∧ x10_2810 ≤ 8 := by rw [ex10_2810]; exact bm_c1_5.mp (hM8_2806.bx _ _)
        refine ⟨fun c => ?_, fun c => ?_⟩
        · exact ih _ _ (hM8_2806.mono (by omega)) (by omega) (by omega)
        · intro x12_2813 ex12_2813 rx12_2813
          have bx12_2813 : 0 ≤ x12_2813 ∧ x12_2813 ≤ 8 := by rw [ex12_2813]; exact bm_c1_5.mp (hM8_2806.bx _ _)
          refine sX12_draws (p1 := x12_2813) hM8_2806 (by omega) ?_
          intro x13_2814 M13_2815 hM13_2815 p2816 q2817
          refine ⟨fun c => ?_, fun c => ?_⟩
          · refine sX12_draws (p1 := 5) hM13_2815 (by omega) ?_
            intro x15_2819 M15_2820 hM15_2820 p2821 q2822
            refine ⟨(by first | assumption | exact (by omega)), ?_⟩
            refine sX12_pushesOne (p2 := x13_2814) (p3 := x15_2819 - 2) hM15_2820 (Or.inr rfl) ?_
            intro x17_2823 M17_2824 hM17_2824 q2825
            exact ih _ _ (hM17_2824.mono (by omega)) (by omega) (by omega)
          · refine sX12_turnsOne (p2 := x13_2814) hM13_2815 (Or.inr rfl) ?_
            intro x18_2827 M18_2828 hM18_2828 q2829
            exact ih _ _ (hM18_2828.mono (by omega)) (by omega) (by omega)
      · refine sX12_stepGoes  hM8_2806 (by omega) (Or.inr rfl) ?_
        intro M19_2831 hM19_2831
        exact ih _ _ (hM19_2831.mono (by omega)) (by omega) (by omega)
theorem sX12_years {p1 : Int} {p2 : Int} {b : Int} {M : Mem} {Q : Int → Mem → Prop} (hI : IM b M) (hb : b + 60 ≤ 2000000000) (hQ : ∀ z : Int, ∀ M' : Mem, IM (b + 60) M' → Q z M') : qX12_years p1 p2 M Q := by
  unfold qX12_years
  have hbn := hI.nn
  intro M1_2832 h_M1_2832
  have hM1_2832 : IM (b) M1_2832 := by rw [h_M1_2832]; exact hI.up (by omega) (by simp [BM])
  refine sX12_in (p0 := p2) (p2 := 1) (p4 := 60) hM1_2832  ?_
  intro x2_2833 p2834 q2835 q2836
  refine ⟨fun c => ?_, fun c => ?_⟩
  · intro M4_2838 h_M4_2838
    have hM4_2838 : IM (b) M4_2838 := by rw [h_M4_2838]; exact hM1_2832.up (by omega) (by simp [BM])
    refine sX12_copies  hM4_2838  ?_
    intro M5_2839 hM5_2839
    refine ⟨61, ?_⟩
    refine sX12_years_L30 (b := b) (p1 := p1) (p2 := p2) hb ?_ ?_ _ _ _ (hM5_2839.mono (by omega)) (by omega) (by omega)
    · exact hQ
    · intro M_2840 hM_2840
      refine sX12_endedBy (p2 := 1) hM_2840 (Or.inr rfl) ?_
      intro x21_2841 q2842
      refine sX12_endedBy (p2 := 0) hM_2840 (Or.inr rfl) ?_
      intro x22_2843 q2844
      intro x23_2845 ex23_2845 rx23_2845
      first | (have fx23_2845 := oI_64 (a := x21_2841) (b := x22_2843) (by omega) (by omega); rw [← ex23_2845] at fx23_2845) | skip
      intro M24_2846 h_M24_2846
      have hM24_2846 : IM (b + 60) M24_2846 := by rw [h_M24_2846]; exact hM_2840.up (by omega) (bm_c1_1.mpr (by omega))
      refine sJ6_bitCountM (p0 := x23_2845) hM24_2846  ?_
      intro x25_2847 p2848 q2849
      have u2850 : 0 ≤ M24_2846 1 1 ∧ M24_2846 1 1 ≤ 24 := bm_c1_1.mp (hM24_2846.bx _ _)
      have t2851 : M24_2846 1 1 = 0 := by rw [h_M24_2846, up2_s]
      refine sX12_enters (p1 := x25_2847) hM24_2846 (by omega) ?_
      intro M26_2852 hM26_2852 p2853
      refine sX12_endedBy (p2 := 1) hM26_2852 (Or.inr rfl) ?_
      intro x27_2854 q2855
      refine sJ6_bitCountM (p0 := x27_2854) hM26_2852  ?_
      intro x28_2856 p2857 q2858
      have u2859 : 0 ≤ M26_2852 1 1 ∧ M26_2852 1 1 ≤ 24 := bm_c1_1.mp (hM26_2852.bx _ _)
      refine sX12_enters (p1 := x28_2856) hM26_2852 (by omega) ?_
      intro M29_2860 hM29_2860 p2861
      intro x30_2862 ex30_2862 rx30_2862
      have bx30_2862 : -2147483648 ≤ x30_2862 ∧ x30_2862 ≤ 2147483647 := rx30_2862
      exact hQ _ _ (hM29_2860.mono (by omega))
  · exact hQ _ _ (hM1_2832.mono (by omega))
theorem sX12_count_L9 {p1 : Int} {X35 : Int → Mem → Prop} {Q : Int → Mem → Prop} {b : Int} (hQ : ∀ z : Int, ∀ M' : Mem, IM b M' → Q z M') (hX35 : ∀ w1 : Int, ∀ M' : Mem, IM (b) M' → (0 ≤ w1 ∧ w1 ≤ 30) → X35 w1 M') : ∀ (n : Nat) (v2 v3 : Int) (M : Mem), IM (b) M → (0 ≤ v3 ∧ v3 ≤ 30 ∧ 0 ≤ v2 ∧ v2 ≤ v3) → 30 - v3 < (n : Int) → qX12_count_L9 p1 X35 Q n v2 v3 M := by
  intro n
  induction n with
  | zero => intro v2 v3 M hI hv hm; exact absurd hm (by omega)
  | succ n ih =>
    intro v2 v3 M hI hv hm
    rw [qX12_count_L9]
    have hbn := hI.nn
    intro x2_2897 ex2_2897 rx2_2897
    have bx2_2897 : 4 ≤ x2_2897 ∧ x2_2897 ≤ 30 := by rw [ex2_2897]; exact bm_c1_3.mp (hI.bx _ _)
    refine ⟨(by first | assumption | exact (by omega)), ?_⟩
    refine ⟨fun c => ?_, fun c => ?_⟩
    · exact hX35 _ _ (hI.mono (by omega)) (by omega)
    · refine ⟨by omega, ?_⟩
      refine ⟨by omega, ?_⟩
      intro x7_2900 ex7_2900 rx7_2900
      have bx7_2900 : -2147483648 ≤ x7_2900 ∧ x7_2900 ≤ 2147483647 := rx7_2900
      refine sX12_flag (p0 := x7_2900) hI  ?_
      intro x8_2901 p2902 q2903
      exact ih _ _ _ (hI.mono (by omega)) (by omega) (by omega)
theorem sX12_count {p1 : Int} {b : Int} {M : Mem} {Q : Int → Mem → Prop} (hI : IM b M) (hQ : ∀ z : Int, ∀ M' : Mem, IM b M' → Q z M') : qX12_count p1 M Q := by
  unfold qX12_count
  have hbn := hI.nn
  intro M1_2904 h_M1_2904
  have hM1_2904 : IM (b) M1_2904 := by rw [h_M1_2904]; exact hI.up (by omega) (by simp [BM])
  refine ⟨31, ?_⟩
  refine sX12_count_L9 (b := b) (p1 := p1) ?_ ?_ _ _ _ _ (hM1_2904.mono (by omega)) (by omega) (by omega)
  · exact hQ
  · intro v2_2905 M_2906 hM_2906 p2907
    refine ⟨fun c => ?_, fun c => ?_, fun c => ?_, fun c => ?_, fun c => ?_, fun c => ?_, fun c => ?_, fun c => ?_, fun c => ?_, fun c => ?_, fun c => ?_, fun c => ?_, fun c => ?_, fun c => ?_⟩
    · intro x11_2909 ex11_2909 rx11_2909
      have bx11_2909 : 4 ≤ x11_2909 ∧ x11_2909 ≤ 30 := by rw [ex11_2909]; exact bm_c1_3.mp (hM_2906.bx _ _)
      exact hQ _ _ (hM_2906.mono (by omega))
    · intro x12_2911 ex12_2911 rx12_2911
      have bx12_2911 : 0 ≤ x12_2911 ∧ x12_2911 ≤ 6 := by rw [ex12_2911]; exact bm_c1_4.mp (hM_2906.bx _ _)
      exact hQ _ _ (hM_2906.mono (by omega))
    · intro x13_2913 ex13_2913 rx13_2913
      have bx13_2913 : 0 ≤ x13_2913 ∧ x13_2913 ≤ 8 := by rw [ex13_2913]; exact bm_c1_5.mp (hM_2906.bx _ _)
      exact hQ _ _ (hM_2906.mono (by omega))
    · intro x14_2915 ex14_2915 rx14_2915
      have rbx14_2915 : -2147483648 ≤ x14_2915 ∧ x14_2915 ≤ 2147483647 := rx14_2915
      first | (have bx14_2915 : 0 ≤ x14_2915 ∧ x14_2915 ≤ (b) := by rw [ex14_2915]; exact ((bm_n (Or.inl rfl)).mp (hM_2906.bx _ _)).2.2.2 (by omega)) | skip
      exact hQ _ _ (hM_2906.mono (by omega))
    · intro x15_2917 ex15_2917 rx15_2917
      have bx15_2917 : -2147483648 ≤ x15_2917 ∧ x15_2917 ≤ 2147483647 := rx15_2917
      exact hQ _ _ (hM_2906.mono (by omega))
    · refine sX12_endedBy (p2 := 1) hM_2906 (Or.inl rfl) ?_
      intro x16_2919 q2920
      refine sX12_endedBy (p2 := 0) hM_2906 (Or.inl rfl) ?_
      intro x17_2921 q2922
      intro x18_2923 ex18_2923 rx18_2923
      first | (have fx18_2923 := oI_64 (a := x16_2919) (b := x17_2921) (by omega) (by omega); rw [← ex18_2923] at fx18_2923) | skip
      refine sJ6_bitCountM (p0 := x18_2923) hM_2906  ?_
      intro x19_2924 p2925 q2926
      exact hQ _ _ (hM_2906.mono (by omega))
    · refine sX12_endedBy (p2 := 1) hM_2906 (Or.inl rfl) ?_
      intro x20_2928 q2929
      refine sJ6_bitCountM (p0 := x20_2928) hM_2906  ?_
      intro x21_2930 p2931 q2932
      exact hQ _ _ (hM_2906.mono (by omega))
    · refine ⟨(by first | assumption | exact (by omega)), ?_⟩
      exact hQ _ _ (hM_2906.mono (by omega))
    · intro x23_2935 ex23_2935 rx23_2935
      have rbx23_2935 : -2147483648 ≤ x23_2935 ∧ x23_2935 ≤ 2147483647 := rx23_2935
      first | (have bx23_2935 : 0 ≤ x23_2935 ∧ x23_2935 ≤ (b) := by rw [ex23_2935]; exact ((bm_n (Or.inl rfl)).mp (hM_2906.bx _ _)).2.2.2 (by omega)) | skip
      refine sX12_weatherOn (p1 := x23_2935) hM_2906 (by omega) ?_
      intro x24_2936 q2937
      exact hQ _ _ (hM_2906.mono (by omega))
    · intro x25_2939 ex25_2939 rx25_2939
      have bx25_2939 : 0 ≤ x25_2939 ∧ x25_2939 ≤ 8 := by rw [ex25_2939]; exact bm_c1_45.mp (hM_2906.bx _ _)
      exact hQ _ _ (hM_2906.mono (by omega))
    · intro x26_2941 ex26_2941 rx26_2941
      have bx26_2941 : 0 ≤ x26_2941 ∧ x26_2941 ≤ 15 := by rw [ex26_2941]; exact bm_c1_28.mp (hM_2906.bx _ _)
      exact hQ _ _ (hM_2906.mono (by omega))
    · intro x27_2943 ex27_2943 rx27_2943
      have bx27_2943 : 0 ≤ x27_2943 ∧ x27_2943 ≤ 24 := by rw [ex27_2943]; exact bm_c1_1.mp (hM_2906.bx _ _)
      exact hQ _ _ (hM_2906.mono (by omega))
    · intro x28_2945 ex28_2945 rx28_2945
      have bx28_2945 : 0 ≤ x28_2945 ∧ x28_2945 ≤ 80 := by rw [ex28_2945]; exact bm_c1_14.mp (hM_2906.bx _ _)
      exact hQ _ _ (hM_2906.mono (by omega))
    · exact hQ _ _ (hM_2906.mono (by omega))
theorem sX12_row {p1 : Int} {b : Int} {M : Mem} {Q : Int → Mem → Prop} (hI : IM b M) (hQ : ∀ z : Int, ∀ M' : Mem, IM b M' → Q z M') : qX12_row p1 M Q := by
  unfold qX12_row
  have hbn := hI.nn
  intro M1_2947 h_M1_2947
  have hM1_2947 : IM (b) M1_2947 := by rw [h_M1_2947]; exact hI.up (by omega) (by simp [BM])
  intro x2_2948 ex2_2948 rx2_2948
  have bx2_2948 : 0 ≤ x2_2948 ∧ x2_2948 ≤ 24 := by rw [ex2_2948]; exact bm_c1_1.mp (hM1_2947.bx _ _)
  have fx2_2948 : x2_2948 = M 1 1 := by rw [ex2_2948, h_M1_2947, up2_j (by decide)]
  refine ⟨(by first | assumption | exact (by omega)), ?_⟩
  refine sX12_in (p0 := p1) (p2 := 0) (p4 := x2_2948 - 1) hM1_2947  ?_
  intro x4_2949 p2950 q2951 q2952
  refine ⟨fun c => ?_, fun c => ?_⟩
  · refine ⟨by omega, ?_⟩
    refine ⟨by omega, ?_⟩
    intro x8_2954 ex8_2954 rx8_2954
    have fx8_2954 : x8_2954 = M 0 p1 := by rw [ex8_2954, h_M1_2947, up2_n (by decide)]
    exact hQ _ _ (hM1_2947.mono (by omega))
  · intro M9_2956 h_M9_2956
    have hM9_2956 : IM (b) M9_2956 := by rw [h_M9_2956]; exact hM1_2947.up (by omega) (by simp [BM])
    exact hQ _ _ (hM9_2956.mono (by omega))
