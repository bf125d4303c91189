section
theorem sX12_endedBy {k1 : Nat} {p2 : Int} {b : Int} {M : Mem} {Q : Int → Mem → Prop} (hI : IM b M) (hk1 : isN k1) (hQ : ∀ z : Int, Q z M) : qX12_endedBy k1 p2 M Q := by
  unfold qX12_endedBy
  have hbn := hI.nn
  have ek1 : k1 = 5 ∨ k1 = 6 := hk1
  refine ⟨9, ?_⟩
  refine sX12_endedBy_L5 (b := b) (p2 := p2) (M0 := M) hk1 ?_ _ _ _ (hI.mono (by first | exact Int.le_refl _ | omega)) (by omega) (by first | assumption | exact (by omega)) (by omega)
  · exact hQ
theorem sX12_rightThen_L4  {X50 : Mem → Prop} {Q : Int → Mem → Prop} {b : Int} (hb : b + 200 ≤ 2000000000) (hQ : ∀ z : Int, ∀ M' : Mem, IM (b + 200) M' → Q z M') (hX50 : ∀ M' : Mem, IM (b + 200) M' → X50 M') : ∀ (n : Nat) (v1 v2 : Int) (M : Mem), IM (b + v2) M → (0 ≤ v1 ∧ v1 ≤ 1 ∧ 0 ≤ v2 ∧ v2 ≤ 200) → 200 - v2 < (n : Int) → qX12_rightThen_L4 X50 Q n v1 v2 M := by
  intro n
  induction n with
  | zero => intro v1 v2 M hI hv hm; exact absurd hm (by omega)
  | succ n ih =>
    intro v1 v2 M hI hv hm
    rw [qX12_rightThen_L4]
    have hbn := hI.nn
    refine ⟨(by first | assumption | exact (by omega)), ?_⟩
    refine ⟨fun c => ?_, fun c => ?_⟩
    · exact hX50 _ (hI.mono (by first | exact Int.le_refl _ | omega))
    · refine ⟨(by first | assumption | exact (by omega)), ?_⟩
      refine ⟨fun c => ?_, fun c => ?_⟩
      · exact hX50 _ (hI.mono (by first | exact Int.le_refl _ | omega))
      · refine sX12_laysLine  hI (Or.inr rfl) ?_
        intro M5_1919 hM5_1919
        intro x6_1920 ex6_1920 rx6_1920
        have bx6_1920 : 0 ≤ x6_1920 ∧ x6_1920 ≤ 6 := by rw [ex6_1920]; exact bm_c1_35.mp (hM5_1919.bx _ _)
        refine ⟨fun c => ?_, fun c => ?_⟩
        · unfold qX12_rightThen_J35
          refine sX12_stepGoes  hM5_1919 (by omega) (Or.inr rfl) ?_
          intro M8_1922 hM8_1922
          exact ih _ _ _ (hM8_1922.mono (by first | exact Int.le_refl _ | omega)) (by omega) (by omega)
        · unfold qX12_rightThen_J35
          refine sX12_stepGoes  hM5_1919 (by omega) (Or.inr rfl) ?_
          intro M8_1924 hM8_1924
          exact ih _ _ _ (hM8_1924.mono (by first | exact Int.le_refl _ | omega)) (by omega) (by omega)
theorem sX12_rightThen  {b : Int} {M : Mem} {Q : Int → Mem → Prop} (hI : IM b M) (hb : b + 200 ≤ 2000000000) (hQ : ∀ z : Int, ∀ M' : Mem, IM (b + 200) M' → Q z M') : qX12_rightThen M Q := by
  unfold qX12_rightThen
  have hbn := hI.nn
  refine ⟨201, ?_⟩
  refine sX12_rightThen_L4 (b := b)  hb ?_ ?_ _ _ _ _ (hI.mono (by first | exact Int.le_refl _ | omega)) (by omega) (by omega)
  · exact hQ
  · intro M_1925 hM_1925
    unfold qX12_rightThen_J50
    refine sX12_endedBy (p2 := 1) hM_1925 (Or.inr rfl) ?_
    intro x10_1926 q1927
    exact hQ _ _ (hM_1925.mono (by first | exact Int.le_refl _ | omega))
theorem sX12_right  {b : Int} {M : Mem} {Q : Int → Mem → Prop} (hI : IM b M) (hb : b + 200 ≤ 2000000000) (hQ : ∀ z : Int, ∀ M' : Mem, IM (b + 200) M' → Q z M') : qX12_right M Q := by
  unfold qX12_right
  have hbn := hI.nn
  intro M1_1928 h_M1_1928
  have hM1_1928 : IM (b) M1_1928 := by rw [h_M1_1928]; exact hI.up (by omega) (by simp [BM])
  refine sX12_copies  hM1_1928  ?_
  intro M2_1929 hM2_1929
  refine sX12_rightThen  hM2_1929 (by omega) ?_
  intro x3_1930 M3_1931 hM3_1931 q1932
  intro M4_1933 h_M4_1933
  have hM4_1933 : IM (b + 200) M4_1933 := by rw [h_M4_1933]; exact hM3_1931.up (by omega) (bm_c1_1.mpr (by omega))
  have u1934 : 0 ≤ M4_1933 1 1 ∧ M4_1933 1 1 ≤ 24 := bm_c1_1.mp (hM4_1933.bx _ _)
  have t1935 : M4_1933 1 1 = 0 := by rw [h_M4_1933, up2_s]
  refine sX12_enters (p1 := x3_1930) hM4_1933 (by omega) ?_
  intro M5_1936 hM5_1936 p1937
  refine sX12_endedBy (p2 := 0) hM5_1936 (Or.inr rfl) ?_
  intro x6_1938 q1939
  have u1940 : 0 ≤ M5_1936 1 1 ∧ M5_1936 1 1 ≤ 24 := bm_c1_1.mp (hM5_1936.bx _ _)
  refine sX12_enters (p1 := x6_1938) hM5_1936 (by omega) ?_
  intro M7_1941 hM7_1941 p1942
  refine sJ6_bitCountM (p0 := x3_1930) hM7_1941  ?_
  intro x8_1943 p1944 q1945
  exact hQ _ _ (hM7_1941.mono (by first | exact Int.le_refl _ | omega))
theorem sX12_has {p0 : Int} {p1 : Int} {b : Int} {M : Mem} {Q : Int → Mem → Prop} (hI : IM b M) (hQ : ∀ z : Int, Q z M) : qX12_has p0 p1 M Q := by
  unfold qX12_has
  have hbn := hI.nn
  intro x1_1946 ex1_1946 rx1_1946
  intro x2_1947 ex2_1947 rx2_1947
  have fx2_1947 := aI_1 x1_1946; rw [← ex2_1947] at fx2_1947
  refine ⟨fun c => ?_, fun c => ?_⟩
  · exact hQ _
  · exact hQ _
theorem fX12_copies_L2 {Q : Mem → Prop} {M0 : Mem} (hQ : ∀ M' : Mem, (∀ k j, M' k j = if k = 6 ∧ 0 ≤ j ∧ j < 38 then M0 5 j else M0 k j) → Q M') : ∀ (n : Nat) (v1 : Int) (M : Mem), (∀ k j, M k j = if k = 6 ∧ 0 ≤ j ∧ j < v1 then M0 5 j else M0 k j) → (0 ≤ v1 ∧ v1 ≤ 38) → 38 - v1 < (n : Int) → qX12_copies_L2 Q n v1 M := by
  intro n
  induction n with
  | zero => intro v1 M hM hv hm; exact absurd hm (by omega)
  | succ n ih =>
    intro v1 M hM hv hm
    rw [qX12_copies_L2]
    refine ⟨(by omega), ⟨fun c => hQ _ (fun k j => by rw [hM k j, show v1 = 38 from by omega]), fun c => ⟨by omega, by omega, ?_⟩⟩⟩
    intro x5 e5 _ M6 h6
    refine ih _ _ ?_ (by omega) (by omega)
    intro k j
    rw [h6, up2_a]
    by_cases c1 : k = 6
    · rw [if_pos c1]
      by_cases c2 : j = v1
      · rw [if_pos c2, if_pos ⟨c1, by omega, by omega⟩, e5, hM, if_neg (by omega), c2]
      · rw [if_neg c2, hM k j]
        by_cases c3 : 0 ≤ j ∧ j < v1
        · rw [if_pos ⟨c1, c3⟩, if_pos ⟨c1, by omega⟩]
        · rw [if_neg (fun q => c3 q.2), if_neg (fun q => c3 ⟨q.2.1, by omega⟩)]
    · rw [if_neg c1, hM k j, if_neg (fun q => c1 q.1), if_neg (fun q => c1 q.1)]
theorem fX12_copies {M : Mem} {Q : Mem → Prop} (hQ : ∀ M' : Mem, (∀ k j, M' k j = if k = 6 ∧ 0 ≤ j ∧ j < 38 then M 5 j else M k j) → Q M') : qX12_copies M Q := by
  unfold qX12_copies
  exact ⟨39, fX12_copies_L2 hQ _ _ _ (fun k j => by rw [if_neg (by omega)]) (by omega) (by omega)⟩
theorem BM.mono {b b' : Int} {k : Nat} {j v : Int} (q : BM b k j v) (hb : b ≤ b') : BM b' k j v := by
  by_cases c : isN k
  · exact (bm_n c).mpr (((bm_n c).mp q).mono hb)
  · by_cases c15 : k = 15
    · subst c15; exact bm_c15.mpr ((bm_c15.mp q).mono hb)
    · by_cases c31 : k = 31
      · subst c31; exact bm_c31.mpr ((bm_c31.mp q).mono hb)
      · by_cases c6 : k = 1 ∧ j = 6
        · obtain ⟨rfl, rfl⟩ := c6
          have := bm_c1_6.mp q
          exact bm_c1_6.mpr (by omega)
        · unfold BM at q ⊢
          rw [if_neg c, if_neg (by omega)] at q ⊢
          by_cases c1 : k = 1
          · rw [if_pos c1] at q ⊢
            by_cases d6 : j = 6
            · exact absurd ⟨c1, d6⟩ c6
            · simp only [if_neg d6] at q ⊢
              exact q
          · rw [if_neg c1] at q ⊢
            exact q
theorem BM.ib {b b' : Int} {k : Nat} {j v : Int} (q : BM b k j v) (hk : k ≠ 5 ∧ k ≠ 6 ∧ k ≠ 15 ∧ k ≠ 31 ∧ ¬ (k = 1 ∧ j = 6)) : BM b' k j v := by
  unfold BM at q ⊢
  rw [if_neg (by omega), if_neg (by omega)] at q ⊢
  by_cases c1 : k = 1
  · rw [if_pos c1] at q ⊢
    have d6 : j ≠ 6 := fun q => hk.2.2.2.2 ⟨c1, q⟩
    simp only [if_neg d6] at q ⊢
    exact q
  · rw [if_neg c1] at q ⊢
    exact q
/-- as IM b, but for what is tried: that stands 200 steps ahead at most -/
def I6 (b : Int) (M : Mem) : Prop := (∀ k j, BM (if k = 6 then b + 200 else b) k j (M k j)) ∧ WFC (M 11) (M 1 24)
theorem I6.im {b : Int} {M : Mem} (h : I6 b M) : IM (b + 200) M := ⟨fun k j => (h.1 k j).mono (by split <;> omega), h.2⟩
theorem I6.up {b : Int} {M : Mem} (h : I6 b M) {k : Nat} {j v : Int} (hs : k ≠ 11 ∧ (k = 1 → j ≠ 24)) (hv : ∀ b', BM b' k j v) : I6 b (up2 M k j v) := by
  refine ⟨fun k' j' => ?_, ?_⟩
  · rw [up2_a]
    by_cases c : k' = k
    · by_cases c2 : j' = j
      · rw [if_pos c, if_pos c2, c2, c]; exact hv _
      · rw [if_pos c, if_neg c2]; exact h.1 k' j'
    · rw [if_neg c]; exact h.1 k' j'
  · have h2 : up2 M k j v 1 24 = M 1 24 := by
      rw [up2_a]
      by_cases c : (1 : Nat) = k
      · rw [if_pos c, if_neg (fun q => hs.2 c.symm q.symm)]
      · rw [if_neg c]
    rw [up2_n (fun q => hs.1 q.symm), h2]
    exact h.2
theorem IM.i6 {b : Int} {M : Mem} (h : IM b M) : I6 b M := ⟨fun k j => (h.1 k j).mono (by split <;> omega), h.2⟩
theorem I6.of {b : Int} {M M' : Mem} (h : IM b M) (h' : IM (b + 200) M') (e5 : ∀ j, M' 5 j = M 5 j) (e15 : ∀ j, M' 15 j = M 15 j) (e31 : ∀ j, M' 31 j = M 31 j) (e6 : M' 1 6 = M 1 6) : I6 b M' := by
  refine ⟨fun k j => ?_, h'.2⟩
  by_cases c6 : k = 6
  · rw [if_pos c6]; exact h'.1 k j
  · rw [if_neg c6]
    by_cases c5 : k = 5
    · rw [c5, e5]; exact h.1 5 j
    · by_cases c15 : k = 15
      · rw [c15, e15]; exact h.1 15 j
      · by_cases c31 : k = 31
        · rw [c31, e31]; exact h.1 31 j
        · by_cases c1 : k = 1 ∧ j = 6
          · rw [c1.1, c1.2, e6]; exact h.1 1 6
          · exact (h'.1 k j).ib ⟨c5, c6, c15, c31, c1⟩
theorem I6.copied {b : Int} {M M' : Mem} (h : I6 b M) (hM : ∀ k j, M' k j = if k = 6 ∧ 0 ≤ j ∧ j < 38 then M 5 j else M k j) : IM b M' := by
  refine ⟨fun k j => ?_, ?_⟩
  · rw [hM]
    by_cases c : k = 6
    · have h5 := h.1 5 j
      rw [if_neg (by decide)] at h5
      have h5 := (bm_n (Or.inl rfl)).mp h5
      rw [c]
      refine (bm_n (Or.inr rfl)).mpr ?_
      by_cases cj : 0 ≤ j ∧ j < 38
      · rw [if_pos ⟨rfl, cj⟩]; exact h5
      · exact ⟨by omega, by omega, by omega, by omega⟩
    · rw [if_neg (fun q => c q.1)]
      have := h.1 k j
      rw [if_neg c] at this
      exact this
  · have e1 : M' 11 = M 11 := funext fun j => by rw [hM, if_neg (by omega)]
    rw [e1, hM, if_neg (by omega)]
    exact h.2
theorem sX12_places_L14 {rc : Int → Int → Mem → (Mem → Prop) → Prop} {p1 p2 b m : Int} {X40 : Mem → Prop} {Q : Mem → Prop} (hX : ∀ M' : Mem, IM b M' → M' 1 4 = m → X40 M') : ∀ (n : Nat) (v3 : Int) (M : Mem), IM b M → M 1 4 = m → (0 ≤ v3 ∧ v3 ≤ 6) → 6 - v3 < (n : Int) → qX12_places_L14 rc p1 p2 X40 Q n v3 M := by
  intro n
  induction n with
  | zero => intro v3 M hI h4 hv hm; exact absurd hm (by omega)
  | succ n ih =>
    intro v3 M hI h4 hv hm
    rw [qX12_places_L14]
    have hbn := hI.nn
    intro x26 e26 _
    have b26 : 0 ≤ x26 ∧ x26 ≤ 6 := by rw [e26]; exact bm_c1_4.mp (hI.bx _ _)
    refine ⟨(by omega), ⟨fun c => hX _ hI h4, fun c => ⟨by omega, by omega, ?_⟩⟩⟩
    intro x31 e31 _
    have b31 : -1 ≤ x31 ∧ x31 ≤ 29 := by rw [e31]; exact bm_c22.mp (hI.bx _ _)
    refine ⟨by omega, by omega, ?_⟩
    intro M34 h34
    exact ih _ _ (by rw [h34]; exact hI.up (isN.nu (Or.inr rfl) _) ((bm_n (Or.inr rfl)).mpr ⟨by omega, by omega, by omega, by omega⟩)) (by rw [h34, up2_n (by decide)]; exact h4) (by omega) (by omega)
theorem sX12_places_L64 {rc : Int → Int → Mem → (Mem → Prop) → Prop} {p1 p2 b m : Int} {Q : Mem → Prop} (hQ : ∀ M' : Mem, I6 b M' → M' 1 4 = m → Q M') : ∀ (n : Nat) (v4 : Int) (M : Mem), I6 b M → M 1 4 = m → (0 ≤ v4 ∧ v4 ≤ 6) → 6 - v4 < (n : Int) → qX12_places_L64 rc p1 p2 Q n v4 M := by
  intro n
  induction n with
  | zero => intro v4 M hI h4 hv hm; exact absurd hm (by omega)
  | succ n ih =>
    intro v4 M hI h4 hv hm
    rw [qX12_places_L64]
    intro x41 e41 _
    have b41 : 0 ≤ x41 ∧ x41 ≤ 6 := by rw [e41]; exact bm_c1_4.mp (hI.im.bx _ _)
    refine ⟨(by omega), ⟨fun c => hQ _ hI h4, fun c => ⟨by omega, by omega, ?_⟩⟩⟩
    intro x46 _ _ M47 h47
    exact ih _ _ (by rw [h47]; exact hI.up (by omega) (fun b' => by simp [BM])) (by rw [h47, up2_n (by decide)]; exact h4) (by omega) (by omega)
theorem sX12_places_L123 {rc : Int → Int → Mem → (Mem → Prop) → Prop} {p1 p2 b m : Int} {Q : Mem → Prop} (hp : 0 ≤ p1 ∧ p1 ≤ 5) (hrc : ∀ (q2 : Int) (M : Mem) (Q : Mem → Prop), I6 b M → M 1 4 = m → (∀ M' : Mem, I6 b M' → M' 1 4 = m → Q M') → rc (p1 + 1) q2 M Q) (hQ : ∀ M' : Mem, I6 b M' → M' 1 4 = m → Q M') : ∀ (n : Nat) (v3 : Int) (M : Mem), I6 b M → M 1 4 = m → (0 ≤ v3 ∧ v3 ≤ 30) → 30 - v3 < (n : Int) → qX12_places_L123 rc p1 p2 Q n v3 M := by
  intro n
  induction n with
  | zero => intro v3 M hI h4 hv hm; exact absurd hm (by omega)
  | succ n ih =>
    intro v3 M hI h4 hv hm
    rw [qX12_places_L123]
    refine sX12_gate hI.im ?_
    intro x8 p8 _
    refine ⟨(by omega), ⟨fun c => hQ _ hI h4, fun c => ?_⟩⟩
    refine sX12_onCell (p2 := v3) hI.im (Or.inl rfl) ?_
    intro x11 p11 _
    refine ⟨fun c2 => ih _ _ hI h4 (by omega) (by omega), fun c2 => ?_⟩
    refine sX12_has (p0 := p2) (p1 := x11) hI.im ?_
    intro x13 _ _
    refine ⟨fun c3 => ih _ _ hI h4 (by omega) (by omega), fun c3 => ⟨by omega, by omega, ?_⟩⟩
    intro M17 h17 x18 _ _ x19 _ _
    refine ⟨(by omega), ?_⟩
    refine hrc _ _ _ (by rw [h17]; exact hI.up (by omega) (fun b' => bm_c22.mpr (by omega))) (by rw [h17, up2_n (by decide)]; exact h4) ?_
    intro M21 h21 g4
    exact ih _ _ h21 g4 (by omega) (by omega)
theorem sX12_places (b : Int) (hb2 : b + 200 ≤ 2000000000) : ∀ (d : Nat) (p1 p2 : Int) (M : Mem) (Q : Mem → Prop), I6 b M → (0 ≤ p1 ∧ p1 ≤ M 1 4) → M 1 4 - p1 < (d : Int) → (∀ M' : Mem, I6 b M' → M' 1 4 = M 1 4 → Q M') → qX12_places d p1 p2 M Q := by
  intro d
  induction d with
  | zero => intro p1 p2 M Q hI hp hm hQ; exact absurd hm (by omega)
  | succ d ih =>
    intro p1 p2 M Q hI hp hm hQ
    show bX12_places (qX12_places d) p1 p2 M Q
    unfold bX12_places
    intro x1 e1 _
    have b1 : 0 ≤ x1 ∧ x1 ≤ 6 := by rw [e1]; exact bm_c1_4.mp (hI.im.bx _ _)
    refine ⟨fun c => ⟨by omega, by omega, ?_⟩, fun c => ?_⟩
    · intro M5 h5
      have i5 : I6 b M5 := by rw [h5]; exact hI.up (by omega) (fun b' => bm_c22.mpr (by decide))
      have g5 : M5 1 4 = M 1 4 := by rw [h5, up2_n (by decide)]
      have hrc : ∀ (q2 : Int) (M' : Mem) (Q' : Mem → Prop), I6 b M' → M' 1 4 = M 1 4 → (∀ M'' : Mem, I6 b M'' → M'' 1 4 = M 1 4 → Q' M'') → qX12_places d (p1 + 1) q2 M' Q' := fun q2 M' Q' hi h4 hq => ih _ _ _ _ hi (by omega) (by omega) (fun M'' h g => hq M'' h (by omega))
      refine sX12_isOn (p1 := p1) i5.im (Or.inl rfl) (by omega) ?_
      intro x6 _ _ _
      refine ⟨fun c6 => ⟨31, sX12_places_L123 (b := b) (m := M 1 4) (by omega) hrc hQ _ _ _ i5 g5 (by omega) (by omega)⟩, fun c6 => ⟨(by omega), ?_⟩⟩
      exact hrc _ _ _ i5 g5 hQ
    · refine fX12_copies ?_
      intro M25 h25
      have i25 : IM b M25 := hI.copied h25
      have g25 : M25 1 4 = M 1 4 := by rw [h25, if_neg (by omega)]
      refine ⟨7, sX12_places_L14 (b := b) (m := M 1 4) ?_ _ _ _ i25 g25 (by omega) (by omega)⟩
      intro M35 i35 g35
      refine fmX12_rightThen (sX12_rightThen i35 hb2 (Q := fun _ M' => IM (b + 200) M') (fun _ _ h => h)) ?_
      intro x36 M36 f36 i36 _
      have i6 : I6 b M36 := I6.of i35 i36 (fun j => f36 5 j (by omega)) (fun j => f36 15 j (by omega)) (fun j => f36 31 j (by omega)) (f36 1 6 (by omega))
      have g36 : M36 1 4 = M 1 4 := by rw [f36 1 4 (by omega), g35]
      refine sJ6_bitCountM i36 ?_
      intro x37 p37 _ x38 e38 _
      refine ⟨fun _ => hQ _ i6 g36, fun _ => ?_⟩
      intro M40 h40
      refine ⟨7, sX12_places_L64 (b := b) (m := M 1 4) hQ _ _ _ (by rw [h40]; exact i6.up (by omega) (fun b' => by simp [BM])) (by rw [h40, up2_j (by decide)]; exact g36) (by omega) (by omega)⟩
theorem sX12_order_L23 {Q : Int → Mem → Prop} {b : Int} (hQ : ∀ (z : Int) (M' : Mem), IM b M' → Q z M') : ∀ (n : Nat) (v1 : Int) (M : Mem), IM b M → (0 ≤ v1 ∧ v1 ≤ 6 ∧ M 1 1 ≤ v1) → 6 - v1 < (n : Int) → qX12_order_L23 Q n v1 M := by
  intro n
  induction n with
  | zero => intro v1 M hI hv hm; exact absurd hm (by omega)
  | succ n ih =>
    intro v1 M hI hv hm
    rw [qX12_order_L23]
    intro x6 e6 _
    have b6 : 0 ≤ x6 ∧ x6 ≤ 6 := by rw [e6]; exact bm_c1_4.mp (hI.bx _ _)
    refine ⟨(by omega), ⟨fun c => fun x9 _ _ => hQ _ _ hI, fun c => ?_⟩⟩
    refine sX12_isOn (p1 := v1) hI (Or.inl rfl) (by omega) ?_
    intro x10 _ _ _
    refine ⟨fun c2 => ih _ _ hI (by omega) (by omega), fun c2 => ⟨by omega, by omega, ?_⟩⟩
    intro x14 _ _
    refine sX12_enters hI (by omega) ?_
    intro M15 h15 g15
    exact ih _ _ h15 (by omega) (by omega)
theorem sX12_order {b : Int} {M : Mem} {Q : Int → Mem → Prop} (hI : IM b M) (hb : b + 200 ≤ 2000000000) (hQ : ∀ (z : Int) (M' : Mem), IM (b + 200) M' → Q z M') : qX12_order M Q := by
  unfold qX12_order
  intro M1 h1 M2 h2
  have i1 : IM b M1 := by rw [h1]; exact hI.up (by omega) (by simp [BM])
  have i2 : IM b M2 := by rw [h2]; exact i1.up (by omega) (by simp [BM])
  have b4 := bm_c1_4.mp (i2.bx 1 4)
  refine ⟨8, by omega, ?_⟩
  refine sX12_places b hb 8 0 0 M2 _ i2.i6 (by omega) (by omega) ?_
  intro M3 h3 g3 M5 h5
  have i5 : IM (b + 200) M5 := by rw [h5]; exact h3.im.up (by omega) (bm_c1_1.mpr (by decide))
  have k5 : M5 1 1 = 0 := by rw [h5, up2_s]
  exact ⟨7, sX12_order_L23 (b := b + 200) hQ _ _ _ i5 (by omega) (by omega)⟩
theorem sX12_stands_L42 {p1 : Int} {X95 : Int → Int → Mem → Prop} {Q : Int → Mem → Prop} {b : Int} (hb : b + 6000 ≤ 2000000000) (hQ : ∀ z : Int, ∀ M' : Mem, IM (b + 6000) M' → Q z M') (hX95 : ∀ w1 w2 : Int, ∀ M' : Mem, IM (b + 6000) M' → (-2 ≤ w1 ∧ w1 ≤ 29 ∧ 0 ≤ w2 ∧ w2 ≤ 29) → X95 w1 w2 M') : ∀ (n : Nat) (v2 v3 v4 : Int) (M : Mem), IM (b + 200 * (28 - v4)) M → (-2 ≤ v2 ∧ v2 ≤ 29 ∧ 0 ≤ v3 ∧ v3 + v4 ≤ 28 ∧ -1 ≤ v4 ∧ v4 ≤ 28 ∧ 0 ≤ p1 ∧ p1 ≤ 7) → v4 + 1 < (n : Int) → qX12_stands_L42 p1 X95 Q n v2 v3 v4 M := by
  intro n
  induction n with
  | zero => intro v2 v3 v4 M hI hv hm; exact absurd hm (by omega)
  | succ n ih =>
    intro v2 v3 v4 M hI hv hm
    rw [qX12_stands_L42]
    have hbn := hI.nn
    refine ⟨(by first | assumption | exact (by omega)), ?_⟩
    refine ⟨fun c => ?_, fun c => ?_⟩
    · exact hX95 _ _ _ (hI.mono (by first | exact Int.le_refl _ | omega)) (by omega)
    · refine sX12_copies  hI  ?_
      intro M9_1952 hM9_1952
      refine ⟨by omega, ?_⟩
      refine ⟨by omega, ?_⟩
      intro M12_1953 h_M12_1953
      have hM12_1953 : IM (b + 200 * (28 - v4)) M12_1953 := by rw [h_M12_1953]; exact hM9_1952.up (isN.nu (Or.inr rfl) _) ((bm_n (Or.inr rfl)).mpr (by first | assumption | exact ⟨by omega, by omega, by omega, by omega⟩))
      refine ⟨by omega, ?_⟩
      refine ⟨by omega, ?_⟩
      intro M15_1954 h_M15_1954
      have hM15_1954 : IM (b + 200 * (28 - v4)) M15_1954 := by rw [h_M15_1954]; exact hM12_1953.up (isN.nu (Or.inr rfl) _) ((bm_n (Or.inr rfl)).mpr (by first | assumption | exact ⟨by omega, by omega, by omega, by omega⟩))
      refine sX12_rightThen  hM15_1954 (by omega) ?_
      intro x16_1955 M16_1956 hM16_1956 q1957
      refine sX12_has (p0 := x16_1955) (p1 := p1) hM16_1956  ?_
      intro x17_1958 q1959 q1960
      refine ⟨fun c => ?_, fun c => ?_⟩
      · exact ih _ _ _ _ (hM16_1956.mono (by first | exact Int.le_refl _ | omega)) (by omega) (by omega)
      · exact ih _ _ _ _ (hM16_1956.mono (by first | exact Int.le_refl _ | omega)) (by omega) (by omega)
theorem sX12_stands {p1 : Int} {b : Int} {M : Mem} {Q : Int → Mem → Prop} (hI : IM b M) (hb : b + 6000 ≤ 2000000000) (hQ : ∀ z : Int, ∀ M' : Mem, IM (b + 6000) M' → Q z M') : qX12_stands p1 M Q := by
  unfold qX12_stands
  have hbn := hI.nn
  intro M1_1963 h_M1_1963
  have hM1_1963 : IM (b) M1_1963 := by rw [h_M1_1963]; exact hI.up (by omega) (by simp [BM])
  refine sX12_isMourner (p1 := p1) hM1_1963  ?_
  intro x2_1964 p1965 q1966 q1967
  refine ⟨fun c => ?_, fun c => ?_⟩
  · refine sX12_isEnded (p1 := p1) hM1_1963 (Or.inl rfl) (by omega) ?_
    intro x4_1969 q1970 q1971
    refine ⟨fun c => ?_, fun c => ?_⟩
    · refine sX12_gate  hM1_1963  ?_
      intro x6_1973 p1974 q1975
      refine ⟨30, ?_⟩
      refine sX12_stands_L42 (b := b) (p1 := p1) hb ?_ ?_ _ _ _ _ _ (hM1_1963.mono (by first | exact Int.le_refl _ | omega)) (by omega) (by omega)
      · exact hQ
      · intro v2_1976 v3_1977 M_1978 hM_1978 p1979
        refine ⟨(by first | assumption | exact (by omega)), ?_⟩
        refine ⟨fun c => ?_, fun c => ?_⟩
        · exact hQ _ _ (hM_1978.mono (by first | exact Int.le_refl _ | omega))
        · intro M22_1982 h_M22_1982
          have hM22_1982 : IM (b + 6000) M22_1982 := by rw [h_M22_1982]; exact hM_1978.up (by omega) (bm_c1_1.mpr (by omega))
          refine ⟨(by first | assumption | exact (by omega)), ?_⟩
          have u1983 : 0 ≤ M22_1982 1 1 ∧ M22_1982 1 1 ≤ 24 := bm_c1_1.mp (hM22_1982.bx _ _)
          have t1984 : M22_1982 1 1 = 0 := by rw [h_M22_1982, up2_s]
          refine sX12_enters (p1 := v3_1977) hM22_1982 (by omega) ?_
          intro M24_1985 hM24_1985 p1986
          exact hQ _ _ (hM24_1985.mono (by first | exact Int.le_refl _ | omega))
    · exact hQ _ _ (hM1_1963.mono (by first | exact Int.le_refl _ | omega))
  · exact hQ _ _ (hM1_1963.mono (by first | exact Int.le_refl _ | omega))
theorem sX12_when_L24 {p1 : Int} {X142 : Int → Int → Mem → Prop} {Q : Int → Mem → Prop} {b : Int} (hb : b + 24400 ≤ 2000000000) (hQ : ∀ z : Int, ∀ M' : Mem, IM (b + 24400) M' → Q z M') (hX142 : ∀ w1 w2 : Int, ∀ M' : Mem, IM (b + 24400) M' → (-2 ≤ w1 ∧ w1 ≤ 60 ∧ 0 ≤ w2 ∧ w2 ≤ 60) → X142 w1 w2 M') : ∀ (n : Nat) (v2 v3 v4 : Int) (M : Mem), IM (b + 400 * (60 - v4)) M → (-2 ≤ v2 ∧ v2 ≤ 60 ∧ 0 ≤ v3 ∧ v3 ≤ 60 ∧ -1 ≤ v4 ∧ v4 ≤ 60 ∧ 0 ≤ p1 ∧ p1 ≤ 7) → v4 + 1 < (n : Int) → qX12_when_L24 p1 X142 Q n v2 v3 v4 M := by
  intro n
  induction n with
  | zero => intro v2 v3 v4 M hI hv hm; exact absurd hm (by omega)
  | succ n ih =>
    intro v2 v3 v4 M hI hv hm
    rw [qX12_when_L24]
    have hbn := hI.nn
    refine ⟨(by first | assumption | exact (by omega)), ?_⟩
    refine ⟨fun c => ?_, fun c => ?_⟩
    · exact hX142 _ _ _ (hI.mono (by first | exact Int.le_refl _ | omega)) (by omega)
    · refine sX12_copies  hI  ?_
      intro M6_1991 hM6_1991
      refine sX12_goesOn (p2 := v4) hM6_1991 (by omega) (Or.inr rfl) (by omega) ?_
      intro M7_1992 hM7_1992
      refine sX12_isEnded (p1 := p1) hM7_1992 (Or.inr rfl) (by omega) ?_
      intro x8_1993 q1994 q1995
      refine ⟨fun c => ?_, fun c => ?_⟩
      · unfold qX12_when_J76
        unfold qX12_when_J77
        refine ⟨(by first | assumption | exact (by omega)), ?_⟩
        refine ⟨fun c => ?_, fun c => ?_⟩
        · refine sX12_turnsOne (p2 := p1) hM7_1992 (Or.inr rfl) ?_
          intro x12_1998 M12_1999 hM12_1999 q2000
          unfold qX12_when_J97
          refine ⟨(by first | assumption | exact (by omega)), ?_⟩
          refine ⟨fun c => ?_, fun c => ?_⟩
          · unfold qX12_when_J111
            refine sX12_rightThen  hM12_1999 (by omega) ?_
            intro x15_2002 M15_2003 hM15_2003 q2004
            refine sX12_has (p0 := x15_2002) (p1 := p1) hM15_2003  ?_
            intro x16_2005 q2006 q2007
            refine ⟨fun c => ?_, fun c => ?_⟩
            · exact ih _ _ _ _ (hM15_2003.mono (by first | exact Int.le_refl _ | omega)) (by omega) (by omega)
            · refine ⟨(by first | assumption | exact (by omega)), ?_⟩
              refine ⟨fun c => ?_, fun c => ?_⟩
              · exact ih _ _ _ _ (hM15_2003.mono (by first | exact Int.le_refl _ | omega)) (by omega) (by omega)
              · exact ih _ _ _ _ (hM15_2003.mono (by first | exact Int.le_refl _ | omega)) (by omega) (by omega)
          · refine ⟨fun c => ?_, fun c => ?_⟩
            · exact ih _ _ _ _ (hM12_1999.mono (by first | exact Int.le_refl _ | omega)) (by omega) (by omega)
            · unfold qX12_when_J111
              refine sX12_rightThen  hM12_1999 (by omega) ?_
              intro x15_2015 M15_2016 hM15_2016 q2017
              refine sX12_has (p0 := x15_2015) (p1 := p1) hM15_2016  ?_
              intro x16_2018 q2019 q2020
              refine ⟨fun c => ?_, fun c => ?_⟩
              · exact ih _ _ _ _ (hM15_2016.mono (by first | exact Int.le_refl _ | omega)) (by omega) (by omega)
              · refine ⟨(by first | assumption | exact (by omega)), ?_⟩
                refine ⟨fun c => ?_, fun c => ?_⟩
                · exact ih _ _ _ _ (hM15_2016.mono (by first | exact Int.le_refl _ | omega)) (by omega) (by omega)
                · exact ih _ _ _ _ (hM15_2016.mono (by first | exact Int.le_refl _ | omega)) (by omega) (by omega)
        · unfold qX12_when_J97
          refine ⟨(by first | assumption | exact (by omega)), ?_⟩
          refine ⟨fun c => ?_, fun c => ?_⟩
          · unfold qX12_when_J111
            refine sX12_rightThen  hM7_1992 (by omega) ?_
            intro x15_2027 M15_2028 hM15_2028 q2029
            refine sX12_has (p0 := x15_2027) (p1 := p1) hM15_2028  ?_
            intro x16_2030 q2031 q2032
            refine ⟨fun c => ?_, fun c => ?_⟩
            · exact ih _ _ _ _ (hM15_2028.mono (by first | exact Int.le_refl _ | omega)) (by omega) (by omega)
            · refine ⟨(by first | assumption | exact (by omega)), ?_⟩
              refine ⟨fun c => ?_, fun c => ?_⟩
              · exact ih _ _ _ _ (hM15_2028.mono (by first | exact Int.le_refl _ | omega)) (by omega) (by omega)
              · exact ih _ _ _ _ (hM15_2028.mono (by first | exact Int.le_refl _ | omega)) (by omega) (by omega)
          · refine ⟨fun c => ?_, fun c => ?_⟩
            · exact ih _ _ _ _ (hM7_1992.mono (by first | exact Int.le_refl _ | omega)) (by omega) (by omega)
            · unfold qX12_when_J111
              refine sX12_rightThen  hM7_1992 (by omega) ?_
              intro x15_2040 M15_2041 hM15_2041 q2042
              refine sX12_has (p0 := x15_2040) (p1 := p1) hM15_2041  ?_
              intro x16_2043 q2044 q2045
              refine ⟨fun c => ?_, fun c => ?_⟩
              · exact ih _ _ _ _ (hM15_2041.mono (by first | exact Int.le_refl _ | omega)) (by omega) (by omega)
              · refine ⟨(by first | assumption | exact (by omega)), ?_⟩
                refine ⟨fun c => ?_, fun c => ?_⟩
                · exact ih _ _ _ _ (hM15_2041.mono (by first | exact Int.le_refl _ | omega)) (by omega) (by omega)
                · exact ih _ _ _ _ (hM15_2041.mono (by first | exact Int.le_refl _ | omega)) (by omega) (by omega)
      · refine ⟨by omega, ?_⟩
        refine ⟨by omega, ?_⟩
        intro x23_2051 ex23_2051 rx23_2051
        have rbx23_2051 : -2147483648 ≤ x23_2051 ∧ x23_2051 ≤ 2147483647 := rx23_2051
        first | (have bx23_2051 : -1 ≤ x23_2051 ∧ x23_2051 ≤ 5 := by rw [ex23_2051]; exact ((bm_n (Or.inr rfl)).mp (hM7_1992.bx _ _)).2.2.1 (by omega)) | skip
        refine ⟨by omega, ?_⟩
        refine ⟨by omega, ?_⟩
        intro x26_2052 ex26_2052 rx26_2052
        have bx26_2052 : 0 ≤ x26_2052 ∧ x26_2052 ≤ 5 := by rw [ex26_2052]; exact bm_c3.mp (hM7_1992.bx _ _)
        refine ⟨fun c => ?_, fun c => ?_⟩
        · unfold qX12_when_J76
          unfold qX12_when_J77
          refine ⟨(by first | assumption | exact (by omega)), ?_⟩
          refine ⟨fun c => ?_, fun c => ?_⟩
          · refine sX12_turnsOne (p2 := p1) hM7_1992 (Or.inr rfl) ?_
            intro x12_2055 M12_2056 hM12_2056 q2057
            unfold qX12_when_J97
            refine ⟨(by first | assumption | exact (by omega)), ?_⟩
            refine ⟨fun c => ?_, fun c => ?_⟩
            · unfold qX12_when_J111
              refine sX12_rightThen  hM12_2056 (by omega) ?_
              intro x15_2059 M15_2060 hM15_2060 q2061
              refine sX12_has (p0 := x15_2059) (p1 := p1) hM15_2060  ?_
              intro x16_2062 q2063 q2064
              refine ⟨fun c => ?_, fun c => ?_⟩
              · exact ih _ _ _ _ (hM15_2060.mono (by first | exact Int.le_refl _ | omega)) (by omega) (by omega)
              · refine ⟨(by first | assumption | exact (by omega)), ?_⟩
                refine ⟨fun c => ?_, fun c => ?_⟩
                · exact ih _ _ _ _ (hM15_2060.mono (by first | exact Int.le_refl _ | omega)) (by omega) (by omega)
                · exact ih _ _ _ _ (hM15_2060.mono (by first | exact Int.le_refl _ | omega)) (by omega) (by omega)
            · refine ⟨fun c => ?_, fun c => ?_⟩
              · exact ih _ _ _ _ (hM12_2056.mono (by first | exact Int.le_refl _ | omega)) (by omega) (by omega)
              · unfold qX12_when_J111
                refine sX12_rightThen  hM12_2056 (by omega) ?_
                intro x15_2072 M15_2073 hM15_2073 q2074
                refine sX12_has (p0 := x15_2072) (p1 := p1) hM15_2073  ?_
                intro x16_2075 q2076 q2077
                refine ⟨fun c => ?_, fun c => ?_⟩
                · exact ih _ _ _ _ (hM15_2073.mono (by first | exact Int.le_refl _ | omega)) (by omega) (by omega)
                · refine ⟨(by first | assumption | exact (by omega)), ?_⟩
                  refine ⟨fun c => ?_, fun c => ?_⟩
                  · exact ih _ _ _ _ (hM15_2073.mono (by first | exact Int.le_refl _ | omega)) (by omega) (by omega)
                  · exact ih _ _ _ _ (hM15_2073.mono (by first | exact Int.le_refl _ | omega)) (by omega) (by omega)
          · unfold qX12_when_J97
            refine ⟨(by first | assumption | exact (by omega)), ?_⟩
            refine ⟨fun c => ?_, fun c => ?_⟩
            · unfold qX12_when_J111
              refine sX12_rightThen  hM7_1992 (by omega) ?_
              intro x15_2084 M15_2085 hM15_2085 q2086
              refine sX12_has (p0 := x15_2084) (p1 := p1) hM15_2085  ?_
              intro x16_2087 q2088 q2089
              refine ⟨fun c => ?_, fun c => ?_⟩
              · exact ih _ _ _ _ (hM15_2085.mono (by first | exact Int.le_refl _ | omega)) (by omega) (by omega)
              · refine ⟨(by first | assumption | exact (by omega)), ?_⟩
                refine ⟨fun c => ?_, fun c => ?_⟩
                · exact ih _ _ _ _ (hM15_2085.mono (by first | exact Int.le_refl _ | omega)) (by omega) (by omega)
                · exact ih _ _ _ _ (hM15_2085.mono (by first | exact Int.le_refl _ | omega)) (by omega) (by omega)
            · refine ⟨fun c => ?_, fun c => ?_⟩
              · exact ih _ _ _ _ (hM7_1992.mono (by first | exact Int.le_refl _ | omega)) (by omega) (by omega)
              · unfold qX12_when_J111
                refine sX12_rightThen  hM7_1992 (by omega) ?_
                intro x15_2097 M15_2098 hM15_2098 q2099
                refine sX12_has (p0 := x15_2097) (p1 := p1) hM15_2098  ?_
                intro x16_2100 q2101 q2102
                refine ⟨fun c => ?_, fun c => ?_⟩
                · exact ih _ _ _ _ (hM15_2098.mono (by first | exact Int.le_refl _ | omega)) (by omega) (by omega)
                · refine ⟨(by first | assumption | exact (by omega)), ?_⟩
                  refine ⟨fun c => ?_, fun c => ?_⟩
                  · exact ih _ _ _ _ (hM15_2098.mono (by first | exact Int.le_refl _ | omega)) (by omega) (by omega)
                  · exact ih _ _ _ _ (hM15_2098.mono (by first | exact Int.le_refl _ | omega)) (by omega) (by omega)
        · unfold qX12_when_J77
          refine ⟨(by first | assumption | exact (by omega)), ?_⟩
          refine ⟨fun c => ?_, fun c => ?_⟩
          · refine sX12_turnsOne (p2 := p1) hM7_1992 (Or.inr rfl) ?_
            intro x12_2109 M12_2110 hM12_2110 q2111
            unfold qX12_when_J97
            refine ⟨(by first | assumption | exact (by omega)), ?_⟩
            refine ⟨fun c => ?_, fun c => ?_⟩
            · unfold qX12_when_J111
              refine sX12_rightThen  hM12_2110 (by omega) ?_
              intro x15_2113 M15_2114 hM15_2114 q2115
              refine sX12_has (p0 := x15_2113) (p1 := p1) hM15_2114  ?_
              intro x16_2116 q2117 q2118
              refine ⟨fun c => ?_, fun c => ?_⟩
              · exact ih _ _ _ _ (hM15_2114.mono (by first | exact Int.le_refl _ | omega)) (by omega) (by omega)
              · refine ⟨(by first | assumption | exact (by omega)), ?_⟩
                refine ⟨fun c => ?_, fun c => ?_⟩
                · exact ih _ _ _ _ (hM15_2114.mono (by first | exact Int.le_refl _ | omega)) (by omega) (by omega)
                · exact ih _ _ _ _ (hM15_2114.mono (by first | exact Int.le_refl _ | omega)) (by omega) (by omega)
            · refine ⟨fun c => ?_, fun c => ?_⟩
              · exact ih _ _ _ _ (hM12_2110.mono (by first | exact Int.le_refl _ | omega)) (by omega) (by omega)
              · unfold qX12_when_J111
                refine sX12_rightThen  hM12_2110 (by omega) ?_
                intro x15_2126 M15_2127 hM15_2127 q2128
                refine sX12_has (p0 := x15_2126) (p1 := p1) hM15_2127  ?_
                intro x16_2129 q2130 q2131
                refine ⟨fun c => ?_, fun c => ?_⟩
                · exact ih _ _ _ _ (hM15_2127.mono (by first | exact Int.le_refl _ | omega)) (by omega) (by omega)
                · refine ⟨(by first | assumption | exact (by omega)), ?_⟩
                  refine ⟨fun c => ?_, fun c => ?_⟩
                  · exact ih _ _ _ _ (hM15_2127.mono (by first | exact Int.le_refl _ | omega)) (by omega) (by omega)
                  · exact ih _ _ _ _ (hM15_2127.mono (by first | exact Int.le_refl _ | omega)) (by omega) (by omega)
          · unfold qX12_when_J97
            refine ⟨(by first | assumption | exact (by omega)), ?_⟩
            refine ⟨fun c => ?_, fun c => ?_⟩
            · unfold qX12_when_J111
              refine sX12_rightThen  hM7_1992 (by omega) ?_
              intro x15_2138 M15_2139 hM15_2139 q2140
              refine sX12_has (p0 := x15_2138) (p1 := p1) hM15_2139  ?_
              intro x16_2141 q2142 q2143
              refine ⟨fun c => ?_, fun c => ?_⟩
              · exact ih _ _ _ _ (hM15_2139.mono (by first | exact Int.le_refl _ | omega)) (by omega) (by omega)
              · refine ⟨(by first | assumption | exact (by omega)), ?_⟩
                refine ⟨fun c => ?_, fun c => ?_⟩
                · exact ih _ _ _ _ (hM15_2139.mono (by first | exact Int.le_refl _ | omega)) (by omega) (by omega)
                · exact ih _ _ _ _ (hM15_2139.mono (by first | exact Int.le_refl _ | omega)) (by omega) (by omega)
            · refine ⟨fun c => ?_, fun c => ?_⟩
              · exact ih _ _ _ _ (hM7_1992.mono (by first | exact Int.le_refl _ | omega)) (by omega) (by omega)
              · unfold qX12_when_J111
                refine sX12_rightThen  hM7_1992 (by omega) ?_
                intro x15_2151 M15_2152 hM15_2152 q2153
                refine sX12_has (p0 := x15_2151) (p1 := p1) hM15_2152  ?_
                intro x16_2154 q2155 q2156
                refine ⟨fun c => ?_, fun c => ?_⟩
                · exact ih _ _ _ _ (hM15_2152.mono (by first | exact Int.le_refl _ | omega)) (by omega) (by omega)
                · refine ⟨(by first | assumption | exact (by omega)), ?_⟩
                  refine ⟨fun c => ?_, fun c => ?_⟩
                  · exact ih _ _ _ _ (hM15_2152.mono (by first | exact Int.le_refl _ | omega)) (by omega) (by omega)
                  · exact ih _ _ _ _ (hM15_2152.mono (by first | exact Int.le_refl _ | omega)) (by omega) (by omega)
theorem sX12_when {p1 : Int} {b : Int} {M : Mem} {Q : Int → Mem → Prop} (hI : IM b M) (hb : b + 24400 ≤ 2000000000) (hQ : ∀ z : Int, ∀ M' : Mem, IM (b + 24400) M' → Q z M') : qX12_when p1 M Q := by
  unfold qX12_when
  have hbn := hI.nn
  intro M1_2161 h_M1_2161
  have hM1_2161 : IM (b) M1_2161 := by rw [h_M1_2161]; exact hI.up (by omega) (by simp [BM])
  refine sX12_isMourner (p1 := p1) hM1_2161  ?_
  intro x2_2162 p2163 q2164 q2165
  refine ⟨fun c => ?_, fun c => ?_⟩
  · refine ⟨62, ?_⟩
    refine sX12_when_L24 (b := b) (p1 := p1) hb ?_ ?_ _ _ _ _ _ (hM1_2161.mono (by first | exact Int.le_refl _ | omega)) (by omega) (by omega)
    · exact hQ
    · intro v2_2167 v3_2168 M_2169 hM_2169 p2170
      refine ⟨(by first | assumption | exact (by omega)), ?_⟩
      refine ⟨fun c => ?_, fun c => ?_⟩
      · exact hQ _ _ (hM_2169.mono (by first | exact Int.le_refl _ | omega))
      · intro M31_2173 h_M31_2173
        have hM31_2173 : IM (b + 24400) M31_2173 := by rw [h_M31_2173]; exact hM_2169.up (by omega) (bm_c1_1.mpr (by omega))
        refine ⟨(by first | assumption | exact (by omega)), ?_⟩
        have u2174 : 0 ≤ M31_2173 1 1 ∧ M31_2173 1 1 ≤ 24 := bm_c1_1.mp (hM31_2173.bx _ _)
        have t2175 : M31_2173 1 1 = 0 := by rw [h_M31_2173, up2_s]
        refine sX12_enters (p1 := v3_2168) hM31_2173 (by omega) ?_
        intro M33_2176 hM33_2176 p2177
        exact hQ _ _ (hM33_2176.mono (by first | exact Int.le_refl _ | omega))
  · exact hQ _ _ (hM1_2161.mono (by first | exact Int.le_refl _ | omega))
theorem sX12_mends_L58 {p1 : Int} {X122 : Int → Int → Int → Mem → Prop} {Q : Int → Mem → Prop} {b : Int} {g0 : Int} {g1 : Int} (hb : b + 51200 ≤ 2000000000) (hQ : ∀ z : Int, ∀ M' : Mem, IM (b + 51200) M' → Q z M') (hX122 : ∀ w1 w2 w3 : Int, ∀ M' : Mem, IM (b + 200 * g1) M' → (w1 = g0 ∧ w2 = g1 ∧ 0 ≤ w3 ∧ w3 ≤ 1) → X122 w1 w2 w3 M') : ∀ (n : Nat) (v2 v3 v4 v5 : Int) (M : Mem), IM (b + 200 * v3) M → (v2 = g0 ∧ v3 = g1 ∧ 0 ≤ v3 ∧ v3 ≤ 255 ∧ 0 ≤ v4 ∧ v4 ≤ 1 ∧ 0 ≤ v5 ∧ v5 ≤ 8) → 8 - v5 < (n : Int) → qX12_mends_L58 p1 X122 Q n v2 v3 v4 v5 M := by
  intro n
  induction n with
  | zero => intro v2 v3 v4 v5 M hI hv hm; exact absurd hm (by omega)
  | succ n ih =>
    intro v2 v3 v4 v5 M hI hv hm
    rw [qX12_mends_L58]
    have hbn := hI.nn
    intro x11_2179 ex11_2179 rx11_2179
    have bx11_2179 : 0 ≤ x11_2179 ∧ x11_2179 ≤ 8 := by rw [ex11_2179]; exact bm_c1_5.mp (hI.bx _ _)
    refine ⟨(by first | assumption | exact (by omega)), ?_⟩
    refine ⟨fun c => ?_, fun c => ?_⟩
    · exact hX122 _ _ _ _ (hI.mono (by first | exact Int.le_refl _ | omega)) (by omega)
    · refine ⟨(by first | assumption | exact (by omega)), ?_⟩
      refine sX12_has (p0 := v3) (p1 := v5) hI  ?_
      intro x15_2182 q2183 q2184
      refine ⟨fun c => ?_, fun c => ?_⟩
      · unfold qX12_mends_J90
        refine ⟨(by first | assumption | exact (by omega)), ?_⟩
        refine ⟨fun c => ?_, fun c => ?_⟩
        · exact ih _ _ _ _ _ (hI.mono (by first | exact Int.le_refl _ | omega)) (by omega) (by omega)
        · refine ⟨(by first | assumption | exact (by omega)), ?_⟩
          refine ⟨fun c => ?_, fun c => ?_⟩
          · exact ih _ _ _ _ _ (hI.mono (by first | exact Int.le_refl _ | omega)) (by omega) (by omega)
          · refine ⟨fun c => ?_, fun c => ?_⟩
            · exact ih _ _ _ _ _ (hI.mono (by first | exact Int.le_refl _ | omega)) (by omega) (by omega)
            · exact ih _ _ _ _ _ (hI.mono (by first | exact Int.le_refl _ | omega)) (by omega) (by omega)
      · refine sX12_turnsOne (p2 := v5) hI (Or.inr rfl) ?_
        intro x22_2193 M22_2194 hM22_2194 q2195
        unfold qX12_mends_J90
        refine ⟨(by first | assumption | exact (by omega)), ?_⟩
        refine ⟨fun c => ?_, fun c => ?_⟩
        · exact ih _ _ _ _ _ (hM22_2194.mono (by first | exact Int.le_refl _ | omega)) (by omega) (by omega)
        · refine ⟨(by first | assumption | exact (by omega)), ?_⟩
          refine ⟨fun c => ?_, fun c => ?_⟩
          · exact ih _ _ _ _ _ (hM22_2194.mono (by first | exact Int.le_refl _ | omega)) (by omega) (by omega)
          · refine ⟨fun c => ?_, fun c => ?_⟩
            · exact ih _ _ _ _ _ (hM22_2194.mono (by first | exact Int.le_refl _ | omega)) (by omega) (by omega)
            · exact ih _ _ _ _ _ (hM22_2194.mono (by first | exact Int.le_refl _ | omega)) (by omega) (by omega)
theorem sX12_mends_L23 {p1 : Int} {X150 : Int → Mem → Prop} {Q : Int → Mem → Prop} {b : Int} (hb : b + 51200 ≤ 2000000000) (hQ : ∀ z : Int, ∀ M' : Mem, IM (b + 51200) M' → Q z M') (hX150 : ∀ w1 : Int, ∀ M' : Mem, IM (b + 51200) M' → (-1 ≤ w1 ∧ w1 ≤ 255) → X150 w1 M') : ∀ (n : Nat) (v2 v3 : Int) (M : Mem), IM (b + 200 * v3) M → (-1 ≤ v2 ∧ v2 ≤ 255 ∧ 0 ≤ v3 ∧ v3 ≤ 256) → 256 - v3 < (n : Int) → qX12_mends_L23 p1 X150 Q n v2 v3 M := by
  intro n
  induction n with
  | zero => intro v2 v3 M hI hv hm; exact absurd hm (by omega)
  | succ n ih =>
    intro v2 v3 M hI hv hm
    rw [qX12_mends_L23]
    have hbn := hI.nn
    intro x4_2202 ex4_2202 rx4_2202
    have bx4_2202 : 0 ≤ x4_2202 ∧ x4_2202 ≤ 8 := by rw [ex4_2202]; exact bm_c1_5.mp (hI.bx _ _)
    intro x5_2203 ex5_2203 rx5_2203
    first | (have fx5_2203 := slI_1 (b := x4_2202) (by omega); rw [← ex5_2203] at fx5_2203) | skip
    refine ⟨(by first | assumption | exact (by omega)), ?_⟩
    refine ⟨fun c => ?_, fun c => ?_⟩
    · exact hX150 _ _ (hI.mono (by first | exact Int.le_refl _ | omega)) (by omega)
    · refine ⟨(by first | assumption | exact (by omega)), ?_⟩
      refine ⟨fun c => ?_, fun c => ?_⟩
      · unfold qX12_mends_J48
        refine sX12_copies  hI  ?_
        intro M10_2207 hM10_2207
        refine ⟨9, ?_⟩
        refine sX12_mends_L58 (b := b) (p1 := p1) (g0 := v2) (g1 := v3) hb ?_ ?_ _ _ _ _ _ _ (hM10_2207.mono (by first | exact Int.le_refl _ | omega)) (by omega) (by omega)
        · exact hQ
        · intro v2_2208 v3_2209 v4_2210 M_2211 hM_2211 p2212
          refine ⟨(by first | assumption | exact (by omega)), ?_⟩
          refine ⟨fun c => ?_, fun c => ?_⟩
          · exact ih _ _ _ (hM_2211.mono (by first | exact Int.le_refl _ | omega)) (by omega) (by omega)
          · refine sX12_rightThen  hM_2211 (by omega) ?_
            intro x26_2215 M26_2216 hM26_2216 q2217
            refine sJ6_bitCountM (p0 := x26_2215) hM26_2216  ?_
            intro x27_2218 p2219 q2220
            refine ⟨fun c => ?_, fun c => ?_⟩
            · exact ih _ _ _ (hM26_2216.mono (by first | exact Int.le_refl _ | omega)) (by omega) (by omega)
            · exact ih _ _ _ (hM26_2216.mono (by first | exact Int.le_refl _ | omega)) (by omega) (by omega)
      · refine sJ6_bitCountM (p0 := v3) hI  ?_
        intro x29_2224 p2225 q2226
        refine sJ6_bitCountM (p0 := v2) hI  ?_
        intro x30_2227 p2228 q2229
        refine ⟨fun c => ?_, fun c => ?_⟩
        · exact ih _ _ _ (hI.mono (by first | exact Int.le_refl _ | omega)) (by omega) (by omega)
        · unfold qX12_mends_J48
          refine sX12_copies  hI  ?_
          intro M10_2232 hM10_2232
          refine ⟨9, ?_⟩
          refine sX12_mends_L58 (b := b) (p1 := p1) (g0 := v2) (g1 := v3) hb ?_ ?_ _ _ _ _ _ _ (hM10_2232.mono (by first | exact Int.le_refl _ | omega)) (by omega) (by omega)
          · exact hQ
          · intro v2_2233 v3_2234 v4_2235 M_2236 hM_2236 p2237
            refine ⟨(by first | assumption | exact (by omega)), ?_⟩
            refine ⟨fun c => ?_, fun c => ?_⟩
            · exact ih _ _ _ (hM_2236.mono (by first | exact Int.le_refl _ | omega)) (by omega) (by omega)
            · refine sX12_rightThen  hM_2236 (by omega) ?_
              intro x26_2240 M26_2241 hM26_2241 q2242
              refine sJ6_bitCountM (p0 := x26_2240) hM26_2241  ?_
              intro x27_2243 p2244 q2245
              refine ⟨fun c => ?_, fun c => ?_⟩
              · exact ih _ _ _ (hM26_2241.mono (by first | exact Int.le_refl _ | omega)) (by omega) (by omega)
              · exact ih _ _ _ (hM26_2241.mono (by first | exact Int.le_refl _ | omega)) (by omega) (by omega)
theorem sX12_mends {p1 : Int} {b : Int} {M : Mem} {Q : Int → Mem → Prop} (hI : IM b M) (hb : b + 51200 ≤ 2000000000) (hQ : ∀ z : Int, ∀ M' : Mem, IM (b + 51200) M' → Q z M') : qX12_mends p1 M Q := by
  unfold qX12_mends
  have hbn := hI.nn
  intro M1_2248 h_M1_2248
  have hM1_2248 : IM (b) M1_2248 := by rw [h_M1_2248]; exact hI.up (by omega) (by simp [BM])
  refine sX12_in (p0 := p1) (p2 := 0) (p4 := 8) hM1_2248  ?_
  intro x2_2249 p2250 q2251 q2252
  refine ⟨fun c => ?_, fun c => ?_⟩
  · refine ⟨257, ?_⟩
    refine sX12_mends_L23 (b := b) (p1 := p1) hb ?_ ?_ _ _ _ _ (hM1_2248.mono (by first | exact Int.le_refl _ | omega)) (by omega) (by omega)
    · exact hQ
    · intro v2_2254 M_2255 hM_2255 p2256
      refine ⟨(by first | assumption | exact (by omega)), ?_⟩
      refine ⟨fun c => ?_, fun c => ?_⟩
      · intro M35_2258 h_M35_2258
        have hM35_2258 : IM (b + 51200) M35_2258 := by rw [h_M35_2258]; exact hM_2255.up (by omega) (bm_c1_1.mpr (by omega))
        have u2259 : 0 ≤ M35_2258 1 1 ∧ M35_2258 1 1 ≤ 24 := bm_c1_1.mp (hM35_2258.bx _ _)
        have t2260 : M35_2258 1 1 = 0 := by rw [h_M35_2258, up2_s]
        refine sX12_enters (p1 := v2_2254) hM35_2258 (by omega) ?_
        intro M36_2261 hM36_2261 p2262
        refine sJ6_bitCountM (p0 := v2_2254) hM36_2261  ?_
        intro x37_2263 p2264 q2265
        exact hQ _ _ (hM36_2261.mono (by first | exact Int.le_refl _ | omega))
      · exact hQ _ _ (hM_2255.mono (by first | exact Int.le_refl _ | omega))
  · exact hQ _ _ (hM1_2248.mono (by first | exact Int.le_refl _ | omega))
theorem sX12_misleads_L58  {X124 : Int → Int → Int → Int → Mem → Prop} {Q : Int → Mem → Prop} {b : Int} {g1 : Int} {g2 : Int} {g3 : Int} {g4 : Int} (hb : b + 1600 ≤ 2000000000) (hQ : ∀ z : Int, ∀ M' : Mem, IM (b + 1600) M' → Q z M') (hX124 : ∀ w1 w2 w3 w4 : Int, ∀ M' : Mem, IM (b + 200 + 200 * g4) M' → (w1 = g1 ∧ w2 = g2 ∧ w3 = g3 ∧ w4 = g4) → X124 w1 w2 w3 w4 M') : ∀ (n : Nat) (v1 v2 v3 v4 v5 : Int) (M : Mem), IM (b + 200 + 200 * v4) M → (v1 = g1 ∧ v2 = g2 ∧ v3 = g3 ∧ v4 = g4 ∧ 0 ≤ v4 ∧ v4 ≤ 5 ∧ 0 ≤ v5 ∧ v5 ≤ 8) → 8 - v5 < (n : Int) → qX12_misleads_L58 X124 Q n v1 v2 v3 v4 v5 M := by
  intro n
  induction n with
  | zero => intro v1 v2 v3 v4 v5 M hI hv hm; exact absurd hm (by omega)
  | succ n ih =>
    intro v1 v2 v3 v4 v5 M hI hv hm
    rw [qX12_misleads_L58]
    have hbn := hI.nn
    intro x13_2268 ex13_2268 rx13_2268
    have bx13_2268 : 0 ≤ x13_2268 ∧ x13_2268 ≤ 8 := by rw [ex13_2268]; exact bm_c1_5.mp (hI.bx _ _)
    refine ⟨(by first | assumption | exact (by omega)), ?_⟩
    refine ⟨fun c => ?_, fun c => ?_⟩
    · exact hX124 _ _ _ _ _ (hI.mono (by first | exact Int.le_refl _ | omega)) (by omega)
    · refine sX12_isEnded (p1 := v5) hI (Or.inr rfl) (by omega) ?_
      intro x16_2271 q2272 q2273
      refine ⟨fun c => ?_, fun c => ?_⟩
      · unfold qX12_misleads_J107
        refine ⟨by omega, ?_⟩
        refine ⟨by omega, ?_⟩
        intro x20_2275 ex20_2275 rx20_2275
        have rbx20_2275 : -2147483648 ≤ x20_2275 ∧ x20_2275 ≤ 2147483647 := rx20_2275
        first | (have bx20_2275 : -1 ≤ x20_2275 ∧ x20_2275 ≤ 5 := by rw [ex20_2275]; exact ((bm_n (Or.inr rfl)).mp (hI.bx _ _)).2.2.1 (by omega)) | skip
        unfold qX12_misleads_J117
        refine ⟨by omega, ?_⟩
        refine ⟨by omega, ?_⟩
        refine ⟨(by first | assumption | exact (by omega)), ?_⟩
        intro M24_2276 h_M24_2276
        have hM24_2276 : IM (b + 200 + 200 * v4) M24_2276 := by rw [h_M24_2276]; exact hI.up (isN.nu (Or.inr rfl) _) ((bm_n (Or.inr rfl)).mpr (by first | assumption | exact ⟨by omega, by omega, by omega, by omega⟩))
        exact ih _ _ _ _ _ _ (hM24_2276.mono (by first | exact Int.le_refl _ | omega)) (by omega) (by omega)
      · refine ⟨by omega, ?_⟩
        refine ⟨by omega, ?_⟩
        intro x27_2278 ex27_2278 rx27_2278
        have rbx27_2278 : -2147483648 ≤ x27_2278 ∧ x27_2278 ≤ 2147483647 := rx27_2278
        first | (have bx27_2278 : -1 ≤ x27_2278 ∧ x27_2278 ≤ 5 := by rw [ex27_2278]; exact ((bm_n (Or.inr rfl)).mp (hI.bx _ _)).2.2.1 (by omega)) | skip
        refine ⟨(by first | assumption | exact (by omega)), ?_⟩
        refine ⟨fun c => ?_, fun c => ?_⟩
        · unfold qX12_misleads_J107
          refine ⟨by omega, ?_⟩
          refine ⟨by omega, ?_⟩
          intro x20_2280 ex20_2280 rx20_2280
          have rbx20_2280 : -2147483648 ≤ x20_2280 ∧ x20_2280 ≤ 2147483647 := rx20_2280
          first | (have bx20_2280 : -1 ≤ x20_2280 ∧ x20_2280 ≤ 5 := by rw [ex20_2280]; exact ((bm_n (Or.inr rfl)).mp (hI.bx _ _)).2.2.1 (by omega)) | skip
          unfold qX12_misleads_J117
          refine ⟨by omega, ?_⟩
          refine ⟨by omega, ?_⟩
          refine ⟨(by first | assumption | exact (by omega)), ?_⟩
          intro M24_2281 h_M24_2281
          have hM24_2281 : IM (b + 200 + 200 * v4) M24_2281 := by rw [h_M24_2281]; exact hI.up (isN.nu (Or.inr rfl) _) ((bm_n (Or.inr rfl)).mpr (by first | assumption | exact ⟨by omega, by omega, by omega, by omega⟩))
          exact ih _ _ _ _ _ _ (hM24_2281.mono (by first | exact Int.le_refl _ | omega)) (by omega) (by omega)
        · unfold qX12_misleads_J117
          refine ⟨by omega, ?_⟩
          refine ⟨by omega, ?_⟩
          refine ⟨(by first | assumption | exact (by omega)), ?_⟩
          intro M24_2283 h_M24_2283
          have hM24_2283 : IM (b + 200 + 200 * v4) M24_2283 := by rw [h_M24_2283]; exact hI.up (isN.nu (Or.inr rfl) _) ((bm_n (Or.inr rfl)).mpr (by first | assumption | exact ⟨by omega, by omega, by omega, by omega⟩))
          exact ih _ _ _ _ _ _ (hM24_2283.mono (by first | exact Int.le_refl _ | omega)) (by omega) (by omega)
theorem sX12_misleads_L22  {X168 : Int → Int → Int → Mem → Prop} {Q : Int → Mem → Prop} {b : Int} (hb : b + 1600 ≤ 2000000000) (hQ : ∀ z : Int, ∀ M' : Mem, IM (b + 1600) M' → Q z M') (hX168 : ∀ w1 w2 w3 : Int, ∀ M' : Mem, IM (b + 1600) M' → (-2 ≤ w2 ∧ w2 ≤ 5 ∧ -1 ≤ w3 ∧ w3 ≤ 63) → X168 w1 w2 w3 M') : ∀ (n : Nat) (v1 v2 v3 v4 : Int) (M : Mem), IM (b + 200 + 200 * v4) M → (-2 ≤ v2 ∧ v2 ≤ 5 ∧ -1 ≤ v3 ∧ v3 ≤ 63 ∧ 0 ≤ v4 ∧ v4 ≤ 6) → 6 - v4 < (n : Int) → qX12_misleads_L22 X168 Q n v1 v2 v3 v4 M := by
  intro n
  induction n with
  | zero => intro v1 v2 v3 v4 M hI hv hm; exact absurd hm (by omega)
  | succ n ih =>
    intro v1 v2 v3 v4 M hI hv hm
    rw [qX12_misleads_L22]
    have hbn := hI.nn
    intro x4_2284 ex4_2284 rx4_2284
    have bx4_2284 : 0 ≤ x4_2284 ∧ x4_2284 ≤ 6 := by rw [ex4_2284]; exact bm_c1_4.mp (hI.bx _ _)
    refine ⟨(by first | assumption | exact (by omega)), ?_⟩
    refine ⟨fun c => ?_, fun c => ?_⟩
    · exact hX168 _ _ _ _ (hI.mono (by first | exact Int.le_refl _ | omega)) (by omega)
    · refine sX12_isOn (p1 := v4) hI (Or.inl rfl) (by omega) ?_
      intro x7_2287 p2288 q2289 q2290
      refine ⟨fun c => ?_, fun c => ?_⟩
      · exact ih _ _ _ _ _ (hI.mono (by first | exact Int.le_refl _ | omega)) (by omega) (by omega)
      · refine sX12_copies  hI  ?_
        intro M9_2293 hM9_2293
        refine ⟨by omega, ?_⟩
        refine ⟨by omega, ?_⟩
        intro M12_2294 h_M12_2294
        have hM12_2294 : IM (b + 200 + 200 * v4) M12_2294 := by rw [h_M12_2294]; exact hM9_2293.up (isN.nu (Or.inr rfl) _) ((bm_n (Or.inr rfl)).mpr (by first | assumption | exact ⟨by omega, by omega, by omega, by omega⟩))
        refine ⟨9, ?_⟩
        refine sX12_misleads_L58 (b := b)  (g1 := v1) (g2 := v2) (g3 := v3) (g4 := v4) hb ?_ ?_ _ _ _ _ _ _ _ (hM12_2294.mono (by first | exact Int.le_refl _ | omega)) (by omega) (by omega)
        · exact hQ
        · intro v1_2295 v2_2296 v3_2297 v4_2298 M_2299 hM_2299 p2300
          refine sX12_rightThen  hM_2299 (by omega) ?_
          intro x31_2301 M31_2302 hM31_2302 q2303
          refine ⟨(by first | assumption | exact (by omega)), ?_⟩
          refine sX12_owners (p1 := v4_2298) hM31_2302  ?_
          intro x33_2304 q2305
          intro x34_2306 ex34_2306 rx34_2306
          intro x35_2307 ex35_2307 rx35_2307
          refine sJ6_bitCountM (p0 := x35_2307) hM31_2302  ?_
          intro x36_2308 p2309 q2310
          refine ⟨(by first | assumption | exact (by omega)), ?_⟩
          refine ⟨fun c => ?_, fun c => ?_⟩
          · unfold qX12_misleads_J154
            refine ⟨(by first | assumption | exact (by omega)), ?_⟩
            refine ⟨(by first | assumption | exact (by omega)), ?_⟩
            intro x41_2312 ex41_2312 rx41_2312
            exact ih _ _ _ _ _ (hM31_2302.mono (by first | exact Int.le_refl _ | omega)) (by omega) (by omega)
          · unfold qX12_misleads_J154
            refine ⟨(by first | assumption | exact (by omega)), ?_⟩
            refine ⟨(by first | assumption | exact (by omega)), ?_⟩
            intro x41_2314 ex41_2314 rx41_2314
            exact ih _ _ _ _ _ (hM31_2302.mono (by first | exact Int.le_refl _ | omega)) (by omega) (by omega)
theorem sX12_misleads  {b : Int} {M : Mem} {Q : Int → Mem → Prop} (hI : IM b M) (hb : b + 1600 ≤ 2000000000) (hQ : ∀ z : Int, ∀ M' : Mem, IM (b + 1600) M' → Q z M') : qX12_misleads M Q := by
  unfold qX12_misleads
  have hbn := hI.nn
  intro M1_2315 h_M1_2315
  have hM1_2315 : IM (b) M1_2315 := by rw [h_M1_2315]; exact hI.up (by omega) (by simp [BM])
  refine sX12_copies  hM1_2315  ?_
  intro M2_2316 hM2_2316
  refine sX12_rightThen  hM2_2316 (by omega) ?_
  intro x3_2317 M3_2318 hM3_2318 q2319
  refine ⟨7, ?_⟩
  refine sX12_misleads_L22 (b := b)  hb ?_ ?_ _ _ _ _ _ _ (hM3_2318.mono (by first | exact Int.le_refl _ | omega)) (by omega) (by omega)
  · exact hQ
  · intro v1_2320 v2_2321 v3_2322 M_2323 hM_2323 p2324
    refine ⟨(by first | assumption | exact (by omega)), ?_⟩
    refine ⟨fun c => ?_, fun c => ?_⟩
    · exact hQ _ _ (hM_2323.mono (by first | exact Int.le_refl _ | omega))
    · intro M45_2327 h_M45_2327
      have hM45_2327 : IM (b + 1600) M45_2327 := by rw [h_M45_2327]; exact hM_2323.up (by omega) (bm_c1_1.mpr (by omega))
      refine ⟨(by first | assumption | exact (by omega)), ?_⟩
      have u2328 : 0 ≤ M45_2327 1 1 ∧ M45_2327 1 1 ≤ 24 := bm_c1_1.mp (hM45_2327.bx _ _)
      have t2329 : M45_2327 1 1 = 0 := by rw [h_M45_2327, up2_s]
      refine sX12_enters (p1 := v3_2322) hM45_2327 (by omega) ?_
      intro M47_2330 hM47_2330 p2331
      refine sX12_owners (p1 := v2_2321) hM47_2330  ?_
      intro x48_2332 q2333
      intro x49_2334 ex49_2334 rx49_2334
      intro x50_2335 ex50_2335 rx50_2335
      refine sJ6_bitCountM (p0 := x50_2335) hM47_2330  ?_
      intro x51_2336 p2337 q2338
      have u2339 : 0 ≤ M47_2330 1 1 ∧ M47_2330 1 1 ≤ 24 := bm_c1_1.mp (hM47_2330.bx _ _)
      refine sX12_enters (p1 := x51_2336) hM47_2330 (by omega) ?_
      intro M52_2340 hM52_2340 p2341
      exact hQ _ _ (hM52_2340.mono (by first | exact Int.le_refl _ | omega))
theorem sX12_crowd_L34  {X85 : Int → Mem → Prop} {Q : Int → Mem → Prop} {b : Int} (hb : b + 200 ≤ 2000000000) (hQ : ∀ z : Int, ∀ M' : Mem, IM (b + 200) M' → Q z M') (hX85 : ∀ w1 : Int, ∀ M' : Mem, IM (b + 200) M' → (0 ≤ w1 ∧ w1 ≤ 5) → X85 w1 M') : ∀ (n : Nat) (v1 v2 : Int) (M : Mem), IM (b + 200) M → (0 ≤ v1 ∧ v1 ≤ 5 ∧ 0 ≤ v2 ∧ v2 ≤ 6) → 6 - v2 < (n : Int) → qX12_crowd_L34 X85 Q n v1 v2 M := by
  intro n
  induction n with
  | zero => intro v1 v2 M hI hv hm; exact absurd hm (by omega)
  | succ n ih =>
    intro v1 v2 M hI hv hm
    rw [qX12_crowd_L34]
    have hbn := hI.nn
    intro x6_2342 ex6_2342 rx6_2342
    have bx6_2342 : 0 ≤ x6_2342 ∧ x6_2342 ≤ 6 := by rw [ex6_2342]; exact bm_c1_4.mp (hI.bx _ _)
    refine ⟨(by first | assumption | exact (by omega)), ?_⟩
    refine ⟨fun c => ?_, fun c => ?_⟩
    · exact hX85 _ _ (hI.mono (by first | exact Int.le_refl _ | omega)) (by omega)
    · refine sX12_bitsBy (p2 := 29) (p3 := v2) hI (Or.inr rfl) (by omega) ?_
      intro x9_2345 q2346
      refine sJ6_bitCountM (p0 := x9_2345) hI  ?_
      intro x10_2347 p2348 q2349
      refine ⟨(by first | assumption | exact (by omega)), ?_⟩
      refine sX12_bitsBy (p2 := 29) (p3 := v1) hI (Or.inr rfl) (by omega) ?_
      intro x12_2350 q2351
      refine sJ6_bitCountM (p0 := x12_2350) hI  ?_
      intro x13_2352 p2353 q2354
      refine ⟨fun c => ?_, fun c => ?_⟩
      · exact ih _ _ _ (hI.mono (by first | exact Int.le_refl _ | omega)) (by omega) (by omega)
      · exact ih _ _ _ (hI.mono (by first | exact Int.le_refl _ | omega)) (by omega) (by omega)
theorem sX12_crowd  {b : Int} {M : Mem} {Q : Int → Mem → Prop} (hI : IM b M) (hb : b + 200 ≤ 2000000000) (hQ : ∀ z : Int, ∀ M' : Mem, IM (b + 200) M' → Q z M') : qX12_crowd M Q := by
  unfold qX12_crowd
  have hbn := hI.nn
  intro M1_2357 h_M1_2357
  have hM1_2357 : IM (b) M1_2357 := by rw [h_M1_2357]; exact hI.up (by omega) (by simp [BM])
  intro x2_2358 ex2_2358 rx2_2358
  have bx2_2358 : 0 ≤ x2_2358 ∧ x2_2358 ≤ 6 := by rw [ex2_2358]; exact bm_c1_4.mp (hM1_2357.bx _ _)
  have fx2_2358 : x2_2358 = M 1 4 := by rw [ex2_2358, h_M1_2357, up2_j (by decide)]
  refine ⟨fun c => ?_, fun c => ?_⟩
  · refine sX12_copies  hM1_2357  ?_
    intro M4_2360 hM4_2360
    refine sX12_goesOn (p2 := 200) hM4_2360 (by omega) (Or.inr rfl) (by omega) ?_
    intro M5_2361 hM5_2361
    refine ⟨7, ?_⟩
    refine sX12_crowd_L34 (b := b)  hb ?_ ?_ _ _ _ _ (hM5_2361.mono (by first | exact Int.le_refl _ | omega)) (by omega) (by omega)
    · exact hQ
    · intro v1_2362 M_2363 hM_2363 p2364
      refine ⟨(by first | assumption | exact (by omega)), ?_⟩
      refine sX12_bitsBy (p2 := 29) (p3 := v1_2362) hM_2363 (Or.inr rfl) (by omega) ?_
      intro x17_2365 q2366
      intro M18_2367 h_M18_2367
      have hM18_2367 : IM (b + 200) M18_2367 := by rw [h_M18_2367]; exact hM_2363.up (by omega) (bm_c1_1.mpr (by omega))
      refine sJ6_bitCountM (p0 := x17_2365) hM18_2367  ?_
      intro x19_2368 p2369 q2370
      have u2371 : 0 ≤ M18_2367 1 1 ∧ M18_2367 1 1 ≤ 24 := bm_c1_1.mp (hM18_2367.bx _ _)
      have t2372 : M18_2367 1 1 = 0 := by rw [h_M18_2367, up2_s]
      refine sX12_enters (p1 := x19_2368) hM18_2367 (by omega) ?_
      intro M20_2373 hM20_2373 p2374
      refine sX12_owners (p1 := v1_2362) hM20_2373  ?_
      intro x21_2375 q2376
      intro x22_2377 ex22_2377 rx22_2377
      refine sJ6_bitCountM (p0 := x22_2377) hM20_2373  ?_
      intro x23_2378 p2379 q2380
      have u2381 : 0 ≤ M20_2373 1 1 ∧ M20_2373 1 1 ≤ 24 := bm_c1_1.mp (hM20_2373.bx _ _)
      refine sX12_enters (p1 := x23_2378) hM20_2373 (by omega) ?_
      intro M24_2382 hM24_2382 p2383
      exact hQ _ _ (hM24_2382.mono (by first | exact Int.le_refl _ | omega))
  · exact hQ _ _ (hM1_2357.mono (by first | exact Int.le_refl _ | omega))
theorem sX12_sharesFrom_L24 {rc : Int → Int → Int → Int → Mem → (Mem → Prop) → Prop} {p1 p2 p3 p4 b m : Int} {Q : Mem → Prop} (hQ : ∀ M' : Mem, IM b M' → M' 1 5 = m → Q M') : ∀ (n : Nat) (v5 : Int) (M : Mem), IM b M → M 1 5 = m → (0 ≤ v5 ∧ v5 ≤ 8) → 8 - v5 < (n : Int) → qX12_sharesFrom_L24 rc p1 p2 p3 p4 Q n v5 M := by
  intro n
  induction n with
  | zero => intro v5 M hI h5 hv hm; exact absurd hm (by omega)
  | succ n ih =>
    intro v5 M hI h5 hv hm
    rw [qX12_sharesFrom_L24]
    intro x43 e43 _
    have b43 : 0 ≤ x43 ∧ x43 ≤ 8 := by rw [e43]; exact bm_c1_5.mp (hI.bx _ _)
    refine ⟨(by omega), ⟨fun c => hQ _ hI h5, fun c => ⟨by omega, by omega, ?_⟩⟩⟩
    intro x48 _ _ M49 h49
    exact ih _ _ (by rw [h49]; exact hI.up (by omega) (by simp [BM])) (by rw [h49, up2_n (by decide)]; exact h5) (by omega) (by omega)
theorem sX12_sharesFrom_L91 {rc : Int → Int → Int → Int → Mem → (Mem → Prop) → Prop} {p1 p2 p3 p4 b m : Int} {Q : Mem → Prop} (hp : 0 ≤ p1 ∧ p1 ≤ 7 ∧ 0 ≤ p3 ∧ p3 ≤ p1) (hrc : ∀ (q2 q3 : Int) (M : Mem) (Q : Mem → Prop), (0 ≤ q3 ∧ q3 ≤ p1 + 1) → IM b M → M 1 5 = m → (∀ M' : Mem, IM b M' → M' 1 5 = m → Q M') → rc (p1 + 1) q2 q3 p4 M Q) (hQ : ∀ M' : Mem, IM b M' → M' 1 5 = m → Q M') : ∀ (n : Nat) (v5 : Int) (M : Mem), IM b M → M 1 5 = m → (0 ≤ v5 ∧ v5 ≤ 6) → 6 - v5 < (n : Int) → qX12_sharesFrom_L91 rc p1 p2 p3 p4 Q n v5 M := by
  intro n
  induction n with
  | zero => intro v5 M hI h5 hv hm; exact absurd hm (by omega)
  | succ n ih =>
    intro v5 M hI h5 hv hm
    rw [qX12_sharesFrom_L91]
    intro x12 e12 _
    have b12 : 0 ≤ x12 ∧ x12 ≤ 6 := by rw [e12]; exact bm_c1_4.mp (hI.bx _ _)
    refine ⟨(by omega), ⟨fun c => hQ _ hI h5, fun c => ?_⟩⟩
    refine sX12_isEnded (p1 := p1) hI (Or.inl rfl) (by omega) ?_
    intro x15 _ _
    refine ⟨fun c2 => hQ _ hI h5, fun c2 => ?_⟩
    refine sX12_has (p0 := p2) (p1 := v5) hI ?_
    intro x17 _ _
    refine ⟨fun c3 => ih _ _ hI h5 (by omega) (by omega), fun c3 => ?_⟩
    refine sX12_isOn (p1 := v5) hI (Or.inl rfl) (by omega) ?_
    intro x19 _ _ _
    refine ⟨fun c4 => ih _ _ hI h5 (by omega) (by omega), fun c4 => ⟨by omega, by omega, ?_⟩⟩
    intro x23 e23 _
    have b23 : -1 ≤ x23 ∧ x23 ≤ 29 := by rw [e23]; exact ((bm_n (Or.inl rfl)).mp (hI.bx _ _)).1 (by omega)
    refine ⟨by omega, by omega, ?_⟩
    intro x26 e26 _
    have b26 : -1 ≤ x26 ∧ x26 ≤ 29 := by rw [e26]; exact ((bm_n (Or.inl rfl)).mp (hI.bx _ _)).2.1 (by omega)
    refine ⟨(by omega), ?_⟩
    intro x28 a28 n28
    refine ⟨(by omega), ⟨fun c5 => ih _ _ hI h5 (by omega) (by omega), fun c5 => ⟨by omega, by omega, ?_⟩⟩⟩
    intro M33 h33 x34 _ _ x35 _ _
    refine ⟨(by omega), (by omega), ?_⟩
    refine hrc _ _ _ _ (by omega) (by rw [h33]; exact hI.up (by omega) (by simp [BM])) (by rw [h33, up2_n (by decide)]; exact h5) ?_
    intro M38 h38 g5
    exact ih _ _ h38 g5 (by omega) (by omega)
theorem sX12_sharesFrom (b : Int) : ∀ (d : Nat) (p1 p2 p3 p4 : Int) (M : Mem) (Q : Mem → Prop), IM b M → (0 ≤ p1 ∧ p1 ≤ M 1 5) → (0 ≤ p3 ∧ p3 ≤ p1) → M 1 5 - p1 < (d : Int) → (∀ M' : Mem, IM b M' → M' 1 5 = M 1 5 → Q M') → qX12_sharesFrom d p1 p2 p3 p4 M Q := by
  intro d
  induction d with
  | zero => intro p1 p2 p3 p4 M Q hI hp h3 hm hQ; exact absurd hm (by omega)
  | succ d ih =>
    intro p1 p2 p3 p4 M Q hI hp h3 hm hQ
    show bX12_sharesFrom (qX12_sharesFrom d) p1 p2 p3 p4 M Q
    unfold bX12_sharesFrom
    intro x1 e1 _
    have b1 : 0 ≤ x1 ∧ x1 ≤ 8 := by rw [e1]; exact bm_c1_5.mp (hI.bx _ _)
    refine ⟨fun c => ?_, fun c => ?_⟩
    · intro x3 e3 _ x4 e4 r4
      refine ⟨(by omega), ⟨fun c2 => ⟨by omega, by omega, ?_⟩, fun c2 => hQ _ hI rfl⟩⟩
      intro M9 h9
      have i9 : IM b M9 := by rw [h9]; exact hI.up (by omega) (by simp [BM])
      have g9 : M9 1 5 = M 1 5 := by rw [h9, up2_n (by decide)]
      have hrc : ∀ (q2 q3 : Int) (M' : Mem) (Q' : Mem → Prop), (0 ≤ q3 ∧ q3 ≤ p1 + 1) → IM b M' → M' 1 5 = M 1 5 → (∀ M'' : Mem, IM b M'' → M'' 1 5 = M 1 5 → Q' M'') → qX12_sharesFrom d (p1 + 1) q2 q3 p4 M' Q' := fun q2 q3 M' Q' h0 hi h5 hq => ih _ _ _ _ _ _ hi (by omega) h0 (by omega) (fun M'' h g => hq M'' h (by omega))
      refine ⟨(by omega), ?_⟩
      refine hrc _ _ _ _ (by omega) i9 g9 ?_
      intro M11 h11 g11
      exact ⟨7, sX12_sharesFrom_L91 (b := b) (m := M 1 5) ⟨by omega, by omega, by omega, by omega⟩ hrc hQ _ _ _ h11 g11 (by omega) (by omega)⟩
    · intro x40 e40 _
      refine ⟨fun c2 => hQ _ hI rfl, fun c2 => ?_⟩
      intro M42 h42
      exact ⟨9, sX12_sharesFrom_L24 (b := b) (m := M 1 5) hQ _ _ _ (by rw [h42]; exact hI.up (by omega) (by simp [BM])) (by rw [h42, up2_j (by decide)]) (by omega) (by omega)⟩
theorem sX12_shares_L39 {p1 : Int} {Q : Int → Mem → Prop} {b : Int} (hQ : ∀ (z : Int) (M' : Mem), IM b M' → Q z M') : ∀ (n : Nat) (v2 : Int) (M : Mem), IM b M → (0 ≤ v2 ∧ v2 ≤ 8 ∧ M 1 1 ≤ v2) → 8 - v2 < (n : Int) → qX12_shares_L39 p1 Q n v2 M := by
  intro n
  induction n with
  | zero => intro v2 M hI hv hm; exact absurd hm (by omega)
  | succ n ih =>
    intro v2 M hI hv hm
    rw [qX12_shares_L39]
    intro x8 e8 _
    have b8 : 0 ≤ x8 ∧ x8 ≤ 8 := by rw [e8]; exact bm_c1_5.mp (hI.bx _ _)
    refine ⟨(by omega), ⟨fun c => fun x11 _ _ => hQ _ _ hI, fun c => ⟨by omega, by omega, ?_⟩⟩⟩
    intro x14 _ _
    refine sX12_enters hI (by omega) ?_
    intro M15 h15 g15
    exact ih _ _ h15 (by omega) (by omega)
theorem sX12_shares {p1 b : Int} {M : Mem} {Q : Int → Mem → Prop} (hI : IM b M) (hQ : ∀ (z : Int) (M' : Mem), IM b M' → Q z M') : qX12_shares p1 M Q := by
  unfold qX12_shares
  intro M1 h1
  have i1 : IM b M1 := by rw [h1]; exact hI.up (by omega) (by simp [BM])
  refine sX12_in (p0 := p1) (p2 := 0) (p4 := 30) i1 ?_
  intro x2 p2 _ _
  refine ⟨fun c => ?_, fun c => hQ _ _ i1⟩
  intro M4 h4
  have i4 : IM b M4 := by rw [h4]; exact i1.up (by omega) (by simp [BM])
  have b5 := bm_c1_5.mp (i4.bx 1 5)
  refine ⟨10, by omega, ?_⟩
  refine sX12_sharesFrom b 10 0 0 0 p1 M4 _ i4 (by omega) (by omega) (by omega) ?_
  intro M5 h5 g5 M7 h7
  have i7 : IM b M7 := by rw [h7]; exact h5.up (by omega) (bm_c1_1.mpr (by decide))
  have k7 : M7 1 1 = 0 := by rw [h7, up2_s]
  exact ⟨9, sX12_shares_L39 (b := b) hQ _ _ _ i7 (by omega) (by omega)⟩
theorem sX12_strangers_L31  {X128 : Int → Int → Int → Int → Mem → Prop} {Q : Int → Mem → Prop} {b : Int} {g0 : Int} (hQ : ∀ z : Int, ∀ M' : Mem, IM b M' → Q z M') (hX128 : ∀ w1 w2 w3 w4 : Int, ∀ M' : Mem, IM (b) M' → (w4 = g0 ∧ 0 ≤ w1 ∧ w1 ≤ 1000000 ∧ -1 ≤ w2 ∧ w2 ≤ 7 ∧ -1 ≤ w3 ∧ w3 ≤ 7) → X128 w1 w2 w3 w4 M') : ∀ (n : Nat) (v1 v2 v3 v4 v5 : Int) (M : Mem), IM (b) M → (v4 = g0 ∧ 0 ≤ v1 ∧ v1 ≤ 1000000 ∧ -1 ≤ v2 ∧ v2 ≤ 7 ∧ -1 ≤ v3 ∧ v3 ≤ 7 ∧ 0 ≤ v4 ∧ v4 ≤ 7 ∧ 0 ≤ v5 ∧ v5 ≤ 8) → 8 - v5 < (n : Int) → qX12_strangers_L31 X128 Q n v1 v2 v3 v4 v5 M := by
  intro n
  induction n with
  | zero => intro v1 v2 v3 v4 v5 M hI hv hm; exact absurd hm (by omega)
  | succ n ih =>
    intro v1 v2 v3 v4 v5 M hI hv hm
    rw [qX12_strangers_L31]
    have hbn := hI.nn
    intro x5_2385 ex5_2385 rx5_2385
    have bx5_2385 : 0 ≤ x5_2385 ∧ x5_2385 ≤ 8 := by rw [ex5_2385]; exact bm_c1_5.mp (hI.bx _ _)
    refine ⟨(by first | assumption | exact (by omega)), ?_⟩
    refine ⟨fun c => ?_, fun c => ?_⟩
    · exact hX128 _ _ _ _ _ (hI.mono (by first | exact Int.le_refl _ | omega)) (by omega)
    · refine ⟨by omega, ?_⟩
      refine ⟨by omega, ?_⟩
      intro x10_2388 ex10_2388 rx10_2388
      have rbx10_2388 : -2147483648 ≤ x10_2388 ∧ x10_2388 ≤ 2147483647 := rx10_2388
      first | (have bx10_2388 : -1 ≤ x10_2388 ∧ x10_2388 ≤ 29 := by rw [ex10_2388]; exact ((bm_n (Or.inl rfl)).mp (hI.bx _ _)).2.1 (by omega)) | skip
      refine ⟨by omega, ?_⟩
      refine ⟨by omega, ?_⟩
      intro x13_2389 ex13_2389 rx13_2389
      have rbx13_2389 : -2147483648 ≤ x13_2389 ∧ x13_2389 ≤ 2147483647 := rx13_2389
      first | (have bx13_2389 : -1 ≤ x13_2389 ∧ x13_2389 ≤ 29 := by rw [ex13_2389]; exact ((bm_n (Or.inl rfl)).mp (hI.bx _ _)).2.1 (by omega)) | skip
      refine ⟨(by first | assumption | exact (by omega)), ?_⟩
      intro x15_2390 px15_2390 nx15_2390
      have bx15_2390 : 0 ≤ x15_2390 ∧ (x10_2388 - x13_2389 = x15_2390 ∨ x10_2388 - x13_2389 = -x15_2390) := by omega
      refine ⟨by omega, ?_⟩
      refine ⟨by omega, ?_⟩
      intro x18_2391 ex18_2391 rx18_2391
      have bx18_2391 : 0 ≤ x18_2391 ∧ x18_2391 ≤ 5 := by rw [ex18_2391]; exact bm_c3.mp (hI.bx _ _)
      refine ⟨by omega, ?_⟩
      refine ⟨by omega, ?_⟩
      intro x21_2392 ex21_2392 rx21_2392
      have bx21_2392 : 0 ≤ x21_2392 ∧ x21_2392 ≤ 5 := by rw [ex21_2392]; exact bm_c3.mp (hI.bx _ _)
      refine ⟨fun c => ?_, fun c => ?_⟩
      · exact ih _ _ _ _ _ _ (hI.mono (by first | exact Int.le_refl _ | omega)) (by omega) (by omega)
      · refine ⟨(by first | assumption | exact (by omega)), ?_⟩
        refine sX12_isEnded (p1 := v4) hI (Or.inl rfl) (by omega) ?_
        intro x24_2395 q2396 q2397
        refine ⟨fun c => ?_, fun c => ?_⟩
        · exact ih _ _ _ _ _ _ (hI.mono (by first | exact Int.le_refl _ | omega)) (by omega) (by omega)
        · refine sX12_isEnded (p1 := v5) hI (Or.inl rfl) (by omega) ?_
          intro x26_2400 q2401 q2402
          refine ⟨fun c => ?_, fun c => ?_⟩
          · exact ih _ _ _ _ _ _ (hI.mono (by first | exact Int.le_refl _ | omega)) (by omega) (by omega)
          · refine ⟨(by first | assumption | exact (by omega)), ?_⟩
            refine ⟨(by first | assumption | exact (by omega)), ?_⟩
            refine ⟨fun c => ?_, fun c => ?_⟩
            · exact ih _ _ _ _ _ _ (hI.mono (by first | exact Int.le_refl _ | omega)) (by omega) (by omega)
            · exact ih _ _ _ _ _ _ (hI.mono (by first | exact Int.le_refl _ | omega)) (by omega) (by omega)
theorem sX12_strangers_L16  {X134 : Int → Int → Int → Mem → Prop} {Q : Int → Mem → Prop} {b : Int} (hQ : ∀ z : Int, ∀ M' : Mem, IM b M' → Q z M') (hX134 : ∀ w1 w2 w3 : Int, ∀ M' : Mem, IM (b) M' → (0 ≤ w1 ∧ w1 ≤ 1000000 ∧ -1 ≤ w2 ∧ w2 ≤ 7 ∧ -1 ≤ w3 ∧ w3 ≤ 7) → X134 w1 w2 w3 M') : ∀ (n : Nat) (v1 v2 v3 v4 : Int) (M : Mem), IM (b) M → (0 ≤ v1 ∧ v1 ≤ 1000000 ∧ -1 ≤ v2 ∧ v2 ≤ 7 ∧ -1 ≤ v3 ∧ v3 ≤ 7 ∧ 0 ≤ v4 ∧ v4 ≤ 8) → 8 - v4 < (n : Int) → qX12_strangers_L16 X134 Q n v1 v2 v3 v4 M := by
  intro n
  induction n with
  | zero => intro v1 v2 v3 v4 M hI hv hm; exact absurd hm (by omega)
  | succ n ih =>
    intro v1 v2 v3 v4 M hI hv hm
    rw [qX12_strangers_L16]
    have hbn := hI.nn
    intro x2_2407 ex2_2407 rx2_2407
    have bx2_2407 : 0 ≤ x2_2407 ∧ x2_2407 ≤ 8 := by rw [ex2_2407]; exact bm_c1_5.mp (hI.bx _ _)
    refine ⟨(by first | assumption | exact (by omega)), ?_⟩
    refine ⟨fun c => ?_, fun c => ?_⟩
    · exact hX134 _ _ _ _ (hI.mono (by first | exact Int.le_refl _ | omega)) (by omega)
    · refine ⟨9, ?_⟩
      refine sX12_strangers_L31 (b := b)  (g0 := v4) ?_ ?_ _ _ _ _ _ _ _ (hI.mono (by first | exact Int.le_refl _ | omega)) (by omega) (by omega)
      · exact hQ
      · intro v1_2410 v2_2411 v3_2412 v4_2413 M_2414 hM_2414 p2415
        exact ih _ _ _ _ _ (hM_2414.mono (by first | exact Int.le_refl _ | omega)) (by omega) (by omega)
theorem sX12_strangers  {b : Int} {M : Mem} {Q : Int → Mem → Prop} (hI : IM b M) (hQ : ∀ z : Int, ∀ M' : Mem, IM b M' → Q z M') : qX12_strangers M Q := by
  unfold qX12_strangers
  have hbn := hI.nn
  intro M1_2416 h_M1_2416
  have hM1_2416 : IM (b) M1_2416 := by rw [h_M1_2416]; exact hI.up (by omega) (by simp [BM])
  refine ⟨9, ?_⟩
  refine sX12_strangers_L16 (b := b)  ?_ ?_ _ _ _ _ _ _ (hM1_2416.mono (by first | exact Int.le_refl _ | omega)) (by omega) (by omega)
  · exact hQ
  · intro v1_2417 v2_2418 v3_2419 M_2420 hM_2420 p2421
    refine ⟨(by first | assumption | exact (by omega)), ?_⟩
    refine ⟨fun c => ?_, fun c => ?_⟩
    · intro M35_2423 h_M35_2423
      have hM35_2423 : IM (b) M35_2423 := by rw [h_M35_2423]; exact hM_2420.up (by omega) (bm_c1_1.mpr (by omega))
      have u2424 : 0 ≤ M35_2423 1 1 ∧ M35_2423 1 1 ≤ 24 := bm_c1_1.mp (hM35_2423.bx _ _)
      have t2425 : M35_2423 1 1 = 0 := by rw [h_M35_2423, up2_s]
      refine sX12_enters (p1 := v2_2418) hM35_2423 (by omega) ?_
      intro M36_2426 hM36_2426 p2427
      refine ⟨(by first | assumption | exact (by omega)), ?_⟩
      have u2428 : 0 ≤ M36_2426 1 1 ∧ M36_2426 1 1 ≤ 24 := bm_c1_1.mp (hM36_2426.bx _ _)
      refine sX12_enters (p1 := v3_2419) hM36_2426 (by omega) ?_
      intro M38_2429 hM38_2429 p2430
      refine ⟨(by first | assumption | exact (by omega)), ?_⟩
      exact hQ _ _ (hM38_2429.mono (by first | exact Int.le_refl _ | omega))
    · exact hQ _ _ (hM_2420.mono (by first | exact Int.le_refl _ | omega))
theorem sX12_doubts_L41  {X127 : Int → Int → Int → Mem → Prop} {Q : Int → Mem → Prop} {b : Int} {g1 : Int} {g2 : Int} (hQ : ∀ z : Int, ∀ M' : Mem, IM b M' → Q z M') (hX127 : ∀ w1 w2 w3 : Int, ∀ M' : Mem, IM (b) M' → (w1 = g1 ∧ w2 = g2 ∧ 0 ≤ w3 ∧ w3 ≤ 6) → X127 w1 w2 w3 M') : ∀ (n : Nat) (v1 v2 v3 v4 v5 : Int) (M : Mem), IM (b) M → (v1 = g1 ∧ v2 = g2 ∧ 0 ≤ v2 ∧ v2 ≤ 7 ∧ -1 ≤ v3 ∧ v3 ≤ 5 ∧ 0 ≤ v4 ∧ v4 ≤ v5 ∧ v5 ≤ 6) → 6 - v5 < (n : Int) → qX12_doubts_L41 X127 Q n v1 v2 v3 v4 v5 M := by
  intro n
  induction n with
  | zero => intro v1 v2 v3 v4 v5 M hI hv hm; exact absurd hm (by omega)
  | succ n ih =>
    intro v1 v2 v3 v4 v5 M hI hv hm
    rw [qX12_doubts_L41]
    have hbn := hI.nn
    intro x9_2432 ex9_2432 rx9_2432
    have bx9_2432 : 0 ≤ x9_2432 ∧ x9_2432 ≤ 6 := by rw [ex9_2432]; exact bm_c1_4.mp (hI.bx _ _)
    refine ⟨(by first | assumption | exact (by omega)), ?_⟩
    refine ⟨fun c => ?_, fun c => ?_⟩
    · exact hX127 _ _ _ _ (hI.mono (by first | exact Int.le_refl _ | omega)) (by omega)
    · refine ⟨(by first | assumption | exact (by omega)), ?_⟩
      refine ⟨fun c => ?_, fun c => ?_⟩
      · exact hX127 _ _ _ _ (hI.mono (by first | exact Int.le_refl _ | omega)) (by omega)
      · refine sX12_isOn (p1 := v5) hI (Or.inl rfl) (by omega) ?_
        intro x14_2437 p2438 q2439 q2440
        refine ⟨fun c => ?_, fun c => ?_⟩
        · unfold qX12_doubts_J114
          unfold qX12_doubts_J115
          refine ⟨(by first | assumption | exact (by omega)), ?_⟩
          refine sX12_flag (p0 := 0) hI  ?_
          intro x17_2442 p2443 q2444
          exact ih _ _ _ _ _ _ (hI.mono (by first | exact Int.le_refl _ | omega)) (by omega) (by omega)
        · refine ⟨by omega, ?_⟩
          refine ⟨by omega, ?_⟩
          intro x20_2446 ex20_2446 rx20_2446
          have rbx20_2446 : -2147483648 ≤ x20_2446 ∧ x20_2446 ≤ 2147483647 := rx20_2446
          have nbx20_2446 : BN (b) v5 x20_2446 := by rw [ex20_2446]; exact (bm_n (Or.inl rfl)).mp (hI.bx _ _)
          first | (have bx20_2446 : -1 ≤ x20_2446 ∧ x20_2446 ≤ 29 := nbx20_2446.1 (by omega)) | (have bx20_2446 : -1 ≤ x20_2446 ∧ x20_2446 ≤ 29 := nbx20_2446.2.1 (by omega)) | skip
          refine ⟨by omega, ?_⟩
          refine ⟨by omega, ?_⟩
          intro x23_2447 ex23_2447 rx23_2447
          have rbx23_2447 : -2147483648 ≤ x23_2447 ∧ x23_2447 ≤ 2147483647 := rx23_2447
          first | (have bx23_2447 : -1 ≤ x23_2447 ∧ x23_2447 ≤ 29 := by rw [ex23_2447]; exact ((bm_n (Or.inl rfl)).mp (hI.bx _ _)).2.1 (by omega)) | skip
          refine ⟨(by first | assumption | exact (by omega)), ?_⟩
          intro x25_2448 px25_2448 nx25_2448
          have bx25_2448 : 0 ≤ x25_2448 ∧ (x20_2446 - x23_2447 = x25_2448 ∨ x20_2446 - x23_2447 = -x25_2448) := by omega
          refine ⟨by omega, ?_⟩
          refine ⟨by omega, ?_⟩
          intro x28_2449 ex28_2449 rx28_2449
          have rbx28_2449 : -2147483648 ≤ x28_2449 ∧ x28_2449 ≤ 2147483647 := rx28_2449
          have nbx28_2449 : BN (b) v3 x28_2449 := by rw [ex28_2449]; exact (bm_n (Or.inl rfl)).mp (hI.bx _ _)
          first | (have bx28_2449 : -1 ≤ x28_2449 ∧ x28_2449 ≤ 29 := nbx28_2449.1 (by omega)) | (have bx28_2449 : -1 ≤ x28_2449 ∧ x28_2449 ≤ 29 := nbx28_2449.2.1 (by omega)) | skip
          intro x29_2450 ex29_2450 rx29_2450
          have rbx29_2450 : -2147483648 ≤ x29_2450 ∧ x29_2450 ≤ 2147483647 := rx29_2450
          first | (have bx29_2450 : -1 ≤ x29_2450 ∧ x29_2450 ≤ 29 := by rw [ex29_2450]; exact ((bm_n (Or.inl rfl)).mp (hI.bx _ _)).2.1 (by omega)) | skip
          refine ⟨(by first | assumption | exact (by omega)), ?_⟩
          intro x31_2451 px31_2451 nx31_2451
          have bx31_2451 : 0 ≤ x31_2451 ∧ (x28_2449 - x29_2450 = x31_2451 ∨ x28_2449 - x29_2450 = -x31_2451) := by omega
          refine ⟨(by first | assumption | exact (by omega)), ?_⟩
          refine ⟨(by first | assumption | exact (by omega)), ?_⟩
          refine ⟨fun c => ?_, fun c => ?_⟩
          · unfold qX12_doubts_J114
            unfold qX12_doubts_J115
            refine ⟨(by first | assumption | exact (by omega)), ?_⟩
            refine sX12_flag (p0 := 0) hI  ?_
            intro x17_2453 p2454 q2455
            exact ih _ _ _ _ _ _ (hI.mono (by first | exact Int.le_refl _ | omega)) (by omega) (by omega)
          · unfold qX12_doubts_J115
            refine ⟨(by first | assumption | exact (by omega)), ?_⟩
            refine sX12_flag (p0 := 1) hI  ?_
            intro x17_2457 p2458 q2459
            exact ih _ _ _ _ _ _ (hI.mono (by first | exact Int.le_refl _ | omega)) (by omega) (by omega)
theorem sX12_doubts_L9  {X160 : Int → Mem → Prop} {Q : Int → Mem → Prop} {b : Int} (hQ : ∀ z : Int, ∀ M' : Mem, IM b M' → Q z M') (hX160 : ∀ w1 : Int, ∀ M' : Mem, IM (b) M' → iR w1 → X160 w1 M') : ∀ (n : Nat) (v1 v2 : Int) (M : Mem), IM (b) M → (0 ≤ v2 ∧ v2 ≤ 8) → iR v1 → 8 - v2 < (n : Int) → qX12_doubts_L9 X160 Q n v1 v2 M := by
  intro n
  induction n with
  | zero => intro v1 v2 M hI hv hrv1 hm; exact absurd hm (by omega)
  | succ n ih =>
    intro v1 v2 M hI hv hrv1 hm
    rw [qX12_doubts_L9]
    have hbn := hI.nn
    intro x2_2460 ex2_2460 rx2_2460
    have bx2_2460 : 0 ≤ x2_2460 ∧ x2_2460 ≤ 8 := by rw [ex2_2460]; exact bm_c1_5.mp (hI.bx _ _)
    refine ⟨(by first | assumption | exact (by omega)), ?_⟩
    refine ⟨fun c => ?_, fun c => ?_⟩
    · exact hX160 _ _ (hI.mono (by first | exact Int.le_refl _ | omega)) (by first | assumption | exact (by omega))
    · refine ⟨by omega, ?_⟩
      refine ⟨by omega, ?_⟩
      intro x7_2463 ex7_2463 rx7_2463
      have rbx7_2463 : -2147483648 ≤ x7_2463 ∧ x7_2463 ≤ 2147483647 := rx7_2463
      first | (have bx7_2463 : -1 ≤ x7_2463 ∧ x7_2463 ≤ 29 := by rw [ex7_2463]; exact ((bm_n (Or.inl rfl)).mp (hI.bx _ _)).2.1 (by omega)) | skip
      refine sX12_nearest (p2 := x7_2463) hI (Or.inl rfl) (by omega) ?_
      intro x8_2464 p2465 q2466
      refine ⟨7, ?_⟩
      refine sX12_doubts_L41 (b := b)  (g1 := v1) (g2 := v2) ?_ ?_ _ _ _ _ _ _ _ (hI.mono (by first | exact Int.le_refl _ | omega)) (by omega) (by omega)
      · exact hQ
      · intro v1_2467 v2_2468 v4_2469 M_2470 hM_2470 p2471
        unfold qX12_doubts_J127
        refine ⟨(by first | assumption | exact (by omega)), ?_⟩
        refine ⟨fun c => ?_, fun c => ?_⟩
        · intro x38_2473 ex38_2473 rx38_2473
          first | (have fx38_2473 := oI_64 (a := v1_2467) (b := 0) (by omega) (by omega); rw [← ex38_2473] at fx38_2473) | skip
          exact ih _ _ _ (hM_2470.mono (by first | exact Int.le_refl _ | omega)) (by omega) (by first | assumption | exact (by omega)) (by omega)
        · refine ⟨(by first | assumption | exact (by omega)), ?_⟩
          refine sX12_isEnded (p1 := v2_2468) hM_2470 (Or.inl rfl) (by omega) ?_
          intro x40_2475 q2476 q2477
          refine ⟨fun c => ?_, fun c => ?_⟩
          · intro x42_2479 ex42_2479 rx42_2479
            first | (have fx42_2479 := oI_64 (a := v1_2467) (b := 0) (by omega) (by omega); rw [← ex42_2479] at fx42_2479) | skip
            exact ih _ _ _ (hM_2470.mono (by first | exact Int.le_refl _ | omega)) (by omega) (by first | assumption | exact (by omega)) (by omega)
          · intro x43_2481 ex43_2481 rx43_2481
            first | (have fx43_2481 := slI_1 (b := v2_2468) (by omega); rw [← ex43_2481] at fx43_2481) | skip
            intro x44_2482 ex44_2482 rx44_2482
            first | (have fx44_2482 := oI_64 (a := v1_2467) (b := x43_2481) (by omega) (by omega); rw [← ex44_2482] at fx44_2482) | skip
            exact ih _ _ _ (hM_2470.mono (by first | exact Int.le_refl _ | omega)) (by omega) (by first | assumption | exact (by omega)) (by omega)
theorem sX12_doubts  {b : Int} {M : Mem} {Q : Int → Mem → Prop} (hI : IM b M) (hQ : ∀ z : Int, ∀ M' : Mem, IM b M' → Q z M') : qX12_doubts M Q := by
  unfold qX12_doubts
  have hbn := hI.nn
  intro M1_2483 h_M1_2483
  have hM1_2483 : IM (b) M1_2483 := by rw [h_M1_2483]; exact hI.up (by omega) (by simp [BM])
  refine ⟨9, ?_⟩
  refine sX12_doubts_L9 (b := b)  ?_ ?_ _ _ _ _ (hM1_2483.mono (by first | exact Int.le_refl _ | omega)) (by omega) (by first | assumption | exact (by omega)) (by omega)
  · exact hQ
  · intro v1_2484 M_2485 hM_2485 r2486
    intro M46_2487 h_M46_2487
    have hM46_2487 : IM (b) M46_2487 := by rw [h_M46_2487]; exact hM_2485.up (by omega) (bm_c1_1.mpr (by omega))
    refine ⟨(by first | assumption | exact (by omega)), ?_⟩
    refine sJ6_bitCountM (p0 := v1_2484) hM46_2487  ?_
    intro x48_2488 p2489 q2490
    have u2491 : 0 ≤ M46_2487 1 1 ∧ M46_2487 1 1 ≤ 24 := bm_c1_1.mp (hM46_2487.bx _ _)
    have t2492 : M46_2487 1 1 = 0 := by rw [h_M46_2487, up2_s]
    refine sX12_enters (p1 := x48_2488) hM46_2487 (by omega) ?_
    intro M49_2493 hM49_2493 p2494
    exact hQ _ _ (hM49_2493.mono (by first | exact Int.le_refl _ | omega))
end
section
theorem sX12_isSo {p1 : Int} {p2 : Int} {p3 : Int} {b : Int} {M : Mem} {Q : Int → Mem → Prop} (hI : IM b M) (hp : 0 ≤ p1 ∧ p1 ≤ 5) (hQ : ∀ z : Int, Q z M) : qX12_isSo p1 p2 p3 M Q := by
  unfold qX12_isSo
  have hbn := hI.nn
  refine ⟨fun c => ?_, fun c => ?_, fun c => ?_, fun c => ?_⟩
  · refine sX12_owners (p1 := p1) hI  ?_
    intro x2_2642 q2643
    refine sJ6_bitCountM (p0 := x2_2642) hI  ?_
    intro x3_2644 p2645 q2646
    refine ⟨fun c => ?_, fun c => ?_⟩
    · exact hQ _
    · exact hQ _
  · refine sX12_isOn (p1 := p1) hI (Or.inr rfl) (by omega) ?_
    intro x5_2650 p2651 q2652 q2653
    refine ⟨fun c => ?_, fun c => ?_⟩
    · exact hQ _
    · refine ⟨by omega, ?_⟩
      refine ⟨by omega, ?_⟩
      intro x9_2656 ex9_2656 rx9_2656
      have bx9_2656 : -2147483648 ≤ x9_2656 ∧ x9_2656 ≤ 2147483647 := rx9_2656
      refine ⟨fun c => ?_, fun c => ?_⟩
      · exact hQ _
      · exact hQ _
  · refine sX12_bitsBy (p2 := 29) (p3 := p1) hI (Or.inr rfl) (by omega) ?_
    intro x11_2660 q2661
    refine sJ6_bitCountM (p0 := x11_2660) hI  ?_
    intro x12_2662 p2663 q2664
    refine ⟨fun c => ?_, fun c => ?_⟩
    · exact hQ _
    · exact hQ _
  · intro x14_2668 ex14_2668 rx14_2668
    first | (have fx14_2668 := rmI_b (a := p1) (b := 2) (by omega) (by omega); rw [← ex14_2668] at fx14_2668) | skip
    refine ⟨fun c => ?_, fun c => ?_⟩
    · exact hQ _
    · exact hQ _
theorem sX12_fits_L37  {X84 : Int → Int → Int → Mem → Prop} {Q : Int → Mem → Prop} {b : Int} {g1 : Int} {g2 : Int} (hb : b + 200 ≤ 2000000000) (hQ : ∀ z : Int, ∀ M' : Mem, IM (b + 200) M' → Q z M') (hX84 : ∀ w1 w2 w3 : Int, ∀ M' : Mem, IM (b + 200) M' → (w1 = g1 ∧ w2 = g2 ∧ 0 ≤ w3 ∧ w3 ≤ 1) → X84 w1 w2 w3 M') : ∀ (n : Nat) (v1 v2 v3 v4 : Int) (M : Mem), IM (b + 200) M → (v1 = g1 ∧ v2 = g2 ∧ 0 ≤ v2 ∧ v2 ≤ 5 ∧ 0 ≤ v3 ∧ v3 ≤ 1 ∧ 0 ≤ v4 ∧ v4 ≤ 8) → 8 - v4 < (n : Int) → qX12_fits_L37 X84 Q n v1 v2 v3 v4 M := by
  intro n
  induction n with
  | zero => intro v1 v2 v3 v4 M hI hv hm; exact absurd hm (by omega)
  | succ n ih =>
    intro v1 v2 v3 v4 M hI hv hm
    rw [qX12_fits_L37]
    have hbn := hI.nn
    intro x7_2671 ex7_2671 rx7_2671
    have bx7_2671 : 0 ≤ x7_2671 ∧ x7_2671 ≤ 8 := by rw [ex7_2671]; exact bm_c1_45.mp (hI.bx _ _)
    refine ⟨(by first | assumption | exact (by omega)), ?_⟩
    refine ⟨fun c => ?_, fun c => ?_⟩
    · exact hX84 _ _ _ _ (hI.mono (by first | exact Int.le_refl _ | omega)) (by omega)
    · refine ⟨(by first | assumption | exact (by omega)), ?_⟩
      refine ⟨fun c => ?_, fun c => ?_⟩
      · exact ih _ _ _ _ _ (hI.mono (by first | exact Int.le_refl _ | omega)) (by omega) (by omega)
      · refine ⟨by omega, ?_⟩
        refine ⟨by omega, ?_⟩
        intro x14_2676 ex14_2676 rx14_2676
        have bx14_2676 : -2147483648 ≤ x14_2676 ∧ x14_2676 ≤ 2147483647 := rx14_2676
        intro x15_2677 ex15_2677 rx15_2677
        have bx15_2677 : -2147483648 ≤ x15_2677 ∧ x15_2677 ≤ 2147483647 := rx15_2677
        refine ⟨(by first | assumption | exact (by omega)), ?_⟩
        refine sX12_isSo (p1 := v2) (p2 := x14_2676) (p3 := x15_2677) hI (by omega) ?_
        intro x17_2678 q2679 q2680
        refine ⟨fun c => ?_, fun c => ?_⟩
        · exact ih _ _ _ _ _ (hI.mono (by first | exact Int.le_refl _ | omega)) (by omega) (by omega)
        · exact ih _ _ _ _ _ (hI.mono (by first | exact Int.le_refl _ | omega)) (by omega) (by omega)
theorem sX12_fits_L24  {X104 : Int → Mem → Prop} {Q : Int → Mem → Prop} {b : Int} (hb : b + 200 ≤ 2000000000) (hQ : ∀ z : Int, ∀ M' : Mem, IM (b + 200) M' → Q z M') (hX104 : ∀ w1 : Int, ∀ M' : Mem, IM (b + 200) M' → iR w1 → X104 w1 M') : ∀ (n : Nat) (v1 v2 : Int) (M : Mem), IM (b + 200) M → (0 ≤ v2 ∧ v2 ≤ 6) → iR v1 → 6 - v2 < (n : Int) → qX12_fits_L24 X104 Q n v1 v2 M := by
  intro n
  induction n with
  | zero => intro v1 v2 M hI hv hrv1 hm; exact absurd hm (by omega)
  | succ n ih =>
    intro v1 v2 M hI hv hrv1 hm
    rw [qX12_fits_L24]
    have hbn := hI.nn
    intro x4_2683 ex4_2683 rx4_2683
    have bx4_2683 : 0 ≤ x4_2683 ∧ x4_2683 ≤ 6 := by rw [ex4_2683]; exact bm_c1_4.mp (hI.bx _ _)
    refine ⟨(by first | assumption | exact (by omega)), ?_⟩
    refine ⟨fun c => ?_, fun c => ?_⟩
    · exact hX104 _ _ (hI.mono (by first | exact Int.le_refl _ | omega)) (by first | assumption | exact (by omega))
    · refine ⟨9, ?_⟩
      refine sX12_fits_L37 (b := b)  (g1 := v1) (g2 := v2) hb ?_ ?_ _ _ _ _ _ _ (hI.mono (by first | exact Int.le_refl _ | omega)) (by omega) (by omega)
      · exact hQ
      · intro v1_2686 v2_2687 v3_2688 M_2689 hM_2689 p2690
        refine ⟨(by first | assumption | exact (by omega)), ?_⟩
        refine ⟨fun c => ?_, fun c => ?_⟩
        · intro x22_2692 ex22_2692 rx22_2692
          first | (have fx22_2692 := oI_64 (a := v1_2686) (b := 0) (by omega) (by omega); rw [← ex22_2692] at fx22_2692) | skip
          exact ih _ _ _ (hM_2689.mono (by first | exact Int.le_refl _ | omega)) (by omega) (by first | assumption | exact (by omega)) (by omega)
        · intro x23_2694 ex23_2694 rx23_2694
          first | (have fx23_2694 := slI_1 (b := v2_2687) (by omega); rw [← ex23_2694] at fx23_2694) | skip
          intro x24_2695 ex24_2695 rx24_2695
          first | (have fx24_2695 := oI_64 (a := v1_2686) (b := x23_2694) (by omega) (by omega); rw [← ex24_2695] at fx24_2695) | skip
          exact ih _ _ _ (hM_2689.mono (by first | exact Int.le_refl _ | omega)) (by omega) (by first | assumption | exact (by omega)) (by omega)
theorem sX12_fits  {b : Int} {M : Mem} {Q : Int → Mem → Prop} (hI : IM b M) (hb : b + 200 ≤ 2000000000) (hQ : ∀ z : Int, ∀ M' : Mem, IM (b + 200) M' → Q z M') : qX12_fits M Q := by
  unfold qX12_fits
  have hbn := hI.nn
  intro M1_2696 h_M1_2696
  have hM1_2696 : IM (b) M1_2696 := by rw [h_M1_2696]; exact hI.up (by omega) (by simp [BM])
  refine sX12_copies  hM1_2696  ?_
  intro M2_2697 hM2_2697
  refine sX12_goesOn (p2 := 200) hM2_2697 (by omega) (Or.inr rfl) (by omega) ?_
  intro M3_2698 hM3_2698
  refine ⟨7, ?_⟩
  refine sX12_fits_L24 (b := b)  hb ?_ ?_ _ _ _ _ (hM3_2698.mono (by first | exact Int.le_refl _ | omega)) (by omega) (by first | assumption | exact (by omega)) (by omega)
  · exact hQ
  · intro v1_2699 M_2700 hM_2700 r2701
    intro M26_2702 h_M26_2702
    have hM26_2702 : IM (b + 200) M26_2702 := by rw [h_M26_2702]; exact hM_2700.up (by omega) (bm_c1_1.mpr (by omega))
    refine ⟨(by first | assumption | exact (by omega)), ?_⟩
    refine sJ6_bitCountM (p0 := v1_2699) hM26_2702  ?_
    intro x28_2703 p2704 q2705
    have u2706 : 0 ≤ M26_2702 1 1 ∧ M26_2702 1 1 ≤ 24 := bm_c1_1.mp (hM26_2702.bx _ _)
    have t2707 : M26_2702 1 1 = 0 := by rw [h_M26_2702, up2_s]
    refine sX12_enters (p1 := x28_2703) hM26_2702 (by omega) ?_
    intro M29_2708 hM29_2708 p2709
    exact hQ _ _ (hM29_2708.mono (by first | exact Int.le_refl _ | omega))
theorem rmL_e {a b : Int} (ha : lR a) (hb : lR b) (h0 : b ≠ 0) (ho : 0 ≤ a ∨ 0 < b) : rmL a b = Int.tmod a b := by
  have nq : (Int.tdiv a b).natAbs ≤ a.natAbs := by rw [Int.natAbs_tdiv]; exact Nat.div_le_self _ _
  have nr : (Int.tmod a b).natAbs < b.natAbs := by rw [Int.natAbs_tmod]; exact Nat.mod_lt _ (by omega)
  have ha' : -9223372036854775808 ≤ a ∧ a ≤ 9223372036854775807 := ha
  have hb' : -9223372036854775808 ≤ b ∧ b ≤ 9223372036854775807 := hb
  have hq0 : 0 ≤ a → 0 < b → 0 ≤ Int.tdiv a b := fun x y => Int.tdiv_nonneg x (by omega)
  have hqR : -9223372036854775808 ≤ Int.tdiv a b ∧ Int.tdiv a b ≤ 9223372036854775807 := by
    rcases ho with h | h
    · omega
    · rcases Int.lt_or_le a 0 with h2 | h2
      · have : Int.tdiv a b ≤ 0 := by
          have := Int.tdiv_nonneg (a := -a) (b := b) (by omega) (by omega)
          rw [Int.neg_tdiv] at this
          omega
        omega
      · omega
  have q : lI a / lI b = lI (Int.tdiv a b) := by
    rw [← lI_toI (lI a / lI b), Int64.toInt_div, show (lI a).toInt = a from lI_toInt ha, show (lI b).toInt = b from lI_toInt hb]
    rw [Int.bmod_eq_of_le (by omega) (by omega)]
  have hm : a - Int.tdiv a b * b = Int.tmod a b := by
    have := Int.tmod_add_mul_tdiv a b
    have e : Int.tdiv a b * b = b * Int.tdiv a b := Int.mul_comm _ _
    omega
  unfold rmL
  rw [q]
  have : lI a - lI (Int.tdiv a b) * lI b = lI (a - Int.tdiv a b * b) := by
    unfold lI
    rw [Int64.ofInt_sub, Int64.ofInt_mul]
  rw [this, hm]
  exact lI_toInt (show -9223372036854775808 ≤ Int.tmod a b ∧ Int.tmod a b ≤ 9223372036854775807 from (by omega))
theorem common_step {d : Nat} {p0 p2 : Int} {M : Mem} {Q : Int → Mem → Prop} (h0 : lR p0) (h2 : lR p2) (ho : 0 ≤ p0 ∨ 0 ≤ p2) (ha : p2 = 0 → Q p0 M) (hb : p2 ≠ 0 → qX12_common d p2 (Int.tmod p0 p2) M (fun (x5 : Int) (M5 : Mem) => lR x5 → Q x5 M5)) : qX12_common (d + 1) p0 p2 M Q := by
  show bX12_common (qX12_common d) p0 p2 M Q
  unfold bX12_common
  intro x1 _ c1
  refine ⟨fun c => ?_, fun c => ha (by omega)⟩
  have hn : p2 ≠ 0 := by omega
  refine ⟨hn, ?_⟩
  intro x4 e4 _
  rw [e4, rmL_e h0 h2 hn (by omega)]
  exact hb hn
theorem sX12_common : ∀ (k d : Nat) (p0 p2 : Int) (M : Mem) (Q : Int → Mem → Prop), lR p0 → lR p2 → (0 ≤ p0 ∨ 0 ≤ p2) → (p0 ≠ 0 ∨ p2 ≠ 0) → p2.natAbs < 2 ^ k → 2 * k + 1 ≤ d → (∀ z : Int, z ≠ 0 → lR z → Q z M) → qX12_common d p0 p2 M Q := by
  have tb : ∀ (a b : Int), lR b → b ≠ 0 → lR (Int.tmod a b) ∧ (Int.tmod a b).natAbs < b.natAbs := by
    intro a b hb h0
    have nr : (Int.tmod a b).natAbs < b.natAbs := by rw [Int.natAbs_tmod]; exact Nat.mod_lt _ (by omega)
    have hb' : -9223372036854775808 ≤ b ∧ b ≤ 9223372036854775807 := hb
    exact ⟨show -9223372036854775808 ≤ Int.tmod a b ∧ Int.tmod a b ≤ 9223372036854775807 from (by omega), nr⟩
  have ts : ∀ (a b : Int), (0 ≤ a ∨ 0 ≤ b) → 0 ≤ b ∨ 0 ≤ Int.tmod a b := by
    intro a b h
    rcases h with h | h
    · exact Or.inr (Int.tmod_nonneg _ h)
    · exact Or.inl h
  intro k
  induction k with
  | zero =>
    intro d p0 p2 M Q h0 h2 ho hn hk hd hQ
    obtain ⟨d, rfl⟩ : ∃ e, d = e + 1 := ⟨d - 1, by omega⟩
    have hz : p2 = 0 := by have : p2.natAbs < 1 := hk; omega
    exact common_step h0 h2 ho (fun _ => hQ _ (by omega) h0) (fun c => absurd hz c)
  | succ k ih =>
    intro d p0 p2 M Q h0 h2 ho hn hk hd hQ
    obtain ⟨d, rfl⟩ : ∃ e, d = e + 2 := ⟨d - 2, by omega⟩
    refine common_step h0 h2 ho (fun c => hQ _ (by omega) h0) (fun c => ?_)
    have t1 := tb p0 p2 h2 c
    have o1 := ts p0 p2 ho
    refine common_step h2 t1.1 o1 (fun c2 => fun _ => hQ _ c h2) (fun c2 => ?_)
    have t2 := tb p2 (Int.tmod p0 p2) t1.1 c2
    refine ih _ _ _ _ _ t1.1 t2.1 (ts _ _ o1) (Or.inl c2) ?_ (by omega) (fun z hz hl => fun _ => fun _ => hQ z hz hl)
    have e2 : (Int.tmod p2 (Int.tmod p0 p2)).natAbs = p2.natAbs % (Int.tmod p0 p2).natAbs := Int.natAbs_tmod _ _
    have hd2 := Nat.div_add_mod p2.natAbs (Int.tmod p0 p2).natAbs
    have hq : 1 ≤ p2.natAbs / (Int.tmod p0 p2).natAbs := (Nat.one_le_div_iff (by omega)).mpr (by omega)
    have hm2 : (Int.tmod p0 p2).natAbs ≤ (Int.tmod p0 p2).natAbs * (p2.natAbs / (Int.tmod p0 p2).natAbs) := Nat.le_mul_of_pos_right _ (by omega)
    rw [Nat.pow_succ] at hk
    omega
def p10 (z : Int) : Int := (10 : Int) ^ z.toNat
theorem p10_s {z : Int} (h : 0 ≤ z) : p10 (z + 1) = p10 z * 10 := by
  unfold p10
  rw [show (z + 1).toNat = z.toNat + 1 from by omega, Int.pow_succ]
theorem p10_b {z : Int} (h : 0 ≤ z ∧ z ≤ 12) : 1 ≤ p10 z ∧ p10 z ≤ 1000000000000 := by
  have : z = 0 ∨ z = 1 ∨ z = 2 ∨ z = 3 ∨ z = 4 ∨ z = 5 ∨ z = 6 ∨ z = 7 ∨ z = 8 ∨ z = 9 ∨ z = 10 ∨ z = 11 ∨ z = 12 := by omega
  rcases this with rfl | rfl | rfl | rfl | rfl | rfl | rfl | rfl | rfl | rfl | rfl | rfl | rfl <;> decide
theorem slI_12 {b : Int} (h : 0 ≤ b ∧ b ≤ 12) : 1 ≤ slI 1 b ∧ slI 1 b ≤ 4096 := by
  have : b = 0 ∨ b = 1 ∨ b = 2 ∨ b = 3 ∨ b = 4 ∨ b = 5 ∨ b = 6 ∨ b = 7 ∨ b = 8 ∨ b = 9 ∨ b = 10 ∨ b = 11 ∨ b = 12 := by omega
  rcases this with rfl | rfl | rfl | rfl | rfl | rfl | rfl | rfl | rfl | rfl | rfl | rfl | rfl <;> decide
theorem sX12_rains_L52 {p1 p2 p3 : Int} {X72 : Int → Int → Mem → Prop} {Q : Int → Mem → Prop} (hp : 1 ≤ p1 ∧ p1 ≤ 12) {v4 : Int} {M : Mem} (hX : X72 v4 (p10 p1) M) : ∀ (n : Nat) (v6 v8 : Int), v6 = p10 v8 → (0 ≤ v8 ∧ v8 ≤ p1) → p1 - v8 < (n : Int) → qX12_rains_L52 p1 p2 p3 X72 Q n v4 v6 v8 M := by
  intro n
  induction n with
  | zero => intro v6 v8 h6 hv hm; exact absurd hm (by omega)
  | succ n ih =>
    intro v6 v8 h6 hv hm
    rw [qX12_rains_L52]
    refine ⟨(by omega), ⟨fun c => ?_, fun c => ?_⟩⟩
    · rw [h6, show v8 = p1 from by omega]; exact hX
    · intro x10 e10 _
      refine ih _ _ ?_ (by omega) (by omega)
      have hb := p10_b (z := v8 + 1) (by omega)
      have hs := p10_s (z := v8) hv.1
      rw [e10, h6, ← hs]
      exact w64_id (by omega)
theorem sX12_rains_L89 {p1 p2 p3 b : Int} {X126 : Int → Int → Int → Int → Mem → Prop} {Q : Int → Mem → Prop} (hp : 1 ≤ p1 ∧ p1 ≤ 12) {v4 v6 v8 : Int} (h8 : iR v8) {M : Mem} (hI : IM b M) (hX : ∀ w : Int, lR w → X126 v4 v6 v8 w M) : ∀ (n : Nat) (v9 v11 : Int), lR v9 → (0 ≤ v11 ∧ v11 ≤ p1) → p1 - v11 < (n : Int) → qX12_rains_L89 p1 p2 p3 X126 Q n v4 v6 v8 v9 v11 M := by
  intro n
  induction n with
  | zero => intro v9 v11 h9 hv hm; exact absurd hm (by omega)
  | succ n ih =>
    intro v9 v11 h9 hv hm
    rw [qX12_rains_L89]
    refine ⟨(by omega), ⟨fun c => hX _ h9, fun c => ⟨h8, ?_⟩⟩⟩
    refine sX12_has (p0 := v8) (p1 := v11) hI ?_
    intro x18 _ _
    refine ⟨fun c2 => ?_, fun c2 => ?_⟩
    · intro x20 _ _ x21 _ r21
      exact ih _ _ r21 (by omega) (by omega)
    · intro x22 _ r22
      exact ih _ _ r22 (by omega) (by omega)
theorem sX12_rains_L75 {p1 p2 p3 b : Int} {X161 : Int → Int → Mem → Prop} {Q : Int → Mem → Prop} (hp : 1 ≤ p1 ∧ p1 ≤ 12) {v6 : Int} {M : Mem} (hI : IM b M) (hX : ∀ w : Int, lR w → X161 w v6 M) : ∀ (n : Nat) (v4 v8 : Int), lR v4 → (0 ≤ v8 ∧ v8 ≤ 4096) → 4096 - v8 < (n : Int) → qX12_rains_L75 p1 p2 p3 X161 Q n v4 v6 v8 M := by
  intro n
  induction n with
  | zero => intro v4 v8 h4 hv hm; exact absurd hm (by omega)
  | succ n ih =>
    intro v4 v8 h4 hv hm
    rw [qX12_rains_L75]
    intro x12 e12 _
    have b12 := slI_12 (b := p1) (by omega)
    refine ⟨(by omega), ⟨fun c => hX _ h4, fun c => ?_⟩⟩
    have h8 : iR v8 := (by omega)
    refine ⟨14, sX12_rains_L89 (b := b) hp h8 hI ?_ _ _ _ ⟨by decide, by decide⟩ (by omega) (by omega)⟩
    intro w hw
    refine ⟨h8, ?_⟩
    refine sX12_has (p0 := v8) (p1 := 0) hI ?_
    intro x25 _ _
    refine ⟨fun c2 => ?_, fun c2 => ?_⟩
    · intro x27 _ r27
      exact ih _ _ r27 (by omega) (by omega)
    · refine sJ6_bitCountM hI ?_
      intro x28 _ _
      refine ⟨fun c3 => ?_, fun c3 => ?_⟩
      · intro x30 _ r30
        exact ih _ _ r30 (by omega) (by omega)
      · intro x31 _ r31
        exact ih _ _ r31 (by omega) (by omega)
theorem sX12_rains {p1 p2 p3 b : Int} {M : Mem} {Q : Int → Mem → Prop} (hI : IM b M) (hQ : ∀ (z : Int) (M' : Mem), IM b M' → (z = if (1 ≤ p1 ∧ p1 ≤ 12) ∧ (0 ≤ p2 ∧ p2 ≤ 12) ∧ (0 ≤ p3 ∧ p3 ≤ 10) then 0 else -1) → Q z M') : qX12_rains p1 p2 p3 M Q := by
  unfold qX12_rains
  intro M1 h1
  have i1 : IM b M1 := by rw [h1]; exact hI.up (by omega) (by simp [BM])
  refine sX12_in (p0 := p1) (p2 := 1) (p4 := 12) i1 ?_
  intro x2 p2' _ _
  refine ⟨fun c => hQ _ _ i1 (by rw [if_neg (by omega)]), fun c => ?_⟩
  refine sX12_in (p0 := p2) (p2 := 0) (p4 := 12) i1 ?_
  intro x4 p4' _ _
  refine ⟨fun c2 => hQ _ _ i1 (by rw [if_neg (by omega)]), fun c2 => ?_⟩
  refine sX12_in (p0 := p3) (p2 := 0) (p4 := 10) i1 ?_
  intro x6 p6' _ _
  refine ⟨fun c3 => ?_, fun c3 => hQ _ _ i1 (by rw [if_neg (by omega)])⟩
  have hp : 1 ≤ p1 ∧ p1 ≤ 12 := by omega
  refine ⟨14, sX12_rains_L52 hp ?_ _ _ _ rfl (by omega) (by omega)⟩
  refine ⟨4097, sX12_rains_L75 (b := b) hp i1 ?_ _ _ _ ⟨by decide, by decide⟩ (by omega) (by omega)⟩
  intro w hw
  have hb := p10_b (z := p1) (by omega)
  have hl : lR (p10 p1) := show -9223372036854775808 ≤ p10 p1 ∧ p10 p1 ≤ 9223372036854775807 from (by omega)
  refine ⟨hw, hl, 110, by omega, ?_⟩
  refine sX12_common 40 110 _ _ _ _ hw hl (by omega) (by omega) (by have : (2 : Nat) ^ 40 = 1099511627776 := by decide
                                                                    omega) (by omega) ?_
  intro z hz hz2 _ M37 h37
  have i37 : IM b M37 := by rw [h37]; exact i1.up (by omega) (bm_c1_1.mpr (by decide))
  have k37 : M37 1 1 = 0 := by rw [h37, up2_s]
  refine ⟨hz, ?_⟩
  intro x39 _ _
  refine sX12_enters i37 (by omega) ?_
  intro M40 h40 g40
  refine ⟨hz, ?_⟩
  intro x42 _ _
  refine sX12_enters h40 (by omega) ?_
  intro M43 h43 g43
  exact hQ _ _ h43 (by rw [if_pos ⟨hp, by omega, by omega⟩])
theorem sX12_law_L42 {X71 : Int → Int → Mem → Prop} {Q : Int → Mem → Prop} {b : Int} {M0 : Mem} {v2 v3 : Int} (hX : ∀ (M' : Mem), IM b M' → (∀ j, 0 ≤ j → j < M0 1 24 → M' 28 j = M0 11 j) → FrJ (fun k j => k = 28) M0 M' → X71 v2 v3 M') : ∀ (n : Nat) (v4 : Int) (M : Mem), IM b M → (∀ j, 0 ≤ j → j < v4 → M 28 j = M0 11 j) → FrJ (fun k j => k = 28) M0 M → (0 ≤ v4 ∧ v4 ≤ 80) → 80 - v4 < (n : Int) → qX12_law_L42 X71 Q n v2 v3 v4 M := by
  intro n
  induction n with
  | zero => intro v4 M hI h1 hF hv hm; exact absurd hm (by omega)
  | succ n ih =>
    intro v4 M hI h1 hF hv hm
    rw [qX12_law_L42]
    intro x8 e8 _
    have b8 : 0 ≤ x8 ∧ x8 ≤ 80 := by rw [e8]; exact bm_c1_24.mp (hI.bx _ _)
    have f8 : x8 = M0 1 24 := by rw [e8]; exact hF 1 24 (by omega)
    refine ⟨(by omega), ⟨fun c => hX _ hI (fun j a q => h1 j a (by omega)) hF, fun c => ⟨by omega, by omega, ?_⟩⟩⟩
    intro x13 e13 _ M14 h14
    refine ih _ _ (by rw [h14]; exact hI.up (by omega) (by simp [BM])) ?_ (by rw [h14]; exact hF.up rfl) (by omega) (by omega)
    intro j a q
    rw [h14]
    by_cases cj : j = v4
    · rw [cj, up2_s, e13]; exact hF 11 v4 (by omega)
    · rw [up2_j cj]; exact h1 j a (by omega)
theorem sX12_draws {p1 : Int} {b : Int} {M : Mem} {Q : Int → Mem → Prop} (hI : IM b M) (hp : 1 ≤ p1 ∧ p1 ≤ 100) (hQ : ∀ z : Int, ∀ M' : Mem, IM b M' → (0 ≤ z ∧ z ≤ p1 - 1) → Q z M') : qX12_draws p1 M Q := by
  unfold qX12_draws
  have hbn := hI.nn
  intro x1_2796 ex1_2796 rx1_2796
  have bx1_2796 : -2147483648 ≤ x1_2796 ∧ x1_2796 ≤ 2147483647 := rx1_2796
  intro x2_2797 ex2_2797 rx2_2797
  first | (have fx2_2797 : x2_2797 = x1_2796 * 1103515245 := by rw [ex2_2797]; exact w32_id (by omega)) | skip
  intro x3_2798 ex3_2798 rx3_2798
  first | (have fx3_2798 : x3_2798 = x2_2797 + 12345 := by rw [ex3_2798]; exact w32_id (by omega)) | skip
  intro M4_2799 h_M4_2799
  have hM4_2799 : IM (b) M4_2799 := by rw [h_M4_2799]; exact hI.up (by omega) (by simp [BM])
  intro x5_2800 ex5_2800 rx5_2800
  have bx5_2800 : -2147483648 ≤ x5_2800 ∧ x5_2800 ≤ 2147483647 := rx5_2800
  have fx5_2800 : x5_2800 = x3_2798 := by rw [ex5_2800, h_M4_2799, up2_s]
  intro x6_2801 ex6_2801 rx6_2801
  have fx6_2801 := usI_16 x5_2800; rw [← ex6_2801] at fx6_2801
  refine ⟨by omega, ?_⟩
  intro x8_2802 ex8_2802 rx8_2802
  first | (have fx8_2802 := rmI_b (a := x6_2801) (b := p1) (by omega) (by omega); rw [← ex8_2802] at fx8_2802) | skip
  exact hQ _ _ (hM4_2799.mono (by first | exact Int.le_refl _ | omega)) (by omega)
theorem sX12_years_L30 {p1 : Int} {p2 : Int} {X120 : Mem → Prop} {Q : Int → Mem → Prop} {b : Int} (hb : b + 60 ≤ 2000000000) (hQ : ∀ z : Int, ∀ M' : Mem, IM (b + 60) M' → Q z M') (hX120 : ∀ M' : Mem, IM (b + 60) M' → X120 M') : ∀ (n : Nat) (v3 : Int) (M : Mem), IM (b + v3) M → (0 ≤ v3 ∧ v3 ≤ 60 ∧ p2 ≤ 60) → 60 - v3 < (n : Int) → qX12_years_L30 p1 p2 X120 Q n v3 M := by
  intro n
  induction n with
  | zero => intro v3 M hI hv hm; exact absurd hm (by omega)
  | succ n ih =>
    intro v3 M hI hv hm
    rw [qX12_years_L30]
    have hbn := hI.nn
    refine ⟨(by first | assumption | exact (by omega)), ?_⟩
    refine ⟨fun c => ?_, fun c => ?_⟩
    · exact hX120 _ (hI.mono (by first | exact Int.le_refl _ | omega))
    · refine sX12_draws (p1 := 4) hI (by omega) ?_
      intro x8_2805 M8_2806 hM8_2806 p2807 q2808
      refine ⟨fun c => ?_, fun c => ?_⟩
      · intro x10_2810 ex10_2810 rx10_2810
        have bx10_2810 : 0 ≤ x10_2810 ∧ x10_2810 ≤ 8 := by rw [ex10_2810]; exact bm_c1_5.mp (hM8_2806.bx _ _)
        refine ⟨fun c => ?_, fun c => ?_⟩
        · exact ih _ _ (hM8_2806.mono (by first | exact Int.le_refl _ | omega)) (by omega) (by omega)
        · intro x12_2813 ex12_2813 rx12_2813
          have bx12_2813 : 0 ≤ x12_2813 ∧ x12_2813 ≤ 8 := by rw [ex12_2813]; exact bm_c1_5.mp (hM8_2806.bx _ _)
          refine sX12_draws (p1 := x12_2813) hM8_2806 (by omega) ?_
          intro x13_2814 M13_2815 hM13_2815 p2816 q2817
          refine ⟨fun c => ?_, fun c => ?_⟩
          · refine sX12_draws (p1 := 5) hM13_2815 (by omega) ?_
            intro x15_2819 M15_2820 hM15_2820 p2821 q2822
            refine ⟨(by first | assumption | exact (by omega)), ?_⟩
            refine sX12_pushesOne (p2 := x13_2814) (p3 := x15_2819 - 2) hM15_2820 (Or.inr rfl) ?_
            intro x17_2823 M17_2824 hM17_2824 q2825
            exact ih _ _ (hM17_2824.mono (by first | exact Int.le_refl _ | omega)) (by omega) (by omega)
          · refine sX12_turnsOne (p2 := x13_2814) hM13_2815 (Or.inr rfl) ?_
            intro x18_2827 M18_2828 hM18_2828 q2829
            exact ih _ _ (hM18_2828.mono (by first | exact Int.le_refl _ | omega)) (by omega) (by omega)
      · refine sX12_stepGoes  hM8_2806 (by omega) (Or.inr rfl) ?_
        intro M19_2831 hM19_2831
        exact ih _ _ (hM19_2831.mono (by first | exact Int.le_refl _ | omega)) (by omega) (by omega)
theorem sX12_years {p1 : Int} {p2 : Int} {b : Int} {M : Mem} {Q : Int → Mem → Prop} (hI : IM b M) (hb : b + 60 ≤ 2000000000) (hQ : ∀ z : Int, ∀ M' : Mem, IM (b + 60) M' → Q z M') : qX12_years p1 p2 M Q := by
  unfold qX12_years
  have hbn := hI.nn
  intro M1_2832 h_M1_2832
  have hM1_2832 : IM (b) M1_2832 := by rw [h_M1_2832]; exact hI.up (by omega) (by simp [BM])
  refine sX12_in (p0 := p2) (p2 := 1) (p4 := 60) hM1_2832  ?_
  intro x2_2833 p2834 q2835 q2836
  refine ⟨fun c => ?_, fun c => ?_⟩
  · intro M4_2838 h_M4_2838
    have hM4_2838 : IM (b) M4_2838 := by rw [h_M4_2838]; exact hM1_2832.up (by omega) (by simp [BM])
    refine sX12_copies  hM4_2838  ?_
    intro M5_2839 hM5_2839
    refine ⟨61, ?_⟩
    refine sX12_years_L30 (b := b) (p1 := p1) (p2 := p2) hb ?_ ?_ _ _ _ (hM5_2839.mono (by first | exact Int.le_refl _ | omega)) (by omega) (by omega)
    · exact hQ
    · intro M_2840 hM_2840
      refine sX12_endedBy (p2 := 1) hM_2840 (Or.inr rfl) ?_
      intro x21_2841 q2842
      refine sX12_endedBy (p2 := 0) hM_2840 (Or.inr rfl) ?_
      intro x22_2843 q2844
      intro x23_2845 ex23_2845 rx23_2845
      first | (have fx23_2845 := oI_64 (a := x21_2841) (b := x22_2843) (by omega) (by omega); rw [← ex23_2845] at fx23_2845) | skip
      intro M24_2846 h_M24_2846
      have hM24_2846 : IM (b + 60) M24_2846 := by rw [h_M24_2846]; exact hM_2840.up (by omega) (bm_c1_1.mpr (by omega))
      refine sJ6_bitCountM (p0 := x23_2845) hM24_2846  ?_
      intro x25_2847 p2848 q2849
      have u2850 : 0 ≤ M24_2846 1 1 ∧ M24_2846 1 1 ≤ 24 := bm_c1_1.mp (hM24_2846.bx _ _)
      have t2851 : M24_2846 1 1 = 0 := by rw [h_M24_2846, up2_s]
      refine sX12_enters (p1 := x25_2847) hM24_2846 (by omega) ?_
      intro M26_2852 hM26_2852 p2853
      refine sX12_endedBy (p2 := 1) hM26_2852 (Or.inr rfl) ?_
      intro x27_2854 q2855
      refine sJ6_bitCountM (p0 := x27_2854) hM26_2852  ?_
      intro x28_2856 p2857 q2858
      have u2859 : 0 ≤ M26_2852 1 1 ∧ M26_2852 1 1 ≤ 24 := bm_c1_1.mp (hM26_2852.bx _ _)
      refine sX12_enters (p1 := x28_2856) hM26_2852 (by omega) ?_
      intro M29_2860 hM29_2860 p2861
      intro x30_2862 ex30_2862 rx30_2862
      have bx30_2862 : -2147483648 ≤ x30_2862 ∧ x30_2862 ≤ 2147483647 := rx30_2862
      exact hQ _ _ (hM29_2860.mono (by first | exact Int.le_refl _ | omega))
  · exact hQ _ _ (hM1_2832.mono (by first | exact Int.le_refl _ | omega))
theorem sX12_count_L9 {p1 : Int} {X35 : Int → Mem → Prop} {Q : Int → Mem → Prop} {b : Int} (hQ : ∀ z : Int, ∀ M' : Mem, IM b M' → Q z M') (hX35 : ∀ w1 : Int, ∀ M' : Mem, IM (b) M' → (0 ≤ w1 ∧ w1 ≤ 30) → X35 w1 M') : ∀ (n : Nat) (v2 v3 : Int) (M : Mem), IM (b) M → (0 ≤ v3 ∧ v3 ≤ 30 ∧ 0 ≤ v2 ∧ v2 ≤ v3) → 30 - v3 < (n : Int) → qX12_count_L9 p1 X35 Q n v2 v3 M := by
  intro n
  induction n with
  | zero => intro v2 v3 M hI hv hm; exact absurd hm (by omega)
  | succ n ih =>
    intro v2 v3 M hI hv hm
    rw [qX12_count_L9]
    have hbn := hI.nn
    intro x2_2897 ex2_2897 rx2_2897
    have bx2_2897 : 4 ≤ x2_2897 ∧ x2_2897 ≤ 30 := by rw [ex2_2897]; exact bm_c1_3.mp (hI.bx _ _)
    refine ⟨(by first | assumption | exact (by omega)), ?_⟩
    refine ⟨fun c => ?_, fun c => ?_⟩
    · exact hX35 _ _ (hI.mono (by first | exact Int.le_refl _ | omega)) (by omega)
    · refine ⟨by omega, ?_⟩
      refine ⟨by omega, ?_⟩
      intro x7_2900 ex7_2900 rx7_2900
      have bx7_2900 : -2147483648 ≤ x7_2900 ∧ x7_2900 ≤ 2147483647 := rx7_2900
      refine sX12_flag (p0 := x7_2900) hI  ?_
      intro x8_2901 p2902 q2903
      exact ih _ _ _ (hI.mono (by first | exact Int.le_refl _ | omega)) (by omega) (by omega)
theorem sX12_count {p1 : Int} {b : Int} {M : Mem} {Q : Int → Mem → Prop} (hI : IM b M) (hQ : ∀ z : Int, ∀ M' : Mem, IM b M' → Q z M') : qX12_count p1 M Q := by
  unfold qX12_count
  have hbn := hI.nn
  intro M1_2904 h_M1_2904
  have hM1_2904 : IM (b) M1_2904 := by rw [h_M1_2904]; exact hI.up (by omega) (by simp [BM])
  refine ⟨31, ?_⟩
  refine sX12_count_L9 (b := b) (p1 := p1) ?_ ?_ _ _ _ _ (hM1_2904.mono (by first | exact Int.le_refl _ | omega)) (by omega) (by omega)
  · exact hQ
  · intro v2_2905 M_2906 hM_2906 p2907
    refine ⟨fun c => ?_, fun c => ?_, fun c => ?_, fun c => ?_, fun c => ?_, fun c => ?_, fun c => ?_, fun c => ?_, fun c => ?_, fun c => ?_, fun c => ?_, fun c => ?_, fun c => ?_, fun c => ?_⟩
    · intro x11_2909 ex11_2909 rx11_2909
      have bx11_2909 : 4 ≤ x11_2909 ∧ x11_2909 ≤ 30 := by rw [ex11_2909]; exact bm_c1_3.mp (hM_2906.bx _ _)
      exact hQ _ _ (hM_2906.mono (by first | exact Int.le_refl _ | omega))
    · intro x12_2911 ex12_2911 rx12_2911
      have bx12_2911 : 0 ≤ x12_2911 ∧ x12_2911 ≤ 6 := by rw [ex12_2911]; exact bm_c1_4.mp (hM_2906.bx _ _)
      exact hQ _ _ (hM_2906.mono (by first | exact Int.le_refl _ | omega))
    · intro x13_2913 ex13_2913 rx13_2913
      have bx13_2913 : 0 ≤ x13_2913 ∧ x13_2913 ≤ 8 := by rw [ex13_2913]; exact bm_c1_5.mp (hM_2906.bx _ _)
      exact hQ _ _ (hM_2906.mono (by first | exact Int.le_refl _ | omega))
    · intro x14_2915 ex14_2915 rx14_2915
      have rbx14_2915 : -2147483648 ≤ x14_2915 ∧ x14_2915 ≤ 2147483647 := rx14_2915
      first | (have bx14_2915 : 0 ≤ x14_2915 ∧ x14_2915 ≤ (b) := by rw [ex14_2915]; exact ((bm_n (Or.inl rfl)).mp (hM_2906.bx _ _)).2.2.2 (by omega)) | skip
      exact hQ _ _ (hM_2906.mono (by first | exact Int.le_refl _ | omega))
    · intro x15_2917 ex15_2917 rx15_2917
      have bx15_2917 : -2147483648 ≤ x15_2917 ∧ x15_2917 ≤ 2147483647 := rx15_2917
      exact hQ _ _ (hM_2906.mono (by first | exact Int.le_refl _ | omega))
    · refine sX12_endedBy (p2 := 1) hM_2906 (Or.inl rfl) ?_
      intro x16_2919 q2920
      refine sX12_endedBy (p2 := 0) hM_2906 (Or.inl rfl) ?_
      intro x17_2921 q2922
      intro x18_2923 ex18_2923 rx18_2923
      first | (have fx18_2923 := oI_64 (a := x16_2919) (b := x17_2921) (by omega) (by omega); rw [← ex18_2923] at fx18_2923) | skip
      refine sJ6_bitCountM (p0 := x18_2923) hM_2906  ?_
      intro x19_2924 p2925 q2926
      exact hQ _ _ (hM_2906.mono (by first | exact Int.le_refl _ | omega))
    · refine sX12_endedBy (p2 := 1) hM_2906 (Or.inl rfl) ?_
      intro x20_2928 q2929
      refine sJ6_bitCountM (p0 := x20_2928) hM_2906  ?_
      intro x21_2930 p2931 q2932
      exact hQ _ _ (hM_2906.mono (by first | exact Int.le_refl _ | omega))
    · refine ⟨(by first | assumption | exact (by omega)), ?_⟩
      exact hQ _ _ (hM_2906.mono (by first | exact Int.le_refl _ | omega))
    · intro x23_2935 ex23_2935 rx23_2935
      have rbx23_2935 : -2147483648 ≤ x23_2935 ∧ x23_2935 ≤ 2147483647 := rx23_2935
      first | (have bx23_2935 : 0 ≤ x23_2935 ∧ x23_2935 ≤ (b) := by rw [ex23_2935]; exact ((bm_n (Or.inl rfl)).mp (hM_2906.bx _ _)).2.2.2 (by omega)) | skip
      refine sX12_weatherOn (p1 := x23_2935) hM_2906 (by omega) ?_
      intro x24_2936 q2937
      exact hQ _ _ (hM_2906.mono (by first | exact Int.le_refl _ | omega))
    · intro x25_2939 ex25_2939 rx25_2939
      have bx25_2939 : 0 ≤ x25_2939 ∧ x25_2939 ≤ 8 := by rw [ex25_2939]; exact bm_c1_45.mp (hM_2906.bx _ _)
      exact hQ _ _ (hM_2906.mono (by first | exact Int.le_refl _ | omega))
    · intro x26_2941 ex26_2941 rx26_2941
      have bx26_2941 : 0 ≤ x26_2941 ∧ x26_2941 ≤ 15 := by rw [ex26_2941]; exact bm_c1_28.mp (hM_2906.bx _ _)
      exact hQ _ _ (hM_2906.mono (by first | exact Int.le_refl _ | omega))
    · intro x27_2943 ex27_2943 rx27_2943
      have bx27_2943 : 0 ≤ x27_2943 ∧ x27_2943 ≤ 24 := by rw [ex27_2943]; exact bm_c1_1.mp (hM_2906.bx _ _)
      exact hQ _ _ (hM_2906.mono (by first | exact Int.le_refl _ | omega))
    · intro x28_2945 ex28_2945 rx28_2945
      have bx28_2945 : 0 ≤ x28_2945 ∧ x28_2945 ≤ 80 := by rw [ex28_2945]; exact bm_c1_14.mp (hM_2906.bx _ _)
      exact hQ _ _ (hM_2906.mono (by first | exact Int.le_refl _ | omega))
    · exact hQ _ _ (hM_2906.mono (by first | exact Int.le_refl _ | omega))
theorem sX12_row {p1 : Int} {b : Int} {M : Mem} {Q : Int → Mem → Prop} (hI : IM b M) (hQ : ∀ z : Int, ∀ M' : Mem, IM b M' → Q z M') : qX12_row p1 M Q := by
  unfold qX12_row
  have hbn := hI.nn
  intro M1_2947 h_M1_2947
  have hM1_2947 : IM (b) M1_2947 := by rw [h_M1_2947]; exact hI.up (by omega) (by simp [BM])
  intro x2_2948 ex2_2948 rx2_2948
  have bx2_2948 : 0 ≤ x2_2948 ∧ x2_2948 ≤ 24 := by rw [ex2_2948]; exact bm_c1_1.mp (hM1_2947.bx _ _)
  have fx2_2948 : x2_2948 = M 1 1 := by rw [ex2_2948, h_M1_2947, up2_j (by decide)]
  refine ⟨(by first | assumption | exact (by omega)), ?_⟩
  refine sX12_in (p0 := p1) (p2 := 0) (p4 := x2_2948 - 1) hM1_2947  ?_
  intro x4_2949 p2950 q2951 q2952
  refine ⟨fun c => ?_, fun c => ?_⟩
  · refine ⟨by omega, ?_⟩
    refine ⟨by omega, ?_⟩
    intro x8_2954 ex8_2954 rx8_2954
    have fx8_2954 : x8_2954 = M 0 p1 := by rw [ex8_2954, h_M1_2947, up2_n (by decide)]
    exact hQ _ _ (hM1_2947.mono (by first | exact Int.le_refl _ | omega))
  · intro M9_2956 h_M9_2956
    have hM9_2956 : IM (b) M9_2956 := by rw [h_M9_2956]; exact hM1_2947.up (by omega) (by simp [BM])
    exact hQ _ _ (hM9_2956.mono (by first | exact Int.le_refl _ | omega))
end
section
/-! what the calls leave of the text: nothing -/
theorem fzX9_clear  {M : Mem} {Q Q' : Mem → Prop} (h : qX9_clear M Q) (hQ : ∀ (M' : Mem), M' 156 1 = 0 → Q M' → Q' M') : qX9_clear M Q' := by
  unfold qX9_clear at h ⊢
  intro M1_1 eM1_1
  have h1 := h M1_1 eM1_1
  have T1 : M1_1 156 1 = 0 := by rw [eM1_1, up2_s]
  exact hQ _ T1 h1
theorem fzX11_rule  {M : Mem} {Q Q' : Int → Mem → Prop} (h : qX11_rule M Q) (hQ : ∀ (w0 : Int) (M' : Mem), M' 156 1 = 0 → Q w0 M' → Q' w0 M') : qX11_rule M Q' := by
  unfold qX11_rule at h ⊢
  obtain ⟨v1, h1⟩ := h
  refine ⟨v1, ?_⟩
  have w1 : (M 155 17).toNat = 187 ∨ (M 155 17).toNat = 192 := v1
  refine fmX5_read h1 ?_
  intro x2_3 M2_4 f2 h2
  intro g5
  have h6 := h2 g5
  refine fzX9_clear h6 ?_
  intro M3_8 T7 h7
  obtain ⟨h9, h10⟩ := h7
  refine ⟨?_, ?_⟩
  · intro g11
    have h12 := h9 g11
    obtain ⟨v13, h13⟩ := h12
    refine ⟨v13, ?_⟩
    have w13 : (M3_8 155 16).toNat = 187 ∨ (M3_8 155 16).toNat = 192 := v13
    obtain ⟨v14, h14⟩ := h13
    refine ⟨v14, ?_⟩
    have w14 : (M3_8 155 17).toNat = 187 ∨ (M3_8 155 17).toNat = 192 := v14
    intro M7_15 eM7_15
    have h15 := h14 M7_15 eM7_15
    have T15 : M7_15 156 1 = 0 := by rw [eM7_15, up2_n (by decide)]; exact T7
    intro M8_16 eM8_16
    have h16 := h15 M8_16 eM8_16
    have T16 : M8_16 156 1 = 0 := by rw [eM8_16, up2_n (by decide)]; exact T15
    exact hQ _ _ T16 h16
  · intro g17
    have h18 := h10 g17
    obtain ⟨v19, h19⟩ := h18
    refine ⟨v19, ?_⟩
    exact hQ _ _ T7 h19
theorem fzX11_hour_L32  {X92 X92' : Int → Int → Int → Mem → Prop} {Q Q' : Int → Mem → Prop} (hX92 : ∀ (w0 w1 w2 : Int) (M' : Mem), X92 w0 w1 w2 M' → X92' w0 w1 w2 M') : ∀ (n : Nat) (v1 v2 v3 v4 : Int) (M : Mem), qX11_hour_L32 X92 Q n v1 v2 v3 v4 M → qX11_hour_L32 X92' Q' n v1 v2 v3 v4 M := by
  intro n
  induction n with
  | zero => intro v1 v2 v3 v4 M h; exact h.elim
  | succ n ih =>
    intro v1 v2 v3 v4 M h
    rw [qX11_hour_L32] at h
    rw [qX11_hour_L32]
    obtain ⟨v1, h1⟩ := h
    refine ⟨v1, ?_⟩
    obtain ⟨h2, h3⟩ := h1
    refine ⟨?_, ?_⟩
    · intro g4
      have h5 := h2 g4
      exact hX92 _ _ _ _ h5
    · intro g6
      have h7 := h3 g6
      obtain ⟨v8, h8⟩ := h7
      refine ⟨v8, ?_⟩
      obtain ⟨h9, h10⟩ := h8
      refine ⟨?_, ?_⟩
      · intro g11
        have h12 := h9 g11
        exact hX92 _ _ _ _ h12
      · intro g13
        have h14 := h10 g13
        obtain ⟨v15, h15⟩ := h14
        refine ⟨v15, ?_⟩
        obtain ⟨h16, h17⟩ := h15
        refine ⟨?_, ?_⟩
        · intro g18
          have h19 := h16 g18
          exact hX92 _ _ _ _ h19
        · intro g20
          have h21 := h17 g20
          refine fmX9_isRead h21 ?_
          intro x10_23 M10_24 f22 h22
          intro g25 g26
          have h27 := h22 g25 g26
          obtain ⟨h28, h29⟩ := h27
          refine ⟨?_, ?_⟩
          · intro g30
            have h31 := h28 g30
            exact hX92 _ _ _ _ h31
          · intro g32
            have h33 := h29 g32
            refine fmX11_doAct h33 ?_
            intro x12_35 M12_36 f34 h34
            intro g37
            have h38 := h34 g37
            refine fmX11_isDone h38 ?_
            intro x13_40 M13_41 f39 h39
            intro g42 g43
            have h44 := h39 g42 g43
            obtain ⟨h45, h46⟩ := h44
            refine ⟨?_, ?_⟩
            · intro g47
              have h48 := h45 g47
              unfold qX11_hour_J73 at h48 ⊢
              obtain ⟨v49, h49⟩ := h48
              refine ⟨v49, ?_⟩
              obtain ⟨h50, h51⟩ := h49
              refine ⟨?_, ?_⟩
              · intro g52
                have h53 := h50 g52
                exact ih _ _ _ _ _ h53
              · intro g54
                have h55 := h51 g54
                exact ih _ _ _ _ _ h55
            · intro g56
              have h57 := h46 g56
              unfold qX11_hour_J73 at h57 ⊢
              obtain ⟨v58, h58⟩ := h57
              refine ⟨v58, ?_⟩
              obtain ⟨h59, h60⟩ := h58
              refine ⟨?_, ?_⟩
              · intro g61
                have h62 := h59 g61
                exact ih _ _ _ _ _ h62
              · intro g63
                have h64 := h60 g63
                exact ih _ _ _ _ _ h64
theorem fzX11_hour  {M : Mem} {Q Q' : Int → Mem → Prop} (h : qX11_hour M Q) (hQ : ∀ (w0 : Int) (M' : Mem), M' 156 1 = 0 → Q w0 M' → Q' w0 M') : qX11_hour M Q' := by
  unfold qX11_hour at h ⊢
  refine fmX11_hourFault h ?_
  intro x1_2 M1_3 f1 h1
  intro g4
  have h5 := h1 g4
  refine fmX6_copyFrom h5 ?_
  intro M2_7 f6 h6
  refine fmX9_open h6 ?_
  intro M3_9 f8 h8
  obtain ⟨n10, h10⟩ := h8
  refine ⟨n10, ?_⟩
  refine fzX11_hour_L32 ?_ _ _ _ _ _ _ h10
  · intro v1_12 v2_13 v3_14 M_15 h11
    unfold qX11_hour_J92 at h11 ⊢
    refine fzX9_clear h11 ?_
    intro M18_17 T16 h16
    obtain ⟨v18, h18⟩ := h16
    refine ⟨v18, ?_⟩
    obtain ⟨h19, h20⟩ := h18
    refine ⟨?_, ?_⟩
    · intro g21
      have h22 := h19 g21
      obtain ⟨v23, h23⟩ := h22
      refine ⟨v23, ?_⟩
      obtain ⟨h24, h25⟩ := h23
      refine ⟨?_, ?_⟩
      · intro g26
        have h27 := h24 g26
        unfold qX11_hour_J123 at h27 ⊢
        obtain ⟨v28, h28⟩ := h27
        refine ⟨v28, ?_⟩
        obtain ⟨h29, h30⟩ := h28
        refine ⟨?_, ?_⟩
        · intro g31
          have h32 := h29 g31
          unfold qX11_hour_J136 at h32 ⊢
          intro x25_33 g34 g35
          have h33 := h32 x25_33 g34 g35
          obtain ⟨v36, h36⟩ := h33
          refine ⟨v36, ?_⟩
          refine fmX4_tellTwo h36 ?_
          intro M27_38 f37 h37
          have T37 : M27_38 156 1 = 0 := by rw [f37 156 1 (by first | omega | exact fun h => h)]; exact T16
          obtain ⟨v39, h39⟩ := h37
          refine ⟨v39, ?_⟩
          exact hQ _ _ T37 h39
        · intro g40
          have h41 := h30 g40
          unfold qX11_hour_J136 at h41 ⊢
          intro x25_42 g43 g44
          have h42 := h41 x25_42 g43 g44
          obtain ⟨v45, h45⟩ := h42
          refine ⟨v45, ?_⟩
          refine fmX4_tellTwo h45 ?_
          intro M27_47 f46 h46
          have T46 : M27_47 156 1 = 0 := by rw [f46 156 1 (by first | omega | exact fun h => h)]; exact T16
          obtain ⟨v48, h48⟩ := h46
          refine ⟨v48, ?_⟩
          exact hQ _ _ T46 h48
      · intro g49
        have h50 := h25 g49
        refine fmX1_add h50 ?_
        intro M29_52 f51 h51
        have T51 : M29_52 156 1 = 0 := by rw [f51 156 1 (by first | omega | exact fun h => h)]; exact T16
        unfold qX11_hour_J123 at h51 ⊢
        obtain ⟨v53, h53⟩ := h51
        refine ⟨v53, ?_⟩
        obtain ⟨h54, h55⟩ := h53
        refine ⟨?_, ?_⟩
        · intro g56
          have h57 := h54 g56
          unfold qX11_hour_J136 at h57 ⊢
          intro x25_58 g59 g60
          have h58 := h57 x25_58 g59 g60
          obtain ⟨v61, h61⟩ := h58
          refine ⟨v61, ?_⟩
          refine fmX4_tellTwo h61 ?_
          intro M27_63 f62 h62
          have T62 : M27_63 156 1 = 0 := by rw [f62 156 1 (by first | omega | exact fun h => h)]; exact T51
          obtain ⟨v64, h64⟩ := h62
          refine ⟨v64, ?_⟩
          exact hQ _ _ T62 h64
        · intro g65
          have h66 := h55 g65
          unfold qX11_hour_J136 at h66 ⊢
          intro x25_67 g68 g69
          have h67 := h66 x25_67 g68 g69
          obtain ⟨v70, h70⟩ := h67
          refine ⟨v70, ?_⟩
          refine fmX4_tellTwo h70 ?_
          intro M27_72 f71 h71
          have T71 : M27_72 156 1 = 0 := by rw [f71 156 1 (by first | omega | exact fun h => h)]; exact T51
          obtain ⟨v73, h73⟩ := h71
          refine ⟨v73, ?_⟩
          exact hQ _ _ T71 h73
    · intro g74
      have h75 := h20 g74
      obtain ⟨v76, h76⟩ := h75
      refine ⟨v76, ?_⟩
      exact hQ _ _ T16 h76
theorem fzX11_law  {M : Mem} {Q Q' : Int → Mem → Prop} (h : qX11_law M Q) (hQ : ∀ (w0 : Int) (M' : Mem), M' 156 1 = 0 → Q w0 M' → Q' w0 M') : qX11_law M Q' := by
  unfold qX11_law at h ⊢
  obtain ⟨v1, h1⟩ := h
  refine ⟨v1, ?_⟩
  have w1 : (M 155 17).toNat = 187 ∨ (M 155 17).toNat = 192 := v1
  refine fmX5_read h1 ?_
  intro x2_3 M2_4 f2 h2
  intro g5
  have h6 := h2 g5
  refine fzX9_clear h6 ?_
  intro M3_8 T7 h7
  obtain ⟨h9, h10⟩ := h7
  refine ⟨?_, ?_⟩
  · intro g11
    have h12 := h9 g11
    refine fmX6_copyFrom h12 ?_
    intro M5_14 f13 h13
    have T13 : M5_14 156 1 = 0 := by rw [f13 156 1 (by first | omega | exact fun h => h)]; exact T7
    obtain ⟨v15, h15⟩ := h13
    refine ⟨v15, ?_⟩
    have w15 : (M5_14 155 17).toNat = 187 ∨ (M5_14 155 17).toNat = 192 := v15
    refine fmX11_rightOnesOfTrial h15 ?_
    intro x7_17 M7_18 f16 h16
    have T16 : M7_18 156 1 = 0 := by rw [f16 156 1 (by first | omega | exact fun h => h)]; exact T13
    intro g19
    have h20 := h16 g19
    refine fmJ6_bitCount_0f7a4 h20 ?_
    intro x8_22 M8_23 f21 h21
    have T21 : M8_23 156 1 = 0 := by rw [f21 156 1 (by first | omega | exact fun h => h)]; exact T16
    intro g24
    have h25 := h21 g24
    refine fmX6_copyFrom h25 ?_
    intro M9_27 f26 h26
    have T26 : M9_27 156 1 = 0 := by rw [f26 156 1 (by first | omega | exact fun h => h)]; exact T21
    obtain ⟨v28, h28⟩ := h26
    refine ⟨v28, ?_⟩
    have w28 : (M9_27 155 16).toNat = 187 ∨ (M9_27 155 16).toNat = 192 := v28
    refine fmX11_rightOnesOfTrial h28 ?_
    intro x11_30 M11_31 f29 h29
    have T29 : M11_31 156 1 = 0 := by rw [f29 156 1 (by first | omega | exact fun h => h)]; exact T26
    intro g32
    have h33 := h29 g32
    refine fmJ6_bitCount_0f7a4 h33 ?_
    intro x12_35 M12_36 f34 h34
    have T34 : M12_36 156 1 = 0 := by rw [f34 156 1 (by first | omega | exact fun h => h)]; exact T29
    intro g37
    have h38 := h34 g37
    refine fmX4_tellTwo h38 ?_
    intro M13_40 f39 h39
    have T39 : M13_40 156 1 = 0 := by rw [f39 156 1 (by first | omega | exact fun h => h)]; exact T34
    obtain ⟨v41, h41⟩ := h39
    refine ⟨v41, ?_⟩
    exact hQ _ _ T39 h41
  · intro g42
    have h43 := h10 g42
    obtain ⟨v44, h44⟩ := h43
    refine ⟨v44, ?_⟩
    exact hQ _ _ T7 h44
theorem fzX12_begins {p1 : Int} {M : Mem} {Q Q' : Int → Mem → Prop} (h : qX12_begins p1 M Q) (hQ : ∀ (w0 : Int) (M' : Mem), M' 1 14 = 0 → Q w0 M' → Q' w0 M') : qX12_begins p1 M Q' := by
  unfold qX12_begins at h ⊢
  intro x1_1 g2 g3
  have h1 := h x1_1 g2 g3
  intro M2_4 eM2_4
  have h4 := h1 M2_4 eM2_4
  have T4 : M2_4 1 14 = 0 := by rw [eM2_4, up2_s]
  intro M3_5 eM3_5
  have h5 := h4 M3_5 eM3_5
  have T5 : M3_5 1 14 = 0 := by rw [eM3_5, up2_j (by decide)]; exact T4
  intro M4_6 eM4_6
  have h6 := h5 M4_6 eM4_6
  have T6 : M4_6 1 14 = 0 := by rw [eM4_6, up2_j (by decide)]; exact T5
  intro x5_7 g8 g9
  have h7 := h6 x5_7 g8 g9
  intro M6_10 eM6_10
  have h10 := h7 M6_10 eM6_10
  have T10 : M6_10 1 14 = 0 := by rw [eM6_10, up2_j (by decide)]; exact T6
  exact hQ _ _ T10 h10
theorem fzX12_readsRule  {M : Mem} {Q Q' : Int → Mem → Prop} (h : qX12_readsRule M Q) (hQ : ∀ (w0 : Int) (M' : Mem), M' 1 14 = 0 → Q w0 M' → Q' w0 M') : qX12_readsRule M Q' := by
  unfold qX12_readsRule at h ⊢
  refine fzX12_begins h ?_
  intro x1_2 M1_3 T1 h1
  intro g4
  have h5 := h1 g4
  intro M2_6 eM2_6
  have h6 := h5 M2_6 eM2_6
  have T6 : M2_6 1 14 = 0 := by rw [eM2_6, up2_j (by decide)]; exact T1
  obtain ⟨h7, h8⟩ := h6
  refine ⟨?_, ?_⟩
  · intro g9
    have h10 := h7 g9
    unfold qX12_readsRule_J24 at h10 ⊢
    unfold qX12_readsRule_J29 at h10 ⊢
    obtain ⟨v11, h11⟩ := h10
    refine ⟨v11, ?_⟩
    obtain ⟨v12, h12⟩ := h11
    refine ⟨v12, ?_⟩
    refine fmX12_faultOf h12 ?_
    intro x6_14 M6_15 f13 h13
    have T13 : M6_15 1 14 = 0 := by rw [f13 1 14 (by first | omega | exact fun h => h)]; exact T6
    intro g16
    have h17 := h13 g16
    exact hQ _ _ T13 h17
  · intro g18
    have h19 := h8 g18
    obtain ⟨n20, h20⟩ := h19
    refine ⟨n20, ?_⟩
    obtain ⟨v21, h21⟩ := h20
    refine ⟨v21, ?_⟩
    refine fmX12_readsRank h21 ?_
    intro x7_23 M7_24 f22 h22
    have T22 : M7_24 1 14 = 0 := by rw [f22 1 14 (by first | omega | exact fun h => h)]; exact T6
    intro g25 g26
    have h27 := h22 g25 g26
    obtain ⟨h28, h29⟩ := h27
    refine ⟨?_, ?_⟩
    · intro g30
      have h31 := h28 g30
      unfold qX12_readsRule_J29 at h31 ⊢
      obtain ⟨v32, h32⟩ := h31
      refine ⟨v32, ?_⟩
      obtain ⟨v33, h33⟩ := h32
      refine ⟨v33, ?_⟩
      refine fmX12_faultOf h33 ?_
      intro x6_35 M6_36 f34 h34
      have T34 : M6_36 1 14 = 0 := by rw [f34 1 14 (by first | omega | exact fun h => h)]; exact T22
      intro g37
      have h38 := h34 g37
      exact hQ _ _ T34 h38
    · intro g39
      have h40 := h29 g39
      unfold qX12_readsRule_J24 at h40 ⊢
      unfold qX12_readsRule_J29 at h40 ⊢
      obtain ⟨v41, h41⟩ := h40
      refine ⟨v41, ?_⟩
      obtain ⟨v42, h42⟩ := h41
      refine ⟨v42, ?_⟩
      refine fmX12_faultOf h42 ?_
      intro x6_44 M6_45 f43 h43
      have T43 : M6_45 1 14 = 0 := by rw [f43 1 14 (by first | omega | exact fun h => h)]; exact T22
      intro g46
      have h47 := h43 g46
      exact hQ _ _ T43 h47
theorem fzX12_rule  {M : Mem} {Q Q' : Int → Mem → Prop} (h : qX12_rule M Q) (hQ : ∀ (w0 : Int) (M' : Mem), M' 1 14 = 0 → Q w0 M' → Q' w0 M') : qX12_rule M Q' := by
  unfold qX12_rule at h ⊢
  intro M1_1 eM1_1
  have h1 := h M1_1 eM1_1
  refine fzX12_readsRule h1 ?_
  intro x2_3 M2_4 T2 h2
  intro g5
  have h6 := h2 g5
  obtain ⟨h7, h8⟩ := h6
  refine ⟨?_, ?_⟩
  · intro g9
    have h10 := h7 g9
    exact hQ _ _ T2 h10
  · intro g11
    have h12 := h8 g11
    intro x4_13 g14 g15
    have h13 := h12 x4_13 g14 g15
    refine fmX12_laysCode h13 ?_
    intro M5_17 f16 h16
    have T16 : M5_17 1 14 = 0 := by rw [f16 1 14 (by first | omega | exact fun h => h)]; exact T2
    exact hQ _ _ T16 h16
theorem fzX12_hour_L19  {X42 X42' : Int → Int → Mem → Prop} {Q Q' : Int → Mem → Prop} (hX42 : ∀ (w0 w1 : Int) (M' : Mem), M' 1 14 = 0 → X42 w0 w1 M' → X42' w0 w1 M') : ∀ (n : Nat) (v1 v2 : Int) (M : Mem), M 1 14 = 0 → qX12_hour_L19 X42 Q n v1 v2 M → qX12_hour_L19 X42' Q' n v1 v2 M := by
  intro n
  induction n with
  | zero => intro v1 v2 M _ h; exact h.elim
  | succ n ih =>
    intro v1 v2 M hT h
    rw [qX12_hour_L19] at h
    rw [qX12_hour_L19]
    obtain ⟨v1, h1⟩ := h
    refine ⟨v1, ?_⟩
    obtain ⟨h2, h3⟩ := h1
    refine ⟨?_, ?_⟩
    · intro g4
      have h5 := h2 g4
      exact hX42 _ _ _ hT h5
    · intro g6
      have h7 := h3 g6
      intro x6_8 g9 g10
      have h8 := h7 x6_8 g9 g10
      intro x7_11 g12 g13
      have h11 := h8 x7_11 g12 g13
      obtain ⟨h14, h15⟩ := h11
      refine ⟨?_, ?_⟩
      · intro g16
        have h17 := h14 g16
        exact hX42 _ _ _ hT h17
      · intro g18
        have h19 := h15 g18
        refine fmX12_readsAct h19 ?_
        intro x9_21 M9_22 f20 h20
        have T20 : M9_22 1 14 = 0 := by rw [f20 1 14 (by first | omega | exact fun h => h)]; exact hT
        intro g23 g24
        have h25 := h20 g23 g24
        exact ih _ _ _ T20 h25
theorem fzX12_hour_L64  {X88 X88' : Int → Mem → Prop} {Q Q' : Int → Mem → Prop} (hX88 : ∀ (w0 : Int) (M' : Mem), M' 1 14 = 0 → X88 w0 M' → X88' w0 M') : ∀ (n : Nat) (v4 : Int) (M : Mem), M 1 14 = 0 → qX12_hour_L64 X88 Q n v4 M → qX12_hour_L64 X88' Q' n v4 M := by
  intro n
  induction n with
  | zero => intro v4 M _ h; exact h.elim
  | succ n ih =>
    intro v4 M hT h
    rw [qX12_hour_L64] at h
    rw [qX12_hour_L64]
    intro x16_1 g2 g3
    have h1 := h x16_1 g2 g3
    obtain ⟨v4, h4⟩ := h1
    refine ⟨v4, ?_⟩
    obtain ⟨h5, h6⟩ := h4
    refine ⟨?_, ?_⟩
    · intro g7
      have h8 := h5 g7
      exact hX88 _ _ hT h8
    · intro g9
      have h10 := h6 g9
      refine fmX12_does h10 ?_
      intro x19_12 M19_13 f11 h11
      have T11 : M19_13 1 14 = 0 := by rw [f11 1 14 (by first | omega | exact fun h => h)]; exact hT
      intro g14 g15
      have h16 := h11 g14 g15
      obtain ⟨h17, h18⟩ := h16
      refine ⟨?_, ?_⟩
      · intro g19
        have h20 := h17 g19
        exact hX88 _ _ T11 h20
      · intro g21
        have h22 := h18 g21
        exact ih _ _ T11 h22
theorem fzX12_hour  {M : Mem} {Q Q' : Int → Mem → Prop} (h : qX12_hour M Q) (hQ : ∀ (w0 : Int) (M' : Mem), M' 1 14 = 0 → Q w0 M' → Q' w0 M') : qX12_hour M Q' := by
  unfold qX12_hour at h ⊢
  intro M1_1 eM1_1
  have h1 := h M1_1 eM1_1
  refine fzX12_begins h1 ?_
  intro x2_3 M2_4 T2 h2
  intro g5
  have h6 := h2 g5
  intro M3_7 eM3_7
  have h7 := h6 M3_7 eM3_7
  have T7 : M3_7 1 14 = 0 := by rw [eM3_7, up2_j (by decide)]; exact T2
  obtain ⟨n8, h8⟩ := h7
  refine ⟨n8, ?_⟩
  refine fzX12_hour_L19 ?_ _ _ _ _ T7 h8
  · intro v1_10 v2_11 M_12 T9 h9
    unfold qX12_hour_J42 at h9 ⊢
    obtain ⟨v13, h13⟩ := h9
    refine ⟨v13, ?_⟩
    obtain ⟨v14, h14⟩ := h13
    refine ⟨v14, ?_⟩
    refine fmX12_faultOf h14 ?_
    intro x13_16 M13_17 f15 h15
    have T15 : M13_17 1 14 = 0 := by rw [f15 1 14 (by first | omega | exact fun h => h)]; exact T9
    intro g18
    have h19 := h15 g18
    obtain ⟨h20, h21⟩ := h19
    refine ⟨?_, ?_⟩
    · intro g22
      have h23 := h20 g22
      refine fmX12_putsBy h23 ?_
      intro M15_25 f24 h24
      have T24 : M15_25 1 14 = 0 := by rw [f24 1 14 (by first | omega | exact fun h => h)]; exact T15
      obtain ⟨n26, h26⟩ := h24
      refine ⟨n26, ?_⟩
      refine fzX12_hour_L64 ?_ _ _ _ T24 h26
      · intro v4_28 M_29 T27 h27
        unfold qX12_hour_J88 at h27 ⊢
        intro M22_30 eM22_30
        have h30 := h27 M22_30 eM22_30
        have T30 : M22_30 1 14 = 0 := by rw [eM22_30, up2_j (by decide)]; exact T27
        intro x23_31 g32 g33
        have h31 := h30 x23_31 g32 g33
        obtain ⟨v34, h34⟩ := h31
        refine ⟨v34, ?_⟩
        obtain ⟨h35, h36⟩ := h34
        refine ⟨?_, ?_⟩
        · intro g37
          have h38 := h35 g37
          unfold qX12_hour_J108 at h38 ⊢
          obtain ⟨v39, h39⟩ := h38
          refine ⟨v39, ?_⟩
          refine fmX12_flag h39 ?_
          intro x27_41 M27_42 f40 h40
          have T40 : M27_42 1 14 = 0 := by rw [f40 1 14 (by first | omega | exact fun h => h)]; exact T30
          intro g43
          have h44 := h40 g43
          refine fmX12_enters h44 ?_
          intro M28_46 f45 h45
          have T45 : M28_46 1 14 = 0 := by rw [f45 1 14 (by first | omega | exact fun h => h)]; exact T40
          intro x29_47 g48 g49
          have h47 := h45 x29_47 g48 g49
          refine fmX12_enters h47 ?_
          intro M30_51 f50 h50
          have T50 : M30_51 1 14 = 0 := by rw [f50 1 14 (by first | omega | exact fun h => h)]; exact T45
          obtain ⟨v52, h52⟩ := h50
          refine ⟨v52, ?_⟩
          obtain ⟨h53, h54⟩ := h52
          refine ⟨?_, ?_⟩
          · intro g55
            have h56 := h53 g55
            exact hQ _ _ T50 h56
          · intro g57
            have h58 := h54 g57
            refine fmX12_adds h58 ?_
            intro x33_60 M33_61 f59 h59
            have T59 : M33_61 1 14 = 0 := by rw [f59 1 14 (by first | omega | exact fun h => h)]; exact T50
            intro g62
            have h63 := h59 g62
            exact hQ _ _ T59 h63
        · intro g64
          have h65 := h36 g64
          unfold qX12_hour_J108 at h65 ⊢
          obtain ⟨v66, h66⟩ := h65
          refine ⟨v66, ?_⟩
          refine fmX12_flag h66 ?_
          intro x27_68 M27_69 f67 h67
          have T67 : M27_69 1 14 = 0 := by rw [f67 1 14 (by first | omega | exact fun h => h)]; exact T30
          intro g70
          have h71 := h67 g70
          refine fmX12_enters h71 ?_
          intro M28_73 f72 h72
          have T72 : M28_73 1 14 = 0 := by rw [f72 1 14 (by first | omega | exact fun h => h)]; exact T67
          intro x29_74 g75 g76
          have h74 := h72 x29_74 g75 g76
          refine fmX12_enters h74 ?_
          intro M30_78 f77 h77
          have T77 : M30_78 1 14 = 0 := by rw [f77 1 14 (by first | omega | exact fun h => h)]; exact T72
          obtain ⟨v79, h79⟩ := h77
          refine ⟨v79, ?_⟩
          obtain ⟨h80, h81⟩ := h79
          refine ⟨?_, ?_⟩
          · intro g82
            have h83 := h80 g82
            exact hQ _ _ T77 h83
          · intro g84
            have h85 := h81 g84
            refine fmX12_adds h85 ?_
            intro x33_87 M33_88 f86 h86
            have T86 : M33_88 1 14 = 0 := by rw [f86 1 14 (by first | omega | exact fun h => h)]; exact T77
            intro g89
            have h90 := h86 g89
            exact hQ _ _ T86 h90
    · intro g91
      have h92 := h21 g91
      exact hQ _ _ T15 h92
theorem fzX12_law_L42  {X71 X71' : Int → Int → Mem → Prop} {Q Q' : Int → Mem → Prop} (hX71 : ∀ (w0 w1 : Int) (M' : Mem), M' 1 14 = 0 → X71 w0 w1 M' → X71' w0 w1 M') : ∀ (n : Nat) (v2 v3 v4 : Int) (M : Mem), M 1 14 = 0 → qX12_law_L42 X71 Q n v2 v3 v4 M → qX12_law_L42 X71' Q' n v2 v3 v4 M := by
  intro n
  induction n with
  | zero => intro v2 v3 v4 M _ h; exact h.elim
  | succ n ih =>
    intro v2 v3 v4 M hT h
    rw [qX12_law_L42] at h
    rw [qX12_law_L42]
    intro x8_1 g2 g3
    have h1 := h x8_1 g2 g3
    obtain ⟨v4, h4⟩ := h1
    refine ⟨v4, ?_⟩
    obtain ⟨h5, h6⟩ := h4
    refine ⟨?_, ?_⟩
    · intro g7
      have h8 := h5 g7
      exact hX71 _ _ _ hT h8
    · intro g9
      have h10 := h6 g9
      obtain ⟨v11, h11⟩ := h10
      refine ⟨v11, ?_⟩
      obtain ⟨v12, h12⟩ := h11
      refine ⟨v12, ?_⟩
      intro x13_13 g14 g15
      have h13 := h12 x13_13 g14 g15
      intro M14_16 eM14_16
      have h16 := h13 M14_16 eM14_16
      have T16 : M14_16 1 14 = 0 := by rw [eM14_16, up2_n (by decide)]; exact hT
      exact ih _ _ _ _ T16 h16
theorem fzX12_law  {M : Mem} {Q Q' : Int → Mem → Prop} (h : qX12_law M Q) (hQ : ∀ (w0 : Int) (M' : Mem), M' 1 14 = 0 → Q w0 M' → Q' w0 M') : qX12_law M Q' := by
  unfold qX12_law at h ⊢
  intro M1_1 eM1_1
  have h1 := h M1_1 eM1_1
  refine fzX12_readsRule h1 ?_
  intro x2_3 M2_4 T2 h2
  intro g5
  have h6 := h2 g5
  obtain ⟨h7, h8⟩ := h6
  refine ⟨?_, ?_⟩
  · intro g9
    have h10 := h7 g9
    refine fmX12_copies h10 ?_
    intro M4_12 f11 h11
    have T11 : M4_12 1 14 = 0 := by rw [f11 1 14 (by first | omega | exact fun h => h)]; exact T2
    refine fmX12_rightThen h11 ?_
    intro x5_14 M5_15 f13 h13
    have T13 : M5_15 1 14 = 0 := by rw [f13 1 14 (by first | omega | exact fun h => h)]; exact T11
    intro g16
    have h17 := h13 g16
    refine fmJ6_bitCount_0f7a4 h17 ?_
    intro x6_19 M6_20 f18 h18
    have T18 : M6_20 1 14 = 0 := by rw [f18 1 14 (by first | omega | exact fun h => h)]; exact T13
    intro g21
    have h22 := h18 g21
    intro x7_23 g24 g25
    have h23 := h22 x7_23 g24 g25
    obtain ⟨n26, h26⟩ := h23
    refine ⟨n26, ?_⟩
    refine fzX12_law_L42 ?_ _ _ _ _ _ T18 h26
    · intro v2_28 v3_29 M_30 T27 h27
      intro x16_31 g32 g33
      have h31 := h27 x16_31 g32 g33
      refine fmX12_laysCode h31 ?_
      intro M17_35 f34 h34
      have T34 : M17_35 1 14 = 0 := by rw [f34 1 14 (by first | omega | exact fun h => h)]; exact T27
      refine fmX12_copies h34 ?_
      intro M18_37 f36 h36
      have T36 : M18_37 1 14 = 0 := by rw [f36 1 14 (by first | omega | exact fun h => h)]; exact T34
      refine fmX12_rightThen h36 ?_
      intro x19_39 M19_40 f38 h38
      have T38 : M19_40 1 14 = 0 := by rw [f38 1 14 (by first | omega | exact fun h => h)]; exact T36
      intro g41
      have h42 := h38 g41
      refine fmJ6_bitCount_0f7a4 h42 ?_
      intro x20_44 M20_45 f43 h43
      have T43 : M20_45 1 14 = 0 := by rw [f43 1 14 (by first | omega | exact fun h => h)]; exact T38
      intro g46
      have h47 := h43 g46
      obtain ⟨v48, h48⟩ := h47
      refine ⟨v48, ?_⟩
      refine fmX12_laysCode h48 ?_
      intro M22_50 f49 h49
      have T49 : M22_50 1 14 = 0 := by rw [f49 1 14 (by first | omega | exact fun h => h)]; exact T43
      intro M23_51 eM23_51
      have h51 := h49 M23_51 eM23_51
      have T51 : M23_51 1 14 = 0 := by rw [eM23_51, up2_j (by decide)]; exact T49
      refine fmX12_enters h51 ?_
      intro M24_53 f52 h52
      have T52 : M24_53 1 14 = 0 := by rw [f52 1 14 (by first | omega | exact fun h => h)]; exact T51
      obtain ⟨v54, h54⟩ := h52
      refine ⟨v54, ?_⟩
      refine fmX12_enters h54 ?_
      intro M26_56 f55 h55
      have T55 : M26_56 1 14 = 0 := by rw [f55 1 14 (by first | omega | exact fun h => h)]; exact T52
      obtain ⟨v57, h57⟩ := h55
      refine ⟨v57, ?_⟩
      exact hQ _ _ T55 h57
  · intro g58
    have h59 := h8 g58
    obtain ⟨v60, h60⟩ := h59
    refine ⟨v60, ?_⟩
    exact hQ _ _ T2 h60
end
section
/-! SPECS of what the simple calls answer, and what they leave of the text's length and of what was heard -/
theorem sX11_hearse {p1 p2 : Int} {M : Mem} {Q : Int → Mem → Prop} {E : Mem → Prop} (hI : IX M) (hQ : ∀ (z : Int) (M' : Mem), IX M' → Q z M') (hE : ∀ M' : Mem, IX M' → E M') : qX11_hearse p1 p2 M Q E := by
  unfold qX11_hearse
  refine sX6_isHearse (k0 := 1) (p1 := p1) hI (by decide) ?_
  intro x1 p _ _
  refine ⟨fun c => ?_, fun c => hE _ hI⟩
  have hb := p c
  refine ⟨fun _ => ⟨by omega, by omega, fun x _ _ => hQ _ _ hI⟩, fun _ => ⟨by omega, by omega, fun x _ _ => hQ _ _ hI⟩, fun _ => ?_, fun _ => ?_, fun _ => ?_, fun _ => ?_, fun _ => hE _ hI⟩
  · exact sX11_paceNow (p1 := p1) hI (by omega) (fun z M' h _ => hQ _ _ h)
  · exact sX6_bitsOf (k0 := 1) (k1 := 6) (p2 := p1) hI (by decide) (fun z _ => hQ _ _ hI)
  · exact sX6_bitsOf (k0 := 1) (k1 := 7) (p2 := p1) hI (by decide) (fun z _ => hQ _ _ hI)
  · exact sX6_bitsOf (k0 := 1) (k1 := 5) (p2 := p1) hI (by decide) (fun z _ => hQ _ _ hI)
theorem sX11_mourner {p1 p2 : Int} {M : Mem} {Q : Int → Mem → Prop} {E : Mem → Prop} (hI : IX M) (hQ : ∀ (z : Int) (M' : Mem), IX M' → Q z M') (hE : ∀ M' : Mem, IX M' → E M') : qX11_mourner p1 p2 M Q E := by
  unfold qX11_mourner
  refine sX6_isMourner (k0 := 1) (p1 := p1) hI (by decide) ?_
  intro x1 p _ _
  refine ⟨fun c => ?_, fun c => hE _ hI⟩
  have hb := p c
  refine ⟨fun _ => ⟨by omega, by omega, fun x _ _ => hQ _ _ hI⟩, fun _ => ⟨by omega, by omega, fun x _ _ => hQ _ _ hI⟩, fun _ => ⟨by omega, by omega, fun x _ _ => hQ _ _ hI⟩, fun _ => ⟨by omega, by omega, fun x _ _ => hQ _ _ hI⟩, fun _ => ⟨by omega, by omega, ?_⟩, fun _ => hE _ hI⟩
  intro x18 e18 _
  have b18 : -1 ≤ x18 ∧ x18 ≤ 29 := by rw [e18]; exact (bx_s3 (k := 1) (by decide)).mp (hI.bx _ _)
  exact sX6_nearestTo (k0 := 1) (p1 := x18) hI (by decide) b18 (fun z _ _ => hQ _ _ hI)
theorem sX11_row {p1 : Int} {M : Mem} {Q : Int → Mem → Prop} {E : Mem → Prop} (hI : IX M) (hQ : ∀ (z : Int) (M' : Mem), IX M' → Q z M') (hE : ∀ M' : Mem, IX M' → E M') : qX11_row p1 M Q E := by
  unfold qX11_row
  refine ⟨fun _ => hE _ hI, fun c => ?_⟩
  intro x2 e2 _
  have b2 : 0 ≤ x2 ∧ x2 ≤ 8 := by rw [e2]; exact bx_c167_1.mp (hI.bx _ _)
  exact ⟨fun c2 => ⟨by omega, by omega, fun x _ _ => hQ _ _ hI⟩, fun _ => hE _ hI⟩
-- sign, end
theorem gX11_end {p1 : Int} {M : Mem} {Q : Int → Mem → Prop} (hI : IX M) (hQ : ∀ (z : Int) (M' : Mem), IX M' → ((0 ≤ p1 ∧ p1 ≤ M 156 1) ∧ z = 1 ∧ M' 156 1 = p1 ∨ (p1 < 0 ∨ M 156 1 < p1) ∧ z = 0 ∧ M' 156 1 = M 156 1) → Q z M') : qX11_end p1 M Q := by
  unfold qX11_end qX9_cutTo
  refine ⟨fun c => ?_, fun c => ?_⟩
  · intro _ _
    exact ⟨Or.inl rfl, hQ _ _ hI (Or.inr ⟨Or.inl c, rfl, rfl⟩)⟩
  · intro x2 e2 _
    have b2 : 0 ≤ x2 ∧ x2 ≤ 80 := by rw [e2]; exact bx_c156_1.mp (hI.bx _ _)
    refine ⟨fun c2 => ?_, fun c2 => ?_⟩
    · intro M4 h4 _ _
      exact ⟨Or.inr rfl, hQ _ _ (by rw [h4]; exact hI.up (by decide) (bx_c156_1.mpr ⟨by omega, by omega⟩)) (Or.inl ⟨by omega, rfl, by rw [h4, up2_s]⟩)⟩
    · intro _ _
      exact ⟨Or.inl rfl, hQ _ _ hI (Or.inr ⟨Or.inr (by omega), rfl, rfl⟩)⟩
theorem gX12_end {p1 b : Int} {M : Mem} {Q : Int → Mem → Prop} (hI : IM b M) (hQ : ∀ (z : Int) (M' : Mem), IM b M' → ((0 ≤ p1 ∧ p1 ≤ M 1 14) ∧ z = 1 ∧ M' 1 14 = p1 ∨ (p1 < 0 ∨ M 1 14 < p1) ∧ z = 0 ∧ M' 1 14 = M 1 14) → Q z M') : qX12_end p1 M Q := by
  unfold qX12_end
  intro M1 h1 x2 e2 _
  have i1 : IM b M1 := by rw [h1]; exact hI.up (by omega) (by simp [BM])
  have f2 : x2 = M 1 14 := by rw [e2, h1, up2_j (by decide)]
  have b2 : 0 ≤ x2 ∧ x2 ≤ 80 := by rw [e2]; exact bm_c1_14.mp (i1.bx _ _)
  have g1 : M1 1 14 = M 1 14 := by rw [h1, up2_j (by decide)]
  refine sX12_in (p0 := p1) (p2 := 0) (p4 := x2) i1 ?_
  intro x3 p3 _ _
  refine ⟨fun c => ?_, fun c => hQ _ _ i1 (Or.inr ⟨by omega, rfl, g1⟩)⟩
  intro M5 h5
  exact hQ _ _ (by rw [h5]; exact i1.up (by omega) (bm_c1_14.mpr ⟨by omega, by omega⟩)) (Or.inl ⟨by omega, rfl, by rw [h5, up2_s]⟩)
-- heard, forget
theorem gX0_canBe {p0 p1 : Int} {M : Mem} {Q : Int → Mem → Prop} (hQ : ∀ z : Int, (z = 1 ∧ ((p0 = 0 ∨ p0 = 2) ∧ 0 ≤ p1 ∧ p1 ≤ 8 ∨ p0 = 1 ∧ 1 ≤ p1 ∧ p1 ≤ 6 ∨ p0 = 3 ∧ (p1 = 0 ∨ p1 = 1)) ∨ z = 0 ∧ ¬ ((p0 = 0 ∨ p0 = 2) ∧ 0 ≤ p1 ∧ p1 ≤ 8 ∨ p0 = 1 ∧ 1 ≤ p1 ∧ p1 ≤ 6 ∨ p0 = 3 ∧ (p1 = 0 ∨ p1 = 1))) → Q z M) : qX0_canBe p0 p1 M Q := by
  unfold qX0_canBe
  refine ⟨fun c => ⟨fun c2 => hQ _ (by omega), fun c2 => ⟨fun c3 => hQ _ (by omega), fun c3 => hQ _ (by omega)⟩⟩, fun c => ⟨fun c2 => hQ _ (by omega), fun c2 => ⟨fun c3 => hQ _ (by omega), fun c3 => hQ _ (by omega)⟩⟩, fun c => ⟨fun c2 => hQ _ (by omega), fun c2 => ⟨fun c3 => hQ _ (by omega), fun c3 => hQ _ (by omega)⟩⟩, fun c => ⟨fun c2 => hQ _ (by omega), fun c2 => ⟨fun c3 => hQ _ (by omega), fun c3 => hQ _ (by omega)⟩⟩, fun c => hQ _ (by omega)⟩
theorem gX11_forget {M : Mem} {Q : Int → Mem → Prop} (hI : IX M) (hQ : ∀ (z : Int) (M' : Mem), IX M' → z = M 182 2 → M' 182 2 = 0 → Q z M') : qX11_forget M Q := by
  unfold qX11_forget
  intro x1 e1 _ M2 h2
  exact hQ _ _ (by rw [h2]; exact hI.up (by decide) (bx_c182_2.mpr (by decide))) e1 (by rw [h2, up2_s])
theorem gX12_forget {b : Int} {M : Mem} {Q : Int → Mem → Prop} (hI : IM b M) (hQ : ∀ (z : Int) (M' : Mem), IM b M' → z = M 1 45 → M' 1 45 = 0 → Q z M') : qX12_forget M Q := by
  unfold qX12_forget
  intro M1 h1 x2 e2 _ M3 h3
  have i1 : IM b M1 := by rw [h1]; exact hI.up (by omega) (by simp [BM])
  exact hQ _ _ (by rw [h3]; exact i1.up (by omega) (bm_c1_45.mpr (by decide))) (by rw [e2, h1, up2_j (by decide)]) (by rw [h3, up2_s])
-- keep
end
section
theorem fzX11_rains_L42 {p1 : Int} {p2 : Int} {p3 : Int} {X112 X112' : Int → Mem → Prop} {Q Q' : Int → Mem → Prop} (hX112 : ∀ (w0 : Int) (M' : Mem), X112 w0 M' → X112' w0 M') : ∀ (n : Nat) (v4 v6 v8 : Int) (M : Mem), qX11_rains_L42 p1 p2 p3 X112 Q n v4 v6 v8 M → qX11_rains_L42 p1 p2 p3 X112' Q' n v4 v6 v8 M := by
  intro n
  induction n with
  | zero => intro v4 v6 v8 M h; exact h.elim
  | succ n ih =>
    intro v4 v6 v8 M h
    rw [qX11_rains_L42] at h
    rw [qX11_rains_L42]
    obtain ⟨v1, h1⟩ := h
    refine ⟨v1, ?_⟩
    obtain ⟨h2, h3⟩ := h1
    refine ⟨?_, ?_⟩
    · intro g4
      have h5 := h2 g4
      exact hX112 _ _ h5
    · intro g6
      have h7 := h3 g6
      obtain ⟨v8, h8⟩ := h7
      refine ⟨v8, ?_⟩
      obtain ⟨h9, h10⟩ := h8
      refine ⟨?_, ?_⟩
      · intro g11
        have h12 := h9 g11
        unfold qX11_rains_J88 at h12 ⊢
        intro x11_13 g14 g15
        have h13 := h12 x11_13 g14 g15
        intro x12_16 g17 g18
        have h16 := h13 x12_16 g17 g18
        intro x13_19 g20 g21
        have h19 := h16 x13_19 g20 g21
        obtain ⟨v22, h22⟩ := h19
        refine ⟨v22, ?_⟩
        obtain ⟨v23, h23⟩ := h22
        refine ⟨v23, ?_⟩
        intro x16_24 g25 g26
        have h24 := h23 x16_24 g25 g26
        exact ih _ _ _ _ h24
      · intro g27
        have h28 := h10 g27
        refine fmX11_power h28 ?_
        intro x17_30 M17_31 f29 h29
        intro g32
        have h33 := h29 g32
        intro x18_34 g35 g36
        have h34 := h33 x18_34 g35 g36
        intro x19_37 g38 g39
        have h37 := h34 x19_37 g38 g39
        intro x20_40 g41 g42
        have h40 := h37 x20_40 g41 g42
        intro x21_43 g44 g45
        have h43 := h40 x21_43 g44 g45
        refine fmX11_power h43 ?_
        intro x22_47 M22_48 f46 h46
        intro g49
        have h50 := h46 g49
        intro x23_51 g52 g53
        have h51 := h50 x23_51 g52 g53
        intro x24_54 g55 g56
        have h54 := h51 x24_54 g55 g56
        unfold qX11_rains_J88 at h54 ⊢
        intro x11_57 g58 g59
        have h57 := h54 x11_57 g58 g59
        intro x12_60 g61 g62
        have h60 := h57 x12_60 g61 g62
        intro x13_63 g64 g65
        have h63 := h60 x13_63 g64 g65
        obtain ⟨v66, h66⟩ := h63
        refine ⟨v66, ?_⟩
        obtain ⟨v67, h67⟩ := h66
        refine ⟨v67, ?_⟩
        intro x16_68 g69 g70
        have h68 := h67 x16_68 g69 g70
        exact ih _ _ _ _ h68
/-! rests, rains: what they answer -/
def gn (m o v : Int) : Int := (if o < m then v else if m = o then v / 2 else 0) - m - (if 2 * o < m then 3 else 0)
theorem gX11_gain {p0 p1 p2 : Int} (hp : 0 ≤ p0 ∧ p0 ≤ 9 ∧ 0 ≤ p1 ∧ p1 ≤ 9 ∧ 0 ≤ p2 ∧ p2 ≤ 20) {M : Mem} {Q : Int → Mem → Prop} (hQ : Q (gn p0 p1 p2) M) : qX11_gain p0 p1 p2 M Q := by
  have J : ∀ v3 : Int, v3 = (if p1 < p0 then p2 else if p0 = p1 then p2 / 2 else 0) → qX11_gain_J21 p0 p1 p2 Q v3 M := by
    intro v3 e
    have b : -1 ≤ v3 ∧ v3 ≤ 20 := by
      rw [e]
      split
      · omega
      · split <;> omega
    unfold qX11_gain_J21
    refine ⟨⟨by omega, by omega⟩, ⟨fun c => ⟨⟨by omega, by omega⟩, ?_⟩, fun c => ⟨⟨by omega, by omega⟩, ?_⟩⟩⟩
    · have : gn p0 p1 p2 = v3 - p0 - 0 := by unfold gn; rw [← e, if_neg (by omega)]
      rw [← this]; exact hQ
    · have : gn p0 p1 p2 = v3 - p0 - 3 := by unfold gn; rw [← e, if_pos (by omega)]
      rw [← this]; exact hQ
  unfold qX11_gain
  refine ⟨fun c => ⟨fun c2 => J _ (by rw [if_neg (by omega), if_neg c2]), fun c2 => ?_⟩, fun c => J _ (by rw [if_pos (by omega)])⟩
  intro x7 e7 _
  exact J _ (by rw [if_neg (by omega), if_pos c2, e7, dvI_e ⟨by omega, by omega⟩ ⟨by decide, by decide⟩])
theorem gX12_gets {p0 p1 p2 b : Int} (hp : 0 ≤ p0 ∧ p0 ≤ 9 ∧ 0 ≤ p1 ∧ p1 ≤ 9 ∧ 0 ≤ p2 ∧ p2 ≤ 20) {M : Mem} (hI : IM b M) {Q : Int → Mem → Prop} (hQ : Q (gn p0 p1 p2) M) : qX12_gets p0 p1 p2 M Q := by
  have J : ∀ v3 : Int, v3 = (if p1 < p0 then p2 else if p0 = p1 then p2 / 2 else 0) → qX12_gets_J21 p0 p1 p2 Q v3 M := by
    intro v3 e
    have b : -1 ≤ v3 ∧ v3 ≤ 20 := by
      rw [e]
      split
      · omega
      · split <;> omega
    unfold qX12_gets_J21 qX12_gets_J36
    refine ⟨⟨by omega, by omega⟩, ⟨fun c => ?_, fun c => ?_⟩⟩
    · have : gn p0 p1 p2 = v3 - p0 := by unfold gn; rw [← e, if_neg (by omega)]; omega
      refine ⟨⟨by omega, by omega⟩, ?_⟩
      refine sX12_flag (p0 := 0) hI ?_
      intro z hz _
      have hz0 : z = 0 := by omega
      subst hz0
      refine ⟨⟨by omega, by omega⟩, ?_⟩
      rw [show v3 - p0 - 3 * 0 = gn p0 p1 p2 from by omega]
      exact hQ
    · have : gn p0 p1 p2 = v3 - p0 - 3 := by unfold gn; rw [← e, if_pos (by omega)]
      refine ⟨⟨by omega, by omega⟩, ?_⟩
      refine sX12_flag (p0 := 1) hI ?_
      intro z hz _
      have hz0 : z = 1 := by omega
      subst hz0
      refine ⟨⟨by omega, by omega⟩, ?_⟩
      rw [show v3 - p0 - 3 * 1 = gn p0 p1 p2 from by omega]
      exact hQ
  unfold qX12_gets
  refine ⟨fun c => ⟨fun c2 => J _ (by rw [if_neg (by omega), if_neg c2]), fun c2 => ?_⟩, fun c => J _ (by rw [if_pos (by omega)])⟩
  intro x7 e7 _
  exact J _ (by rw [if_neg (by omega), if_pos c2, e7, dvI_e ⟨by omega, by omega⟩ ⟨by decide, by decide⟩])
theorem gn_b {m o v : Int} (h : 0 ≤ m ∧ m ≤ 9 ∧ 0 ≤ o ∧ o ≤ 9 ∧ 0 ≤ v ∧ v ≤ 20) : -30 ≤ gn m o v ∧ gn m o v ≤ 30 := by
  unfold gn
  split
  · split <;> omega
  · split
    · split <;> omega
    · split <;> omega
/-- none would have more by another number -/
def BA (m o v : Int) : Prop := ∀ a : Int, 0 ≤ a → a ≤ 9 → gn a o v ≤ gn m o v
theorem gX11_isBestAnswer_L10 {p0 p1 p2 : Int} (hp : 0 ≤ p0 ∧ p0 ≤ 9 ∧ 0 ≤ p1 ∧ p1 ≤ 9 ∧ 0 ≤ p2 ∧ p2 ≤ 20) {M : Mem} {Q : Int → Mem → Prop} (hQ : ∀ z : Int, (z = 1 ∧ BA p0 p1 p2 ∨ z = 0 ∧ ¬ BA p0 p1 p2) → Q z M) : ∀ (n : Nat) (v3 v4 : Int), v3 = gn p0 p1 p2 → (∀ a : Int, 0 ≤ a → a < v4 → gn a p1 p2 ≤ gn p0 p1 p2) → (0 ≤ v4 ∧ v4 ≤ 10) → 10 - v4 < (n : Int) → qX11_isBestAnswer_L10 p0 p1 p2 Q n v3 v4 M := by
  intro n
  induction n with
  | zero => intro v3 v4 h3 ha hv hm; exact absurd hm (by omega)
  | succ n ih =>
    intro v3 v4 h3 ha hv hm
    rw [qX11_isBestAnswer_L10]
    refine ⟨⟨by omega, by omega⟩, ⟨fun c => hQ _ (Or.inl ⟨rfl, fun a h0 h9 => ha a h0 (by omega)⟩), fun c => ?_⟩⟩
    refine gX11_gain ⟨by omega, by omega, by omega, by omega, by omega, by omega⟩ ?_
    intro _
    have b := gn_b (m := p0) (o := p1) (v := p2) (by omega)
    refine ⟨⟨by omega, by omega⟩, ⟨fun c2 => ih _ _ h3 (fun a h0 h1 => ?_) (by omega) (by omega), fun c2 => hQ _ (Or.inr ⟨rfl, fun hb => ?_⟩)⟩⟩
    · by_cases ca : a = v4
      · rw [ca]; omega
      · exact ha a h0 (by omega)
    · have := hb v4 (by omega) (by omega)
      omega
theorem gX11_isBestAnswer {p0 p1 p2 : Int} (hp : 0 ≤ p0 ∧ p0 ≤ 9 ∧ 0 ≤ p1 ∧ p1 ≤ 9 ∧ 0 ≤ p2 ∧ p2 ≤ 20) {M : Mem} {Q : Int → Mem → Prop} (hQ : ∀ z : Int, (z = 1 ∧ BA p0 p1 p2 ∨ z = 0 ∧ ¬ BA p0 p1 p2) → Q z M) : qX11_isBestAnswer p0 p1 p2 M Q := by
  unfold qX11_isBestAnswer
  refine gX11_gain hp ?_
  intro _
  exact ⟨11, gX11_isBestAnswer_L10 hp hQ _ _ _ rfl (fun a h0 h1 => by omega) (by omega) (by omega)⟩
theorem gX12_isRest_L5 {p0 p1 p2 b : Int} (hp : 0 ≤ p0 ∧ p0 ≤ 9 ∧ 0 ≤ p1 ∧ p1 ≤ 9 ∧ 0 ≤ p2 ∧ p2 ≤ 20) {M : Mem} (hI : IM b M) {Q : Int → Mem → Prop} (hQ : ∀ z : Int, (z = 1 ∧ BA p0 p1 p2 ∨ z = 0 ∧ ¬ BA p0 p1 p2) → Q z M) : ∀ (n : Nat) (v3 v4 : Int), (v3 = 1 ∧ (∀ a : Int, 0 ≤ a → a < v4 → gn a p1 p2 ≤ gn p0 p1 p2) ∨ v3 = 0 ∧ ¬ BA p0 p1 p2) → (0 ≤ v4 ∧ v4 ≤ 10) → 10 - v4 < (n : Int) → qX12_isRest_L5 p0 p1 p2 Q n v3 v4 M := by
  intro n
  induction n with
  | zero => intro v3 v4 ha hv hm; exact absurd hm (by omega)
  | succ n ih =>
    intro v3 v4 ha hv hm
    have h01 : v3 = 0 ∨ v3 = 1 := by rcases ha with h | h <;> omega
    rw [qX12_isRest_L5]
    refine ⟨⟨by omega, by omega⟩, ⟨fun c => ⟨⟨by omega, by omega⟩, h01, hQ _ ?_⟩, fun c => ⟨⟨by omega, by omega⟩, ⟨fun c2 => ?_, fun c2 => ?_⟩⟩⟩⟩
    · rcases ha with h | h
      · exact Or.inl ⟨h.1, fun a h0 h9 => h.2 a h0 (by omega)⟩
      · exact Or.inr h
    · rcases ha with h | h
      · omega
      · exact ih _ _ (Or.inr ⟨rfl, h.2⟩) (by omega) (by omega)
    · refine gX12_gets ⟨by omega, by omega, by omega, by omega, by omega, by omega⟩ hI ?_
      intro _
      refine gX12_gets hp hI ?_
      intro _
      refine ⟨fun c3 => ih _ _ (Or.inr ⟨rfl, fun hb => ?_⟩) (by omega) (by omega), fun c3 => ih _ _ (Or.inl ⟨rfl, fun a h0 h1 => ?_⟩) (by omega) (by omega)⟩
      · have := hb v4 (by omega) (by omega)
        omega
      · rcases ha with h | h
        · by_cases ca : a = v4
          · rw [ca]; omega
          · exact h.2 a h0 (by omega)
        · omega
theorem gX12_isRest {p0 p1 p2 b : Int} (hp : 0 ≤ p0 ∧ p0 ≤ 9 ∧ 0 ≤ p1 ∧ p1 ≤ 9 ∧ 0 ≤ p2 ∧ p2 ≤ 20) {M : Mem} (hI : IM b M) {Q : Int → Mem → Prop} (hQ : ∀ z : Int, (z = 1 ∧ BA p0 p1 p2 ∨ z = 0 ∧ ¬ BA p0 p1 p2) → Q z M) : qX12_isRest p0 p1 p2 M Q := by
  unfold qX12_isRest
  exact ⟨11, gX12_isRest_L5 hp hI hQ _ _ _ (Or.inl ⟨rfl, fun a h0 h1 => by omega⟩) (by omega) (by omega)⟩
noncomputable def b01 (P : Prop) : Int := @ite Int P (Classical.propDecidable P) 1 0
theorem b01_1 {P : Prop} (h : P) : b01 P = 1 := by unfold b01; rw [if_pos h]
theorem b01_0 {P : Prop} (h : ¬ P) : b01 P = 0 := by unfold b01; rw [if_neg h]
theorem b01_b (P : Prop) : 0 ≤ b01 P ∧ b01 P ≤ 1 := by
  by_cases h : P
  · rw [b01_1 h]; decide
  · rw [b01_0 h]; decide
noncomputable def rY (x v : Int) : Nat → Int
  | 0 => 0
  | y + 1 => rY x v y + b01 (BA x y v ∧ BA y x v)
noncomputable def rX (v : Int) : Nat → Int
  | 0 => 0
  | x + 1 => rX v x + rY x v 10
noncomputable def RSF (v : Int) : Int := if 0 ≤ v ∧ v ≤ 20 then rX v 10 else -1
theorem rY_b (x v : Int) (n : Nat) : 0 ≤ rY x v n ∧ rY x v n ≤ n := by
  induction n with
  | zero => exact ⟨Int.le_refl _, Int.le_refl _⟩
  | succ n ih =>
    have := b01_b (BA x n v ∧ BA n x v)
    unfold rY
    omega
theorem rX_b (v : Int) (n : Nat) : 0 ≤ rX v n ∧ rX v n ≤ 10 * n := by
  induction n with
  | zero => exact ⟨Int.le_refl _, Int.le_refl _⟩
  | succ n ih =>
    have := rY_b n v 10
    unfold rX
    omega
theorem rY_s {x v y : Int} (h : 0 ≤ y) : rY x v (y + 1).toNat = rY x v y.toNat + b01 (BA x y v ∧ BA y x v) := by
  rw [show (y + 1).toNat = y.toNat + 1 from by omega]
  show rY x v y.toNat + b01 (BA x (y.toNat : Nat) v ∧ BA (y.toNat : Nat) x v) = _
  rw [show ((y.toNat : Nat) : Int) = y from by omega]
theorem rX_s {v x : Int} (h : 0 ≤ x) : rX v (x + 1).toNat = rX v x.toNat + rY x v 10 := by
  rw [show (x + 1).toNat = x.toNat + 1 from by omega]
  show rX v x.toNat + rY (x.toNat : Nat) v 10 = _
  rw [show ((x.toNat : Nat) : Int) = x from by omega]
theorem gX11_rests_L32 {p1 : Int} (hp : 0 ≤ p1 ∧ p1 ≤ 20) {X85 : Int → Int → Mem → Prop} {Q : Int → Mem → Prop} {v3 : Int} (hv3 : 0 ≤ v3 ∧ v3 ≤ 9) (hX : ∀ M' : Mem, IX M' → X85 (rX p1 (v3 + 1).toNat) v3 M') : ∀ (n : Nat) (v2 v4 : Int) (M : Mem), IX M → v2 = rX p1 v3.toNat + rY v3 p1 v4.toNat → (0 ≤ v4 ∧ v4 ≤ 10) → 10 - v4 < (n : Int) → qX11_rests_L32 p1 X85 Q n v2 v3 v4 M := by
  intro n
  induction n with
  | zero => intro v2 v4 M hI h2 hv hm; exact absurd hm (by omega)
  | succ n ih =>
    intro v2 v4 M hI h2 hv hm
    have hb1 := rX_b p1 v3.toNat
    have hb2 := rY_b v3 p1 v4.toNat
    have hs := rY_s (x := v3) (v := p1) (y := v4) hv.1
    rw [qX11_rests_L32]
    refine ⟨⟨by omega, by omega⟩, ⟨fun c => ?_, fun c => ⟨⟨by omega, by omega⟩, ?_⟩⟩⟩
    · have e : v2 = rX p1 (v3 + 1).toNat := by
        rw [rX_s hv3.1, h2, show v4 = 10 from by omega]
        rfl
      rw [e]
      exact hX _ hI
    · refine gX11_isBestAnswer ⟨by omega, by omega, by omega, by omega, by omega, by omega⟩ ?_
      intro x10 p10' _ _
      refine ⟨fun c2 => ?_, fun c2 => ?_⟩
      · have hn : ¬ (BA v3 v4 p1 ∧ BA v4 v3 p1) := fun q => by
          rcases p10' with h | h
          · omega
          · exact h.2 q.1
        rw [b01_0 hn] at hs
        exact ih _ _ _ hI (by omega) (by omega) (by omega)
      · have ha : BA v3 v4 p1 := by
          rcases p10' with h | h
          · exact h.2
          · omega
        refine gX11_isBestAnswer ⟨by omega, by omega, by omega, by omega, by omega, by omega⟩ ?_
        intro x12 p12 _ _
        refine ⟨fun c3 => ?_, fun c3 => ⟨⟨by omega, by omega⟩, ?_⟩⟩
        · have hn : ¬ (BA v3 v4 p1 ∧ BA v4 v3 p1) := fun q => by
            rcases p12 with h | h
            · omega
            · exact h.2 q.2
          rw [b01_0 hn] at hs
          exact ih _ _ _ hI (by omega) (by omega) (by omega)
        · have hy : BA v3 v4 p1 ∧ BA v4 v3 p1 := ⟨ha, by
            rcases p12 with h | h
            · exact h.2
            · omega⟩
          rw [b01_1 hy] at hs
          refine ⟨fun c4 => ih _ _ _ hI (by omega) (by omega) (by omega), fun c4 => ?_⟩
          refine sX4_tellTwo hI ?_
          intro M16 h16
          exact ih _ _ _ h16 (by omega) (by omega) (by omega)
theorem gX11_rests_L23 {p1 : Int} (hp : 0 ≤ p1 ∧ p1 ≤ 20) {Q : Int → Mem → Prop} (hQ : ∀ M' : Mem, IX M' → Q (rX p1 10) M') : ∀ (n : Nat) (v2 v3 : Int) (M : Mem), IX M → v2 = rX p1 v3.toNat → (0 ≤ v3 ∧ v3 ≤ 10) → 10 - v3 < (n : Int) → qX11_rests_L23 p1 Q n v2 v3 M := by
  intro n
  induction n with
  | zero => intro v2 v3 M hI h2 hv hm; exact absurd hm (by omega)
  | succ n ih =>
    intro v2 v3 M hI h2 hv hm
    have hb1 := rX_b p1 v3.toNat
    rw [qX11_rests_L23]
    refine ⟨⟨by omega, by omega⟩, ⟨fun c => ⟨⟨by omega, by omega⟩, ?_⟩, fun c => ?_⟩⟩
    · rw [h2, show v3 = 10 from by omega]
      exact hQ _ hI
    · refine ⟨11, gX11_rests_L32 hp ⟨by omega, by omega⟩ ?_ _ _ _ _ hI ?_ (by omega) (by omega)⟩
      · intro M' i'
        exact ih _ _ _ i' rfl (by omega) (by omega)
      · rw [h2]
        show _ = _ + 0
        omega
theorem gX11_rests {p1 : Int} {M : Mem} {Q : Int → Mem → Prop} (hI : IX M) (hQ : ∀ (z : Int) (M' : Mem), IX M' → z = RSF p1 → Q z M') : qX11_rests p1 M Q := by
  unfold qX11_rests
  refine ⟨fun c => hQ _ _ hI (by unfold RSF; rw [if_neg (by omega)]), fun c => ⟨fun c2 => ?_, fun c2 => hQ _ _ hI (by unfold RSF; rw [if_neg (by omega)])⟩⟩
  refine sX4_clear hI ?_
  intro M3 h3
  refine ⟨11, gX11_rests_L23 ⟨by omega, by omega⟩ ?_ _ _ _ _ h3 rfl (by omega) (by omega)⟩
  intro M' i'
  exact hQ _ _ i' (by unfold RSF; rw [if_pos ⟨by omega, by omega⟩])
theorem gX12_rests_L37 {p1 b : Int} (hp : 0 ≤ p1 ∧ p1 ≤ 20) {X90 : Int → Int → Mem → Prop} {Q : Int → Mem → Prop} {v3 : Int} (hv3 : 0 ≤ v3 ∧ v3 ≤ 9) (hX : ∀ M' : Mem, IM b M' → (rX p1 (v3 + 1).toNat = 0 → M' 1 1 = 0) → X90 (rX p1 (v3 + 1).toNat) v3 M') : ∀ (n : Nat) (v2 v4 : Int) (M : Mem), IM b M → (v2 = 0 → M 1 1 = 0) → v2 = rX p1 v3.toNat + rY v3 p1 v4.toNat → (0 ≤ v4 ∧ v4 ≤ 10) → 10 - v4 < (n : Int) → qX12_rests_L37 p1 X90 Q n v2 v3 v4 M := by
  intro n
  induction n with
  | zero => intro v2 v4 M hI h0 h2 hv hm; exact absurd hm (by omega)
  | succ n ih =>
    intro v2 v4 M hI h0 h2 hv hm
    have hb1 := rX_b p1 v3.toNat
    have hb2 := rY_b v3 p1 v4.toNat
    have hs := rY_s (x := v3) (v := p1) (y := v4) hv.1
    rw [qX12_rests_L37]
    refine ⟨⟨by omega, by omega⟩, ⟨fun c => ?_, fun c => ⟨⟨by omega, by omega⟩, ?_⟩⟩⟩
    · have e : v2 = rX p1 (v3 + 1).toNat := by
        rw [rX_s hv3.1, h2, show v4 = 10 from by omega]
        rfl
      rw [e]
      exact hX _ hI (by rw [← e]; exact h0)
    · refine gX12_isRest ⟨by omega, by omega, by omega, by omega, by omega, by omega⟩ hI ?_
      intro x10 p10' _ _
      refine ⟨fun c2 => ?_, fun c2 => ?_⟩
      · have hn : ¬ (BA v3 v4 p1 ∧ BA v4 v3 p1) := fun q => by
          rcases p10' with h | h
          · omega
          · exact h.2 q.1
        rw [b01_0 hn] at hs
        exact ih _ _ _ hI h0 (by omega) (by omega) (by omega)
      · have ha : BA v3 v4 p1 := by
          rcases p10' with h | h
          · exact h.2
          · omega
        refine gX12_isRest ⟨by omega, by omega, by omega, by omega, by omega, by omega⟩ hI ?_
        intro x12 p12 _ _
        refine ⟨fun c3 => ?_, fun c3 => ⟨⟨by omega, by omega⟩, ?_⟩⟩
        · have hn : ¬ (BA v3 v4 p1 ∧ BA v4 v3 p1) := fun q => by
            rcases p12 with h | h
            · omega
            · exact h.2 q.2
          rw [b01_0 hn] at hs
          exact ih _ _ _ hI h0 (by omega) (by omega) (by omega)
        · have hy : BA v3 v4 p1 ∧ BA v4 v3 p1 := ⟨ha, by
            rcases p12 with h | h
            · exact h.2
            · omega⟩
          rw [b01_1 hy] at hs
          refine ⟨fun c4 => ih _ _ _ hI (fun q => by omega) (by omega) (by omega) (by omega), fun c4 => ?_⟩
          have h1 := h0 c4
          refine sX12_enters hI (by omega) ?_
          intro M17 h17 g17
          refine sX12_enters h17 (by omega) ?_
          intro M18 h18 g18
          exact ih _ _ _ h18 (fun q => by omega) (by omega) (by omega) (by omega)
theorem gX12_rests_L28 {p1 b : Int} (hp : 0 ≤ p1 ∧ p1 ≤ 20) {Q : Int → Mem → Prop} (hQ : ∀ M' : Mem, IM b M' → Q (rX p1 10) M') : ∀ (n : Nat) (v2 v3 : Int) (M : Mem), IM b M → (v2 = 0 → M 1 1 = 0) → v2 = rX p1 v3.toNat → (0 ≤ v3 ∧ v3 ≤ 10) → 10 - v3 < (n : Int) → qX12_rests_L28 p1 Q n v2 v3 M := by
  intro n
  induction n with
  | zero => intro v2 v3 M hI h0 h2 hv hm; exact absurd hm (by omega)
  | succ n ih =>
    intro v2 v3 M hI h0 h2 hv hm
    have hb1 := rX_b p1 v3.toNat
    rw [qX12_rests_L28]
    refine ⟨⟨by omega, by omega⟩, ⟨fun c => ⟨⟨by omega, by omega⟩, ?_⟩, fun c => ?_⟩⟩
    · rw [h2, show v3 = 10 from by omega]
      exact hQ _ hI
    · refine ⟨11, gX12_rests_L37 (b := b) hp ⟨by omega, by omega⟩ ?_ _ _ _ _ hI h0 ?_ (by omega) (by omega)⟩
      · intro M' i' h0'
        exact ih _ _ _ i' h0' rfl (by omega) (by omega)
      · rw [h2]
        show _ = _ + 0
        omega
theorem gX12_rests {p1 b : Int} {M : Mem} {Q : Int → Mem → Prop} (hI : IM b M) (hQ : ∀ (z : Int) (M' : Mem), IM b M' → z = RSF p1 → Q z M') : qX12_rests p1 M Q := by
  unfold qX12_rests
  intro M1 h1
  have i1 : IM b M1 := by rw [h1]; exact hI.up (by omega) (by simp [BM])
  refine sX12_in (p0 := p1) (p2 := 0) (p4 := 20) i1 ?_
  intro x2 p2 _ _
  refine ⟨fun c => ?_, fun c => hQ _ _ i1 (by unfold RSF; rw [if_neg (by omega)])⟩
  intro M4 h4
  have i4 : IM b M4 := by rw [h4]; exact i1.up (by omega) (bm_c1_1.mpr (by decide))
  refine ⟨11, gX12_rests_L28 (b := b) ⟨by omega, by omega⟩ ?_ _ _ _ _ i4 (fun _ => by rw [h4, up2_s]) rfl (by omega) (by omega)⟩
  intro M' i'
  exact hQ _ _ i' (by unfold RSF; rw [if_pos ⟨by omega, by omega⟩])
-- rains
theorem gX11_power10_L5 {p2 : Int} (hp : 0 ≤ p2 ∧ p2 ≤ 12) {M : Mem} {Q : Int → Mem → Prop} (hQ : Q (p10 p2) M) : ∀ (n : Nat) (v3 v5 : Int), v3 = p10 v5 → (0 ≤ v5 ∧ v5 ≤ p2) → p2 - v5 < (n : Int) → qX11_power_L5 10 p2 Q n v3 v5 M := by
  intro n
  induction n with
  | zero => intro v3 v5 h3 hv hm; exact absurd hm (by omega)
  | succ n ih =>
    intro v3 v5 h3 hv hm
    have hb := p10_b (z := v5) (by omega)
    rw [qX11_power_L5]
    refine ⟨⟨by omega, by omega⟩, ⟨fun c => ⟨show -9223372036854775808 ≤ v3 ∧ v3 ≤ 9223372036854775807 from ⟨by omega, by omega⟩, ?_⟩, fun c => ?_⟩⟩
    · rw [h3, show v5 = p2 from by omega]
      exact hQ
    · intro x4 e4 _
      have hb2 := p10_b (z := v5 + 1) (by omega)
      have hs := p10_s (z := v5) hv.1
      refine ih _ _ ?_ (by omega) (by omega)
      rw [e4, h3, ← hs]
      exact w64_id (show -9223372036854775808 ≤ p10 (v5 + 1) ∧ p10 (v5 + 1) ≤ 9223372036854775807 from ⟨by omega, by omega⟩)
theorem gX11_commonDivisor_L9 {p0 p2 : Int} {M : Mem} {Q : Int → Mem → Prop} (hQ : ∀ z : Int, 1 ≤ z → Q z M) : ∀ (n : Nat) (v4 v6 v8 : Int), lR v4 → lR v6 → (1 ≤ v4 ∨ v8 = 0 ∧ 0 < v6) → (0 ≤ v8 ∧ v8 ≤ 100) → 100 - v8 < (n : Int) → qX11_commonDivisor_L9 p0 p2 Q n v4 v6 v8 M := by
  intro n
  induction n with
  | zero => intro v4 v6 v8 h4 h6 ha hv hm; exact absurd hm (by omega)
  | succ n ih =>
    intro v4 v6 v8 h4 h6 ha hv hm
    rw [qX11_commonDivisor_L9]
    refine ⟨⟨by omega, by omega⟩, ⟨fun c => ⟨h4, hQ _ (by omega)⟩, fun c => ⟨h6, ?_⟩⟩⟩
    intro x5 _ c5
    refine ⟨fun c2 => ⟨h4, hQ _ (by omega)⟩, fun c2 => ⟨by omega, ?_⟩⟩
    intro x9 _ r9
    exact ih _ _ _ h6 r9 (Or.inl (by omega)) (by omega) (by omega)
theorem gX11_rains {p1 p2 p3 : Int} {M : Mem} {Q : Int → Mem → Prop} (hI : IX M) (hQ : ∀ (z : Int) (M' : Mem), IX M' → (z = if (1 ≤ p1 ∧ p1 ≤ 12) ∧ (0 ≤ p2 ∧ p2 ≤ 12) ∧ (0 ≤ p3 ∧ p3 ≤ 10) then 0 else -1) → Q z M') : qX11_rains p1 p2 p3 M Q := by
  unfold qX11_rains
  refine ⟨fun c => hQ _ _ hI (by rw [if_neg (by omega)]), fun c1 => ⟨fun c => hQ _ _ hI (by rw [if_neg (by omega)]), fun c2 => ⟨fun c => hQ _ _ hI (by rw [if_neg (by omega)]), fun c3 => ⟨fun c => hQ _ _ hI (by rw [if_neg (by omega)]), fun c4 => ⟨fun c => hQ _ _ hI (by rw [if_neg (by omega)]), fun c5 => ⟨fun c6 => ?_, fun c => hQ _ _ hI (by rw [if_neg (by omega)])⟩⟩⟩⟩⟩⟩
  refine ⟨13, ?_⟩
  refine fzX11_rains_L42 (Q := fun _ _ => True) ?_ _ _ _ _ _ (sX11_rains_L42 (p1 := p1) (p2 := p2) (p3 := p3) (X112 := fun w M' => IX M' ∧ lR w) (Q := fun _ _ => True) (fun _ _ _ => trivial) (fun w M' h hw => ⟨h, hw⟩) 13 0 1 0 M hI (by omega) ⟨by decide, by decide⟩ ⟨by decide, by decide⟩ (by omega))
  intro v4 M' hx
  obtain ⟨h', hw⟩ := hx
  have hb := p10_b (z := p1) (by omega)
  have hl : lR (p10 p1) := show -9223372036854775808 ≤ p10 p1 ∧ p10 p1 ≤ 9223372036854775807 from ⟨by omega, by omega⟩
  refine ⟨13, gX11_power10_L5 ⟨by omega, by omega⟩ ?_ _ _ _ rfl (by omega) (by omega)⟩
  intro _
  refine ⟨hw, ⟨101, gX11_commonDivisor_L9 ?_ _ _ _ _ hw hl (Or.inr ⟨rfl, by omega⟩) (by omega) (by omega)⟩⟩
  intro z hz _ x29 _ c29
  refine ⟨fun c7 => ⟨by omega, ?_⟩, fun c7 => by omega⟩
  intro x32 _ r32
  refine ⟨by omega, ?_⟩
  intro x34 _ r34
  refine sX4_tellTwo h' ?_
  intro M35 h35
  exact hQ _ _ h35 (by rw [if_pos ⟨by omega, by omega, by omega⟩])
end
section
/-! ===== Int32 by its bits: bt x i ===== -/
def bt (x : Int32) (i : Nat) : Bool := x.toBitVec.getLsbD i
theorem b_ext {x y : Int32} (h : ∀ i, i < 32 → bt x i = bt y i) : x = y := Int32.toBitVec_inj.mp (BitVec.eq_of_getLsbD_eq (fun i hi => h i hi))
theorem b_or (x y : Int32) (i : Nat) : bt (x ||| y) i = (bt x i || bt y i) := by unfold bt; rw [Int32.toBitVec_or, BitVec.getLsbD_or]
theorem b_and (x y : Int32) (i : Nat) : bt (x &&& y) i = (bt x i && bt y i) := by unfold bt; rw [Int32.toBitVec_and, BitVec.getLsbD_and]
theorem b_big {x : Int32} {i : Nat} (h : 32 ≤ i) : bt x i = false := BitVec.getLsbD_of_ge _ _ h
theorem b_255 (i : Nat) : bt 255 i = decide (i < 8) := by
  rcases Nat.lt_or_ge i 32 with h | h
  · exact (by decide +kernel : ∀ i, i < 32 → bt 255 i = decide (i < 8)) i h
  · rw [b_big h, decide_eq_false (by omega)]
theorem b_0 (i : Nat) : bt 0 i = false := BitVec.getLsbD_zero
theorem s_l : ∀ n, n < 32 → ((nI n &&& 31).toBitVec.smod 32).toNat = n := by decide +kernel
theorem s_u : ∀ n, n < 32 → (((nI n).toUInt32 &&& Int32.toUInt32 31).toBitVec % 32).toNat = n := by decide +kernel
theorem b_shl (n : Nat) (hn : n < 32) (x : Int32) {i : Nat} (hi : i < 32) : bt (x <<< (nI n &&& 31)) i = (decide (n ≤ i) && bt x (i - n)) := by
  unfold bt
  rw [Int32.toBitVec_shiftLeft]
  show (x.toBitVec <<< ((nI n &&& 31).toBitVec.smod 32).toNat).getLsbD i = _
  rw [s_l n hn, BitVec.getLsbD_shiftLeft]
  rcases Nat.lt_or_ge i n with h | h
  · simp [h, Nat.not_le.mpr h]
  · simp [hi, h, Nat.not_lt.mpr h]
theorem b_ushr (n : Nat) (hn : n < 32) (x : Int32) (i : Nat) : bt ((x.toUInt32 >>> ((nI n).toUInt32 &&& Int32.toUInt32 31)).toInt32) i = bt x (n + i) := by
  show (x.toUInt32 >>> ((nI n).toUInt32 &&& Int32.toUInt32 31)).toBitVec.getLsbD i = x.toUInt32.toBitVec.getLsbD (n + i)
  rw [UInt32.toBitVec_shiftRight]
  show (x.toUInt32.toBitVec >>> (((nI n).toUInt32 &&& Int32.toUInt32 31).toBitVec % 32).toNat).getLsbD i = _
  rw [s_u n hn, BitVec.getLsbD_ushiftRight]
theorem b_sshr (n : Nat) (hn : n < 32) (x : Int32) {i : Nat} (hi : i < 32) : bt (x >>> (nI n &&& 31)) i = if n + i < 32 then bt x (n + i) else bt x 31 := by
  unfold bt
  rw [Int32.toBitVec_shiftRight]
  show (x.toBitVec.sshiftRight ((nI n &&& 31).toBitVec.smod 32).toNat).getLsbD i = _
  rw [s_l n hn, BitVec.getLsbD_sshiftRight, BitVec.msb_eq_getLsbD_last]
  simp [hi]
end
section
/-! THE TEXT'S SIGNS: they are the same on both sides; avenue and weather answer the same by them -/
theorem us_key (n : Nat) (hn : n ≤ 24) (x : Int32) : ((x.toUInt32 >>> ((nI n).toUInt32 &&& Int32.toUInt32 31)).toInt32) &&& (255 : Int32) = (x >>> (nI n &&& 31)) &&& (255 : Int32) := by
  refine b_ext (fun i hi => ?_)
  rw [b_and, b_and, b_255, b_ushr n (by omega), b_sshr n (by omega) x hi]
  by_cases h8 : i < 8
  · rw [if_pos (show n + i < 32 by omega)]
  · rw [decide_eq_false h8, Bool.and_false, Bool.and_false]
theorem us_sr {v s : Int} (hs : s = 0 ∨ s = 8 ∨ s = 16 ∨ s = 24) : aI (usI v s) 255 = aI (srI v s) 255 := by
  unfold aI usI srI
  rw [iI_toI, iI_toI, show iI 255 = (255 : Int32) from by decide]
  rcases hs with rfl | rfl | rfl | rfl
  · rw [show iI 0 = nI 0 from by decide, us_key 0 (by decide)]
  · rw [show iI 8 = nI 8 from by decide, us_key 8 (by decide)]
  · rw [show iI 16 = nI 16 from by decide, us_key 16 (by decide)]
  · rw [show iI 24 = nI 24 from by decide, us_key 24 (by decide)]
def byt (v i : Int) : Int := aI (srI v (24 - 8 * i)) 255
theorem gX9_addFour_C {p1 : Int} {Q : Int → Mem → Prop} {L : Int} {M0 : Mem} (hQ : ∀ M' : Mem, IX M' → M' 156 1 = L + 4 → (∀ j, 0 ≤ j → j < L → M' 157 j = M0 157 j) → (∀ i, 0 ≤ i → i < 4 → M' 157 (L + i) = byt p1 i) → Q 1 M') : ∀ (n : Nat) (v2 : Int) (M : Mem), IX M → (8 * M 156 1 + v2 = 8 * L + 24 ∧ -8 ≤ v2 ∧ v2 ≤ 24 ∧ 0 ≤ L ∧ L ≤ 76) → (∀ j, 0 ≤ j → j < L → M 157 j = M0 157 j) → (∀ i, 0 ≤ i → i < M 156 1 - L → M 157 (L + i) = byt p1 i) → v2 + 8 < (n : Int) → qX9_addFour_L16 p1 Q n v2 M := by
  intro n
  induction n with
  | zero => intro v2 M hI hv h0 h1 hm; exact absurd hm (by omega)
  | succ n ih =>
    intro v2 M hI hv h0 h1 hm
    rw [qX9_addFour_L16]
    refine ⟨⟨by omega, by omega⟩, ⟨fun c => hQ _ hI (by omega) h0 (fun i a q => h1 i a (by omega)), fun c => ?_⟩⟩
    intro x6 e6 _ x7 e7 _ x8 e8 _
    have b6 : 0 ≤ x6 ∧ x6 ≤ 80 := by rw [e6]; exact bx_c156_1.mp (hI.bx _ _)
    have f8 := aI_255 x7
    rw [← e8] at f8
    refine ⟨by omega, by omega, ?_⟩
    intro M11 h11 x12 e12 _
    have i11 : IX M11 := by rw [h11]; exact hI.up (by decide) (bx_c157.mpr ⟨by omega, by omega⟩)
    have f12 : x12 = x6 := by rw [e12, h11, up2_n (by decide), e6]
    refine ⟨⟨by omega, by omega⟩, ?_⟩
    intro M14 h14
    have i14 : IX M14 := by rw [h14]; exact i11.up (by decide) (bx_c156_1.mpr ⟨by omega, by omega⟩)
    have k14 : M14 156 1 = x6 + 1 := by rw [h14, up2_s, f12]
    have hb : x8 = byt p1 (x6 - L) := by
      unfold byt
      rw [e8, e7, us_sr (by omega), show 24 - 8 * (x6 - L) = v2 from by omega]
    refine ih _ _ i14 ⟨by omega, by omega, by omega, by omega, by omega⟩ ?_ ?_ (by omega)
    · intro j a q
      rw [h14, up2_n (by decide), h11, up2_j (by omega)]
      exact h0 j a q
    · intro i a q
      rw [h14, up2_n (by decide), h11]
      by_cases ci : L + i = x6
      · rw [ci, up2_s, hb, show x6 - L = i from by omega]
      · rw [up2_j ci]
        exact h1 i a (by omega)
theorem gX11_signC {p1 : Int} {M : Mem} {Q : Int → Mem → Prop} (hI : IX M) (hQ : ∀ (z : Int) (M' : Mem), IX M' → (77 ≤ M 156 1 ∧ z = -1 ∧ M' 156 1 = M 156 1 ∧ (∀ j, M' 157 j = M 157 j) ∨ M 156 1 ≤ 76 ∧ z = M 156 1 + 4 ∧ M' 156 1 = M 156 1 + 4 ∧ (∀ j, 0 ≤ j → j < M 156 1 → M' 157 j = M 157 j) ∧ (∀ i, 0 ≤ i → i < 4 → M' 157 (M 156 1 + i) = byt p1 i)) → Q z M') : qX11_sign p1 M Q := by
  unfold qX11_sign qX9_addFour
  intro x1 e1 _
  have b1 : 0 ≤ x1 ∧ x1 ≤ 80 := by rw [e1]; exact bx_c156_1.mp (hI.bx _ _)
  refine ⟨⟨by omega, by omega⟩, ⟨fun c => ⟨40, ?_⟩, fun c => ?_⟩⟩
  · refine gX9_addFour_C (L := x1) (M0 := M) ?_ _ _ _ hI (by omega) (fun _ _ _ => rfl) (fun i a q => by omega) (by omega)
    intro M' i' h' k0 k1 _ _
    refine ⟨fun q => absurd q (by decide), fun _ => ?_⟩
    intro x3 e3 _
    exact hQ _ _ i' (Or.inr ⟨by omega, by rw [e3, h', e1], by rw [h', e1], by rw [← e1]; exact k0, by rw [← e1]; exact k1⟩)
  · intro _ _
    exact ⟨fun _ => hQ _ _ hI (Or.inl ⟨by omega, rfl, rfl, fun _ => rfl⟩), fun q => absurd rfl q⟩
theorem gX12_sign_C {p1 b L : Int} {X53 : Mem → Prop} {Q : Int → Mem → Prop} {M0 : Mem} (hX : ∀ M' : Mem, IM b M' → M' 1 14 = L → (∀ j, 0 ≤ j → j < L → M' 7 j = M0 7 j) → (∀ i, 0 ≤ i → i < 4 → M' 7 (L + i) = byt p1 i) → X53 M') : ∀ (n : Nat) (v2 : Int) (M : Mem), IM b M → M 1 14 = L → (∀ j, 0 ≤ j → j < L → M 7 j = M0 7 j) → (∀ i, 0 ≤ i → i < v2 → M 7 (L + i) = byt p1 i) → (0 ≤ v2 ∧ v2 ≤ 4 ∧ L ≤ 76) → 4 - v2 < (n : Int) → qX12_sign_L18 p1 X53 Q n v2 M := by
  intro n
  induction n with
  | zero => intro v2 M hI hL h0 h1 hv hm; exact absurd hm (by omega)
  | succ n ih =>
    intro v2 M hI hL h0 h1 hv hm
    rw [qX12_sign_L18]
    refine ⟨⟨by omega, by omega⟩, ⟨fun c => hX _ hI hL h0 (fun i a q => h1 i a (by omega)), fun c => ?_⟩⟩
    intro x6 e6 _ x7 e7 _ x8 e8 _
    have b6 : 0 ≤ x6 ∧ x6 ≤ 80 := by rw [e6]; exact bm_c1_14.mp (hI.bx _ _)
    have f8 := aI_255 x7
    rw [← e8] at f8
    refine ⟨by omega, by omega, ?_⟩
    intro M11 h11
    refine ih _ _ (by rw [h11]; exact hI.up (by omega) (bm_c7.mpr ⟨by omega, by omega⟩)) (by rw [h11, up2_n (by decide)]; exact hL) ?_ ?_ (by omega) (by omega)
    · intro j a q
      rw [h11, up2_j (by omega)]
      exact h0 j a q
    · intro i a q
      rw [h11]
      by_cases ci : i = v2
      · rw [ci, show L + v2 = x6 + v2 from by omega, up2_s, e8, e7]
        rfl
      · rw [up2_j (by omega)]
        exact h1 i a (by omega)
theorem gX12_signC {p1 b : Int} {M : Mem} {Q : Int → Mem → Prop} (hI : IM b M) (hQ : ∀ (z : Int) (M' : Mem), IM b M' → (77 ≤ M 1 14 ∧ z = -1 ∧ M' 1 14 = M 1 14 ∧ (∀ j, M' 7 j = M 7 j) ∨ M 1 14 ≤ 76 ∧ z = M 1 14 + 4 ∧ M' 1 14 = M 1 14 + 4 ∧ (∀ j, 0 ≤ j → j < M 1 14 → M' 7 j = M 7 j) ∧ (∀ i, 0 ≤ i → i < 4 → M' 7 (M 1 14 + i) = byt p1 i)) → Q z M') : qX12_sign p1 M Q := by
  unfold qX12_sign
  intro M1 h1 x2 e2 _
  have i1 : IM b M1 := by rw [h1]; exact hI.up (by omega) (by simp [BM])
  have f2 : x2 = M 1 14 := by rw [e2, h1, up2_j (by decide)]
  have b2 : 0 ≤ x2 ∧ x2 ≤ 80 := by rw [e2]; exact bm_c1_14.mp (i1.bx _ _)
  have g1 : M1 1 14 = M 1 14 := by rw [h1, up2_j (by decide)]
  refine ⟨fun c => ⟨5, ?_⟩, fun c => hQ _ _ i1 (Or.inl ⟨by omega, rfl, g1, fun j => by rw [h1, up2_n (by decide)]⟩)⟩
  refine gX12_sign_C (b := b) (L := M 1 14) (M0 := M) ?_ _ _ _ i1 g1 (fun j _ _ => by rw [h1, up2_n (by decide)]) (fun i a q => by omega) (by omega) (by omega)
  intro M' i' h' k0 k1 x13 e13 _
  refine ⟨⟨by omega, by omega⟩, ?_⟩
  intro M15 h15 x16 e16 _
  have k15 : M15 1 14 = M 1 14 + 4 := by rw [h15, up2_s]; omega
  exact hQ _ _ (by rw [h15]; exact i'.up (by omega) (bm_c1_14.mpr ⟨by omega, by omega⟩)) (Or.inr ⟨by omega, by rw [e16, k15], k15, fun j a q => by rw [h15, up2_n (by decide)]; exact k0 j a q, fun i a q => by rw [h15, up2_n (by decide)]; exact k1 i a q⟩)
-- avenue: the first sign that can't stand there
def vA (c : Int) : Prop := c = 46 ∨ c = 99
def AV (f : Int → Int) (len q : Int) : Prop := (0 ≤ q ∧ q ≤ len ∧ q ≤ 30) ∧ (∀ i, 0 ≤ i → i < q → vA (f i)) ∧ (q = len ∨ q = 30 ∨ ¬ vA (f q))
def avz (len q : Int) : Int := if q = len ∧ 4 ≤ q then q else -1 - q
theorem AV.uq {f g : Int → Int} {len p q : Int} (h : AV f len p) (h2 : AV g len q) (hf : ∀ j, 0 ≤ j → j < len → f j = g j) : p = q := by
  obtain ⟨a, b, c⟩ := h
  obtain ⟨a2, b2, c2⟩ := h2
  rcases Int.lt_or_le p q with h | h
  · exfalso
    have := b2 p a.1 h
    rcases c with c | c | c
    · omega
    · omega
    · exact c (by rw [hf p a.1 (by omega)]; exact this)
  · rcases Int.lt_or_le q p with h' | h'
    · exfalso
      have := b q a2.1 h'
      rcases c2 with c | c | c
      · omega
      · omega
      · exact c (by rw [← hf q a2.1 (by omega)]; exact this)
    · omega
theorem gX11_avenueFault_L2 {X48 : Mem → Prop} {Q : Int → Mem → Prop} {M : Mem} (hI : IX M) (hX : AV (M 157) (M 156 1) (M 156 1) → X48 M) (hQ : ∀ q : Int, q < M 156 1 → AV (M 157) (M 156 1) q → Q q M) : ∀ (n : Nat) (v1 : Int), (0 ≤ v1 ∧ v1 ≤ 30 ∧ v1 ≤ M 156 1) → (∀ i, 0 ≤ i → i < v1 → vA (M 157 i)) → 30 - v1 < (n : Int) → qX11_avenueFault_L2 X48 Q n v1 M := by
  intro n
  induction n with
  | zero => intro v1 hv ha hm; exact absurd hm (by omega)
  | succ n ih =>
    intro v1 hv ha hm
    rw [qX11_avenueFault_L2]
    intro x1 e1 _
    have b1 : 0 ≤ x1 ∧ x1 ≤ 80 := by rw [e1]; exact bx_c156_1.mp (hI.bx _ _)
    refine ⟨⟨by omega, by omega⟩, ⟨fun c => ?_, fun c => ?_⟩⟩
    · have e : M 156 1 = v1 := by omega
      rw [e] at hX
      exact hX ⟨by omega, ha, Or.inl rfl⟩
    · unfold qX9_signAt
      refine ⟨fun c2 => by omega, fun _ => ?_⟩
      intro x2 e2 _
      refine ⟨fun c3 => by omega, fun _ => ⟨by omega, by omega, ?_⟩⟩
      intro x6 e6 _ _
      refine ⟨fun c4 => hQ _ (by omega) ⟨by omega, ha, Or.inr (Or.inl c4)⟩, fun c4 => ⟨fun c5 => ?_, fun c5 => ⟨fun c6 => ?_, fun c6 => ?_⟩⟩⟩
      · refine ih _ (by omega) (fun i a q => ?_) (by omega)
        by_cases ci : i = v1
        · rw [ci, ← e6]; exact Or.inl c5
        · exact ha i a (by omega)
      · refine ih _ (by omega) (fun i a q => ?_) (by omega)
        by_cases ci : i = v1
        · rw [ci, ← e6]; exact Or.inr c6
        · exact ha i a (by omega)
      · refine hQ _ (by omega) ⟨by omega, ha, Or.inr (Or.inr (fun q => ?_))⟩
        rw [← e6] at q
        rcases q with q | q
        · exact c5 q
        · exact c6 q
-- takesOf
theorem gX12_takesOf_L2 {bs : List Int} {X38 : Int → Mem → Prop} {Q : Int → Mem → Prop} {b : Int} {M : Mem} (hI : IM b M) (hl : (bs.length : Int) ≤ 7) (hX : ∀ z : Int, M 1 15 < M 1 16 → (0 ≤ z ∧ z < bs.length) → bs.getD z.toNat 0 = M 7 (M 1 15) → X38 z M) (hQ : (M 1 16 ≤ M 1 15 ∨ ∀ i : Int, 0 ≤ i → i < bs.length → bs.getD i.toNat 0 ≠ M 7 (M 1 15)) → Q (-1) M) : ∀ (n : Nat) (v2 : Int), (0 ≤ v2 ∧ v2 ≤ bs.length) → (∀ i : Int, 0 ≤ i → i < v2 → bs.getD i.toNat 0 ≠ M 7 (M 1 15)) → (bs.length : Int) - v2 < (n : Int) → qX12_takesOf_L2 bs X38 Q n v2 M := by
  intro n
  induction n with
  | zero => intro v2 hv ha hm; exact absurd hm (by omega)
  | succ n ih =>
    intro v2 hv ha hm
    rw [qX12_takesOf_L2]
    intro x1 e1 _
    refine ⟨⟨by omega, by omega⟩, ⟨fun c => hQ (Or.inr (fun i a q => ha i a (by omega))), fun c => ?_⟩⟩
    intro x4 e4 _ x5 e5 _
    have b4 : 0 ≤ x4 ∧ x4 ≤ 80 := by rw [e4]; exact bm_c1_15.mp (hI.bx _ _)
    have b5 : 0 ≤ x5 ∧ x5 ≤ 80 := by rw [e5]; exact bm_c1_16.mp (hI.bx _ _)
    refine ⟨fun c2 => hQ (Or.inl (by omega)), fun c2 => ⟨by omega, by omega, ?_⟩⟩
    intro x9 e9 _ x10 e10 _
    refine ⟨by omega, by omega, ?_⟩
    intro x13 e13 _
    refine ⟨fun c3 => ih _ (by omega) (fun i a q => ?_) (by omega), fun c3 => hX _ (by omega) (by omega) (by rw [← e9, c3, e13, e10])⟩
    by_cases ci : i = v2
    · rw [ci, ← e9, ← e10, ← e13]; exact c3
    · exact ha i a (by omega)
theorem gX12_takesOf {bs : List Int} {Q : Int → Mem → Prop} {b : Int} {M : Mem} (hI : IM b M) (hl : (bs.length : Int) ≤ 7) (hQ : ∀ (z : Int) (M' : Mem), IM b M' → FrJ (fun k j => k = 1 ∧ j = 15) M M' → ((M 1 15 < M 1 16 ∧ (0 ≤ z ∧ z < bs.length) ∧ bs.getD z.toNat 0 = M 7 (M 1 15) ∧ M' 1 15 = M 1 15 + 1) ∨ (z = -1 ∧ M' 1 15 = M 1 15 ∧ (M 1 16 ≤ M 1 15 ∨ ∀ i : Int, 0 ≤ i → i < bs.length → bs.getD i.toNat 0 ≠ M 7 (M 1 15)))) → Q z M') : qX12_takesOf bs M Q := by
  unfold qX12_takesOf
  have b5 := bm_c1_16.mp (hI.bx 1 16)
  refine ⟨bs.length + 1, gX12_takesOf_L2 hI hl ?_ (fun h => hQ _ _ hI FrJ.rf (Or.inr ⟨rfl, rfl, h⟩)) _ _ (by omega) (fun i a q => by omega) (by omega)⟩
  intro z h1 h2 h3 x16 e16 _
  have b4 : 0 ≤ x16 ∧ x16 ≤ 80 := by rw [e16]; exact bm_c1_15.mp (hI.bx _ _)
  refine ⟨⟨by omega, by omega⟩, ?_⟩
  intro M18 h18
  refine ⟨⟨by omega, by omega⟩, hQ _ _ (by rw [h18]; exact hI.up (by omega) (bm_c1_15.mpr ⟨by omega, by omega⟩)) (by rw [h18]; exact FrJ.rf.up ⟨rfl, rfl⟩) (Or.inl ⟨h1, h2, h3, by rw [h18, up2_s, e16]⟩)⟩
theorem gX12_begins {p1 b : Int} {M : Mem} {Q : Int → Mem → Prop} (hI : IM b M) (hp : 0 ≤ p1 ∧ p1 ≤ 80) (hQ : ∀ M' : Mem, IM b M' → FrJ (fun k j => k = 1 ∧ (j = 14 ∨ j = 15 ∨ j = 16 ∨ j = 17)) M M' → M' 1 15 = 0 → M' 1 16 = min (M 1 14) p1 → M' 1 17 = 0 → M' 1 14 = 0 → Q (M 1 14) M') : qX12_begins p1 M Q := by
  have b14 := bm_c1_14.mp (hI.bx 1 14)
  unfold qX12_begins
  intro x1 e1 _ M2 h2 M3 h3 M4 h4 x5 e5 _ M6 h6
  have i2 : IM b M2 := by rw [h2]; exact hI.up (by omega) (bm_c1_14.mpr (by decide))
  have i3 : IM b M3 := by rw [h3]; exact i2.up (by omega) (bm_c1_15.mpr (by decide))
  have i4 : IM b M4 := by rw [h4]; exact i3.up (by omega) (by simp [BM])
  have i6 : IM b M6 := by rw [h6]; exact i4.up (by omega) (bm_c1_16.mpr ⟨by omega, by omega⟩)
  rw [e1]
  refine hQ _ i6 ?_ ?_ ?_ ?_ ?_
  · rw [h6, h4, h3, h2]
    exact (((FrJ.rf.up (by omega)).up (by omega)).up (by omega)).up (by omega)
  · rw [h6, up2_j (by decide), h4, up2_j (by decide), h3, up2_s]
  · rw [h6, up2_s, e5, e1]
  · rw [h6, up2_j (by decide), h4, up2_s]
  · rw [h6, up2_j (by decide), h4, up2_j (by decide), h3, up2_j (by decide), h2, up2_s]
end
section
/-! READING THE TEXT: digits and numbers, the same on both sides -/
def vW (c : Int) : Prop := 48 ≤ c ∧ c ≤ 57
def nmV (f : Int → Int) (a : Int) : Nat → Int
  | 0 => 0
  | k + 1 => 10 * nmV f a k + f (a + k) - 48
theorem nmV_cg {f g : Int → Int} {a : Int} (k : Nat) (h : ∀ i : Int, 0 ≤ i → i < k → f (a + i) = g (a + i)) : nmV f a k = nmV g a k := by
  induction k with
  | zero => rfl
  | succ k ih =>
    unfold nmV
    rw [ih (fun i p q => h i p (by omega)), h k (by omega) (by omega)]
theorem nmV_b {f : Int → Int} {a : Int} (k : Nat) (h : ∀ i : Int, 0 ≤ i → i < k → vW (f (a + i))) : 0 ≤ nmV f a k ∧ (k ≤ 1 → nmV f a k ≤ 9) ∧ (k ≤ 2 → nmV f a k ≤ 99) ∧ (k ≤ 3 → nmV f a k ≤ 999) := by
  induction k with
  | zero => exact ⟨Int.le_refl _, fun _ => by show (0 : Int) ≤ 9; decide, fun _ => by show (0 : Int) ≤ 99; decide, fun _ => by show (0 : Int) ≤ 999; decide⟩
  | succ k ih =>
    have i := ih (fun i p q => h i p (by omega))
    have d := h k (by omega) (by omega)
    have d1 : 48 ≤ f (a + k) := d.1
    have d2 : f (a + k) ≤ 57 := d.2
    have z0 : k = 0 → nmV f a k = 0 := fun e => by rw [e]; rfl
    unfold nmV
    refine ⟨by omega, fun q => ?_, fun q => ?_, fun q => ?_⟩
    · have := z0 (by omega)
      omega
    · have := i.2.1 (by omega)
      omega
    · have := i.2.2.1 (by omega)
      omega
theorem nmV_s {f : Int → Int} {a k : Int} (h : 0 ≤ k) : nmV f a (k + 1).toNat = 10 * nmV f a k.toNat + f (a + k) - 48 := by
  rw [show (k + 1).toNat = k.toNat + 1 from by omega]
  show 10 * nmV f a k.toNat + f (a + (k.toNat : Nat)) - 48 = _
  rw [show ((k.toNat : Nat) : Int) = k from by omega]
/-- a number of p digits at most stands at a: z (-1: none), a' is behind it -/
def NUM (f : Int → Int) (a t p z a' : Int) : Prop := (z = -1 ∧ a' = a ∧ ¬ (a < t ∧ vW (f a))) ∨ (∃ k : Int, (1 ≤ k ∧ k ≤ p) ∧ a' = a + k ∧ a + k ≤ t ∧ (∀ i, 0 ≤ i → i < k → vW (f (a + i))) ∧ (k = p ∨ t ≤ a + k ∨ ¬ vW (f (a + k))) ∧ z = nmV f a k.toNat)
theorem NUM.b {f : Int → Int} {a t p z a' : Int} (h : NUM f a t p z a') (hp : p ≤ 3) : -1 ≤ z ∧ z ≤ 999 ∧ (p = 1 → z ≤ 9) ∧ (p = 2 → z ≤ 99) ∧ a ≤ a' ∧ (a ≤ t → a' ≤ t) ∧ (0 ≤ z → a + 1 ≤ a') ∧ (z < 0 → a' = a) := by
  rcases h with ⟨h1, h2, _⟩ | ⟨k, hk, h2, h3, h4, _, h6⟩
  · exact ⟨by omega, by omega, fun _ => by omega, fun _ => by omega, by omega, fun _ => by omega, fun _ => by omega, fun _ => by omega⟩
  · have b := nmV_b (f := f) (a := a) k.toNat (fun i p q => h4 i p (by omega))
    rw [← h6] at b
    exact ⟨by omega, b.2.2.2 (by omega), fun e => b.2.1 (by omega), fun e => b.2.2.1 (by omega), by omega, fun _ => by omega, fun _ => by omega, fun _ => by omega⟩
theorem NUM.uq {f g : Int → Int} {a t p z a' z2 a2 : Int} (h : NUM f a t p z a') (h2 : NUM g a t p z2 a2) (hf : ∀ j, a ≤ j → j < t → f j = g j) : z = z2 ∧ a' = a2 := by
  rcases h with ⟨h1, h3, hn⟩ | ⟨k, hk, h3, h4, h5, h6, h7⟩
  · rcases h2 with ⟨g1, g3, gn⟩ | ⟨k2, gk, g3, g4, g5, g6, g7⟩
    · omega
    · exfalso
      have := g5 0 (by omega) (by omega)
      rw [show a + 0 = a from by omega] at this
      exact hn ⟨by omega, by rw [hf a (by omega) (by omega)]; exact this⟩
  · rcases h2 with ⟨g1, g3, gn⟩ | ⟨k2, gk, g3, g4, g5, g6, g7⟩
    · exfalso
      have := h5 0 (by omega) (by omega)
      rw [show a + 0 = a from by omega] at this
      exact gn ⟨by omega, by rw [← hf a (by omega) (by omega)]; exact this⟩
    · have ek : k = k2 := by
        rcases Int.lt_or_le k k2 with w | w
        · exfalso
          have := g5 k (by omega) w
          rcases h6 with c | c | c
          · omega
          · omega
          · exact c (by rw [hf (a + k) (by omega) (by omega)]; exact this)
        · rcases Int.lt_or_le k2 k with w2 | w2
          · exfalso
            have := h5 k2 (by omega) w2
            rcases g6 with c | c | c
            · omega
            · omega
            · exact c (by rw [← hf (a + k2) (by omega) (by omega)]; exact this)
          · omega
      subst ek
      refine ⟨?_, by omega⟩
      rw [h7, g7]
      exact nmV_cg _ (fun i p q => hf _ (by omega) (by omega))
abbrev kA (k : Nat) (j : Int) : Prop := k = 156 ∧ j = 2
theorem gX9_look {M : Mem} {Q : Int → Mem → Prop} (hI : IX M) (hQ : ∀ z : Int, (M 156 2 < M 156 3 ∧ z = M 157 (M 156 2) ∨ M 156 3 ≤ M 156 2 ∧ z = -1) → Q z M) : qX9_look M Q := by
  unfold qX9_look
  intro x1 e1 _ x2 e2 _
  have b1 : 0 ≤ x1 ∧ x1 ≤ 80 := by rw [e1]; exact bx_c156_2.mp (hI.bx _ _)
  have b2 : 0 ≤ x2 ∧ x2 ≤ 80 := by rw [e2]; exact bx_c156_3.mp (hI.bx _ _)
  refine ⟨fun c => hQ _ (Or.inr ⟨by omega, rfl⟩), fun c => ?_⟩
  intro x4 e4 _
  refine ⟨by omega, by omega, ?_⟩
  intro x7 e7 _
  exact hQ _ (Or.inl ⟨by omega, by rw [e7, e4]⟩)
theorem gX9_pass {M : Mem} {Q : Mem → Prop} (hI : IX M) (hQ : ∀ M' : Mem, IX M' → Ks kA M M' → (M 156 2 < M 156 3 ∧ M' 156 2 = M 156 2 + 1 ∨ M 156 3 ≤ M 156 2 ∧ M' 156 2 = M 156 2) → Q M') : qX9_pass M Q := by
  unfold qX9_pass
  intro x1 e1 _ x2 e2 _
  have b2 : 0 ≤ x2 ∧ x2 ≤ 80 := by rw [e2]; exact bx_c156_3.mp (hI.bx _ _)
  refine ⟨fun c => hQ _ hI Ks.rf (Or.inr ⟨by omega, rfl⟩), fun c => ?_⟩
  intro x4 e4 _
  have b4 : 0 ≤ x4 ∧ x4 ≤ 80 := by rw [e4]; exact bx_c156_2.mp (hI.bx _ _)
  refine ⟨⟨by omega, by omega⟩, ?_⟩
  intro M6 h6
  exact hQ _ (by rw [h6]; exact hI.up (by decide) (bx_c156_2.mpr ⟨by omega, by omega⟩)) (by rw [h6]; exact Ks.rf.wr ⟨rfl, rfl⟩) (Or.inl ⟨by omega, by rw [h6, up2_s, e4]⟩)
theorem gX9_back {M : Mem} {Q : Mem → Prop} (hI : IX M) (hQ : ∀ M' : Mem, IX M' → Ks kA M M' → (0 < M 156 2 → M' 156 2 = M 156 2 - 1) → Q M') : qX9_back M Q := by
  unfold qX9_back
  intro x1 e1 _
  refine ⟨fun c => hQ _ hI Ks.rf (fun q => by omega), fun c => ?_⟩
  intro x3 e3 _
  have b3 : 0 ≤ x3 ∧ x3 ≤ 80 := by rw [e3]; exact bx_c156_2.mp (hI.bx _ _)
  refine ⟨⟨by omega, by omega⟩, ?_⟩
  intro M5 h5
  exact hQ _ (by rw [h5]; exact hI.up (by decide) (bx_c156_2.mpr ⟨by omega, by omega⟩)) (by rw [h5]; exact Ks.rf.wr ⟨rfl, rfl⟩) (fun _ => by rw [h5, up2_s, e3])
theorem gX9_digit {M : Mem} {Q : Int → Mem → Prop} (hI : IX M) (hQ : ∀ (z : Int) (M' : Mem), IX M' → Ks kA M M' → ((M 156 2 < M 156 3 ∧ vW (M 157 (M 156 2))) ∧ z = M 157 (M 156 2) - 48 ∧ M' 156 2 = M 156 2 + 1 ∨ ¬ (M 156 2 < M 156 3 ∧ vW (M 157 (M 156 2))) ∧ z = -1 ∧ M' 156 2 = M 156 2) → Q z M') : qX9_digit M Q := by
  unfold qX9_digit
  refine gX9_look hI ?_
  intro x1 p1 _
  have hn : ¬ (48 ≤ x1 ∧ x1 ≤ 57) → Q (-1) M := fun w => hQ _ _ hI Ks.rf (Or.inr ⟨fun u => by
    have a : 48 ≤ M 157 (M 156 2) := u.2.1
    have b : M 157 (M 156 2) ≤ 57 := u.2.2
    omega, rfl, rfl⟩)
  refine ⟨fun c => hn (by omega), fun c => ⟨fun c2 => ?_, fun c2 => hn (by omega)⟩⟩
  refine gX9_pass hI ?_
  intro M4 i4 k4 p4
  refine ⟨⟨by omega, by omega⟩, hQ _ _ i4 k4 (Or.inl ⟨⟨by omega, ⟨by omega, by omega⟩⟩, by omega, by omega⟩)⟩
theorem gX9_number_L10 {p1 : Int} {Q : Int → Mem → Prop} {M0 : Mem} (hp : 1 ≤ p1 ∧ p1 ≤ 3) (hQ : ∀ (z : Int) (M' : Mem), IX M' → Ks kA M0 M' → NUM (M0 157) (M0 156 2) (M0 156 3) p1 z (M' 156 2) → Q z M') : ∀ (n : Nat) (v2 v3 v4 : Int) (M : Mem), IX M → Ks kA M0 M → (v3 = -1 ∧ v4 ≤ p1 + 1 ∧ NUM (M0 157) (M0 156 2) (M0 156 3) p1 v2 (M 156 2) ∨ 0 ≤ v3 ∧ v3 ≤ 9 ∧ M 156 2 = M0 156 2 + v4 ∧ M0 156 2 + v4 ≤ M0 156 3 ∧ (∀ i, 0 ≤ i → i < v4 → vW (M0 157 (M0 156 2 + i))) ∧ v2 = nmV (M0 157) (M0 156 2) v4.toNat ∧ v4 ≤ p1) → (1 ≤ v4) → (p1 - v4 < (n : Int) ∧ 0 < n) → qX9_number_L10 p1 Q n v2 v3 v4 M := by
  intro n
  induction n with
  | zero => intro v2 v3 v4 M hI hK hs hv hm; exact absurd hm.2 (by decide)
  | succ n ih =>
    intro v2 v3 v4 M hI hK hs hv hm
    rw [qX9_number_L10]
    have fin : v3 = -1 ∨ p1 ≤ v4 ∧ v4 ≤ p1 → iR v2 ∧ Q v2 M := by
      intro hf
      have hN : NUM (M0 157) (M0 156 2) (M0 156 3) p1 v2 (M 156 2) := by
        rcases hs with h | h
        · exact h.2.2
        · exact Or.inr ⟨v4, by omega, h.2.2.1, h.2.2.2.1, h.2.2.2.2.1, Or.inl (by omega), h.2.2.2.2.2.1⟩
      have b := hN.b hp.2
      exact ⟨⟨by omega, by omega⟩, hQ _ _ hI hK hN⟩
    have hv4 : v4 ≤ p1 + 1 := by rcases hs with h | h <;> omega
    by_cases cv : v3 = -1
    · refine ⟨⟨by omega, by omega⟩, ⟨fun c => fin (Or.inl cv), fun c => ⟨⟨by omega, by omega⟩, ⟨fun _ => fin (Or.inl cv), fun c2 => absurd cv c2⟩⟩⟩⟩
    · rcases hs with h | h
      · exact absurd h.1 cv
      · obtain ⟨h0, h9, ha, ht, hd, h2, hp4⟩ := h
        refine ⟨⟨by omega, by omega⟩, ⟨fun c => fin (Or.inr ⟨c, hp4⟩), fun c => ⟨⟨by omega, by omega⟩, ⟨fun c2 => absurd c2 cv, fun _ => ?_⟩⟩⟩⟩
        refine gX9_digit hI ?_
        intro x8 M8 i8 k8 p8 _
        have k156 : M 156 3 = M0 156 3 := hK 156 3 (by omega)
        have k157 : M 157 (M 156 2) = M0 157 (M0 156 2 + v4) := by rw [ha]; exact hK 157 _ (by omega)
        have K8 : Ks kA M0 M8 := hK.tr k8
        rw [k156, k157, ha] at p8
        refine ⟨fun c3 => ?_, fun c3 => ?_⟩
        · rcases p8 with q | q
          · have w1 : 48 ≤ M0 157 (M0 156 2 + v4) := q.1.2.1
            have w2 : M0 157 (M0 156 2 + v4) ≤ 57 := q.1.2.2
            refine ih _ _ _ _ i8 K8 (Or.inr ⟨by omega, by omega, by omega, by omega, fun i a w => ?_, ?_, by omega⟩) (by omega) ⟨by omega, by omega⟩
            · by_cases ci : i = v4
              · rw [ci]; exact q.1.2
              · exact hd i a (by omega)
            · rw [nmV_s (by omega), ← h2]
              omega
          · omega
        · rcases p8 with q | q
          · have w1 : 48 ≤ M0 157 (M0 156 2 + v4) := q.1.2.1
            omega
          · refine ih _ _ _ _ i8 K8 (Or.inl ⟨c3, by omega, Or.inr ⟨v4, by omega, by omega, ht, hd, ?_, h2⟩⟩) (by omega) ⟨by omega, by omega⟩
            by_cases ct : M0 156 3 ≤ M0 156 2 + v4
            · exact Or.inr (Or.inl ct)
            · exact Or.inr (Or.inr (fun w => q.1 ⟨by omega, w⟩))
theorem gX9_number {p1 : Int} {M : Mem} {Q : Int → Mem → Prop} (hI : IX M) (hp : 1 ≤ p1 ∧ p1 ≤ 3) (hQ : ∀ (z : Int) (M' : Mem), IX M' → Ks kA M M' → NUM (M 157) (M 156 2) (M 156 3) p1 z (M' 156 2) → Q z M') : qX9_number p1 M Q := by
  unfold qX9_number
  refine gX9_digit hI ?_
  intro x1 M1 i1 k1 p1' _
  refine ⟨4, gX9_number_L10 hp hQ _ _ _ _ _ i1 k1 ?_ (by omega) ⟨by omega, by omega⟩⟩
  rcases p1' with q | q
  · have w1 : 48 ≤ M 157 (M 156 2) := q.1.2.1
    have w2 : M 157 (M 156 2) ≤ 57 := q.1.2.2
    refine Or.inr ⟨by omega, by omega, q.2.2, by omega, fun i a w => ?_, ?_, by omega⟩
    · rw [show M 156 2 + i = M 156 2 from by omega]
      exact q.1.2
    · show x1 = 10 * 0 + M 157 (M 156 2 + ((0 : Nat) : Int)) - 48
      rw [show M 156 2 + ((0 : Nat) : Int) = M 156 2 from by omega]
      omega
  · refine Or.inl ⟨q.2.1, by omega, Or.inl ⟨q.2.1, q.2.2, q.1⟩⟩
abbrev k15 (k : Nat) (j : Int) : Prop := k = 1 ∧ j = 15
theorem gX12_number_L13 {p1 : Int} {Q : Int → Mem → Prop} {b : Int} {M0 : Mem} (hp : 1 ≤ p1 ∧ p1 ≤ 3) (hQ : ∀ (z : Int) (M' : Mem), IM b M' → FrJ (fun k j => k = 1 ∧ j = 15) M0 M' → NUM (M0 7) (M0 1 15) (M0 1 16) p1 z (M' 1 15) → Q z M') : ∀ (n : Nat) (v2 v3 : Int) (M : Mem), IM b M → FrJ (fun k j => k = 1 ∧ j = 15) M0 M → (0 ≤ v3 ∧ v3 ≤ p1) → M 1 15 = M0 1 15 + v3 → M0 1 15 + v3 ≤ M0 1 16 → (∀ i, 0 ≤ i → i < v3 → vW (M0 7 (M0 1 15 + i))) → v2 = nmV (M0 7) (M0 1 15) v3.toNat → (v3 = 0 → M0 1 15 < M0 1 16 ∧ vW (M0 7 (M0 1 15))) → p1 - v3 < (n : Int) → qX12_number_L13 p1 Q n v2 v3 M := by
  intro n
  induction n with
  | zero => intro v2 v3 M hI hF hv ha ht hd h2 h0 hm; exact absurd hm (by omega)
  | succ n ih =>
    intro v2 v3 M hI hF hv ha ht hd h2 h0 hm
    have bb := nmV_b (f := M0 7) (a := M0 1 15) v3.toNat (fun i a w => hd i a (by omega))
    rw [← h2] at bb
    have b3 := bb.2.2.2 (by omega)
    rw [qX12_number_L13]
    refine ⟨⟨by omega, by omega⟩, ⟨fun c => ⟨⟨by omega, by omega⟩, hQ _ _ hI hF (Or.inr ⟨v3, by omega, ha, ht, hd, Or.inl (by omega), h2⟩)⟩, fun c => ?_⟩⟩
    refine sX12_isDigit hI ?_
    intro x6 p6 _ _
    have k16 : M 1 16 = M0 1 16 := hF 1 16 (by omega)
    have k7 : M 7 (M 1 15) = M0 7 (M0 1 15 + v3) := by rw [ha]; exact hF 7 _ (by omega)
    rw [k7, k16, ha] at p6
    have b16 := bm_c1_16.mp (hI.bx 1 16)
    rw [k16] at b16
    refine ⟨fun c2 => ⟨⟨by omega, by omega⟩, hQ _ _ hI hF ?_⟩, fun c2 => ?_⟩
    · have n6 := p6.2.1 c2
      by_cases c0 : v3 = 0
      · exfalso
        have := h0 c0
        rw [c0, show M0 1 15 + 0 = M0 1 15 from by omega] at n6
        exact n6 ⟨this.1, b16.2, this.2.1, this.2.2⟩
      · refine Or.inr ⟨v3, by omega, ha, ht, hd, ?_, h2⟩
        by_cases ct : M0 1 16 ≤ M0 1 15 + v3
        · exact Or.inr (Or.inl ct)
        · exact Or.inr (Or.inr (fun w => n6 ⟨by omega, b16.2, w.1, w.2⟩))
    · have d6 := p6.1 (by omega)
      intro x9 e9 _
      have f9 : x9 = M0 1 15 + v3 := by rw [e9, ha]
      have b9 : 0 ≤ x9 ∧ x9 ≤ 80 := by rw [e9]; exact bm_c1_15.mp (hI.bx _ _)
      refine ⟨by omega, by omega, ?_⟩
      intro x12 e12 _ x13 e13 _
      refine ⟨⟨by omega, by omega⟩, ?_⟩
      intro M15 hE
      have f12 : x12 = M0 7 (M0 1 15 + v3) := by rw [e12, f9]; exact hF 7 _ (by omega)
      refine ih _ _ _ (by rw [hE]; exact hI.up (by omega) (bm_c1_15.mpr ⟨by omega, by omega⟩)) (by rw [hE]; exact hF.up ⟨rfl, rfl⟩) (by omega) (by rw [hE, up2_s, e13, ha]; omega) (by omega) (fun i a w => ?_) ?_ (fun q => by omega) (by omega)
      · by_cases ci : i = v3
        · rw [ci]; exact ⟨d6.2.2.1, d6.2.2.2⟩
        · exact hd i a (by omega)
      · rw [nmV_s hv.1, ← h2, f12]
theorem gX12_number {p1 : Int} {Q : Int → Mem → Prop} {b : Int} {M : Mem} (hI : IM b M) (hp : 1 ≤ p1 ∧ p1 ≤ 3) (hQ : ∀ (z : Int) (M' : Mem), IM b M' → FrJ (fun k j => k = 1 ∧ j = 15) M M' → NUM (M 7) (M 1 15) (M 1 16) p1 z (M' 1 15) → Q z M') : qX12_number p1 M Q := by
  unfold qX12_number
  refine sX12_isDigit hI ?_
  intro x1 p _ _
  have b16 := bm_c1_16.mp (hI.bx 1 16)
  refine ⟨fun c => ?_, fun c => ?_⟩
  · have d := p.1 (by omega)
    exact ⟨4, gX12_number_L13 hp hQ _ _ _ _ hI FrJ.rf (by omega) (by omega) (by omega) (fun i a w => by omega) rfl (fun _ => ⟨d.1, d.2.2.1, d.2.2.2⟩) (by omega)⟩
  · exact hQ _ _ hI FrJ.rf (Or.inl ⟨rfl, rfl, fun w => p.2.1 c ⟨w.1, b16.2, w.2.1, w.2.2⟩⟩)
-- weather: the first sign that can't stand there
def WV (f : Int → Int) (len q : Int) : Prop := (0 ≤ q ∧ q ≤ len ∧ q ≤ 20) ∧ (∀ i, 0 ≤ i → i < q → vW (f i)) ∧ (q = len ∨ q = 20 ∨ ¬ vW (f q))
def wvz (len q : Int) : Int := if q = len ∧ 1 ≤ q then q else -1 - q
theorem WV.uq {f g : Int → Int} {len p q : Int} (h : WV f len p) (h2 : WV g len q) (hf : ∀ j, 0 ≤ j → j < len → f j = g j) : p = q := by
  obtain ⟨a, b, c⟩ := h
  obtain ⟨a2, b2, c2⟩ := h2
  rcases Int.lt_or_le p q with h | h
  · exfalso
    have := b2 p a.1 h
    rcases c with c | c | c
    · omega
    · omega
    · exact c (by rw [hf p a.1 (by omega)]; exact this)
  · rcases Int.lt_or_le q p with h' | h'
    · exfalso
      have := b q a2.1 h'
      rcases c2 with c | c | c
      · omega
      · omega
      · exact c (by rw [← hf q a2.1 (by omega)]; exact this)
    · omega
theorem gX11_weatherFault_L2 {X48 : Mem → Prop} {Q : Int → Mem → Prop} {M : Mem} (hI : IX M) (hX : WV (M 157) (M 156 1) (M 156 1) → X48 M) (hQ : ∀ q : Int, q < M 156 1 → WV (M 157) (M 156 1) q → Q q M) : ∀ (n : Nat) (v1 : Int), (0 ≤ v1 ∧ v1 ≤ 20 ∧ v1 ≤ M 156 1) → (∀ i, 0 ≤ i → i < v1 → vW (M 157 i)) → 20 - v1 < (n : Int) → qX11_weatherFault_L2 X48 Q n v1 M := by
  intro n
  induction n with
  | zero => intro v1 hv ha hm; exact absurd hm (by omega)
  | succ n ih =>
    intro v1 hv ha hm
    rw [qX11_weatherFault_L2]
    intro x1 e1 _
    have b1 : 0 ≤ x1 ∧ x1 ≤ 80 := by rw [e1]; exact bx_c156_1.mp (hI.bx _ _)
    refine ⟨⟨by omega, by omega⟩, ⟨fun c => ?_, fun c => ?_⟩⟩
    · have e : M 156 1 = v1 := by omega
      rw [e] at hX
      exact hX ⟨by omega, ha, Or.inl rfl⟩
    · unfold qX9_signAt
      refine ⟨fun c2 => by omega, fun _ => ?_⟩
      intro x2 e2 _
      refine ⟨fun c3 => by omega, fun _ => ⟨by omega, by omega, ?_⟩⟩
      intro x6 e6 _ _
      have hn : ¬ (48 ≤ x6 ∧ x6 ≤ 57) → WV (M 157) (M 156 1) v1 := fun q => ⟨by omega, ha, Or.inr (Or.inr (fun w => q (by rw [e6]; exact w)))⟩
      refine ⟨fun c4 => hQ _ (by omega) ⟨by omega, ha, Or.inr (Or.inl c4)⟩, fun c4 => ⟨fun c5 => hQ _ (by omega) (hn (by omega)), fun c5 => ⟨fun c6 => ?_, fun c6 => hQ _ (by omega) (hn (by omega))⟩⟩⟩
      refine ih _ (by omega) (fun i a q => ?_) (by omega)
      by_cases ci : i = v1
      · rw [ci, ← e6]; exact ⟨by omega, c6⟩
      · exact ha i a (by omega)
end
section
/-! THE STEP, PURE: on a row of 38 numbers (cells 0 .., ranks 6 .., arrived 12, places 13 .., followed 21 .., graves 29 .., step 37) -/
theorem upS (f : Int → Int) (j v : Int) : up f j v j = v := by unfold up; rw [if_pos rfl]
theorem up_j {f : Int → Int} {j v i : Int} (h : i ≠ j) : up f j v i = f i := by unfold up; rw [if_neg h]
theorem up2_up (M : Mem) (k : Nat) (j v : Int) : up2 M k j v k = up (M k) j v := by unfold up2; rw [if_pos rfl]
def ab (x : Int) : Int := if 0 ≤ x then x else -x
theorem ab_e {x y : Int} (h1 : 0 ≤ x → y = x) (h2 : x < 0 → y = -x) : y = ab x := by
  unfold ab
  by_cases c : 0 ≤ x
  · rw [if_pos c]; exact h1 c
  · rw [if_neg c]; exact h2 (by omega)
theorem ab_b (x : Int) : 0 ≤ ab x ∧ (ab x = x ∨ ab x = -x) ∧ (0 ≤ x → ab x = x) ∧ (x < 0 → ab x = -x) := by
  unfold ab
  split <;> omega
/-- the last one of the first n that is on v -/
def onF (c : Int → Int) : Nat → Int → Int
  | 0, _ => -1
  | n + 1, v => if c n = v then (n : Int) else onF c n v
theorem onF_s {c : Int → Int} {i v : Int} (h : 0 ≤ i) : onF c (i + 1).toNat v = if c i = v then i else onF c i.toNat v := by
  rw [show (i + 1).toNat = i.toNat + 1 from by omega]
  show (if c (i.toNat : Nat) = v then ((i.toNat : Nat) : Int) else onF c i.toNat v) = _
  rw [show ((i.toNat : Nat) : Int) = i from by omega]
theorem onF_b (c : Int → Int) (n : Nat) (v : Int) : -1 ≤ onF c n v ∧ onF c n v < n := by
  induction n with
  | zero => exact ⟨by show (-1 : Int) ≤ -1; decide, by show (-1 : Int) < 0; decide⟩
  | succ n ih =>
    unfold onF
    split <;> omega
theorem onF_c {c : Int → Int} {n : Nat} {v : Int} (h : 0 ≤ onF c n v) : c (onF c n v) = v := by
  induction n with
  | zero => exact absurd h (by show ¬ (0 : Int) ≤ -1; decide)
  | succ n ih =>
    unfold onF at h ⊢
    by_cases e : c n = v
    · rw [if_pos e]; exact e
    · rw [if_neg e] at h ⊢; exact ih h
theorem onF_n {c : Int → Int} {n : Nat} {v : Int} (h : onF c n v < 0) : ∀ i : Int, 0 ≤ i → i < n → c i ≠ v := by
  induction n with
  | zero => intro i a q; omega
  | succ n ih =>
    intro i a q
    unfold onF at h
    by_cases e : c n = v
    · rw [if_pos e] at h; omega
    · rw [if_neg e] at h
      by_cases ci : i = n
      · rw [ci]; exact e
      · exact ih h i a (by omega)
theorem onF_z {c : Int → Int} {n : Nat} {v : Int} (h : ∀ i : Int, 0 ≤ i → i < n → c i ≠ v) : onF c n v = -1 := by
  induction n with
  | zero => rfl
  | succ n ih =>
    unfold onF
    rw [if_neg (h n (by omega) (by omega))]
    exact ih (fun i a q => h i a (by omega))
theorem onF_cg {c d : Int → Int} {n : Nat} {v : Int} (h : ∀ i : Int, 0 ≤ i → i < n → (c i = v ↔ d i = v)) : onF c n v = onF d n v := by
  induction n with
  | zero => rfl
  | succ n ih =>
    unfold onF
    have e := h n (by omega) (by omega)
    rw [ih (fun i a q => h i a (by omega))]
    by_cases q : c n = v
    · rw [if_pos q, if_pos (e.mp q)]
    · rw [if_neg q, if_neg (fun w => q (e.mpr w))]
/-- no two on one -/
def DST (c : Int → Int) (n : Int) : Prop := ∀ i j, 0 ≤ i → i < n → 0 ≤ j → j < n → c i = c j → 0 ≤ c i → i = j
theorem onF_u {c : Int → Int} {n : Nat} {v i : Int} (hd : DST c n) (h0 : 0 ≤ i) (h1 : i < n) (hv : c i = v) (hp : 0 ≤ v) : onF c n v = i := by
  have b := onF_b c n v
  by_cases h : 0 ≤ onF c n v
  · have e := onF_c h
    exact hd _ _ h b.2 h0 h1 (by rw [e, hv]) (by omega)
  · exact absurd hv (onF_n (by omega) i h0 h1)
def frF (c : Int → Int) (H : Nat) (g v : Int) : Nat → Int → Int
  | 0, m => m
  | n + 1, m => if g ≤ v + m then m else if v + m + 1 = g then frF c H g v n (m + 1) else if 0 ≤ onF c H (v + m + 1) then m else frF c H g v n (m + 1)
def nearF (c : Int → Int) (v : Int) : Nat → Int
  | 0 => -1
  | n + 1 => if 0 ≤ c n ∧ (nearF c v n < 0 ∨ ab (c n - v) < ab (c (nearF c v n) - v) ∨ (ab (c n - v) = ab (c (nearF c v n) - v) ∧ c (nearF c v n) < c n)) then (n : Int) else nearF c v n
theorem nearF_s {c : Int → Int} {v i : Int} (h : 0 ≤ i) : nearF c v (i + 1).toNat = if 0 ≤ c i ∧ (nearF c v i.toNat < 0 ∨ ab (c i - v) < ab (c (nearF c v i.toNat) - v) ∨ (ab (c i - v) = ab (c (nearF c v i.toNat) - v) ∧ c (nearF c v i.toNat) < c i)) then i else nearF c v i.toNat := by
  rw [show (i + 1).toNat = i.toNat + 1 from by omega]
  show (if 0 ≤ c (i.toNat : Nat) ∧ (nearF c v i.toNat < 0 ∨ ab (c (i.toNat : Nat) - v) < ab (c (nearF c v i.toNat) - v) ∨ (ab (c (i.toNat : Nat) - v) = ab (c (nearF c v i.toNat) - v) ∧ c (nearF c v i.toNat) < c (i.toNat : Nat))) then ((i.toNat : Nat) : Int) else nearF c v i.toNat) = _
  rw [show ((i.toNat : Nat) : Int) = i from by omega]
theorem nearF_b (c : Int → Int) (v : Int) (n : Nat) : -1 ≤ nearF c v n ∧ nearF c v n < n ∧ (0 ≤ nearF c v n → 0 ≤ c (nearF c v n)) := by
  induction n with
  | zero => exact ⟨by show (-1 : Int) ≤ -1; decide, by show (-1 : Int) < 0; decide, fun h => absurd h (by show ¬ (0 : Int) ≤ -1; decide)⟩
  | succ n ih =>
    unfold nearF
    split
    · rename_i h
      exact ⟨by omega, by omega, fun _ => h.1⟩
    · exact ⟨ih.1, by omega, ih.2.2⟩
def bitF (f : Int → Int) (x : Int) : Nat → Int
  | 0 => 0
  | n + 1 => if f n = x then oI (bitF f x n) (slI 1 n) else oI (bitF f x n) 0
theorem bitF_s {f : Int → Int} {x i : Int} (h : 0 ≤ i) : bitF f x (i + 1).toNat = if f i = x then oI (bitF f x i.toNat) (slI 1 i) else oI (bitF f x i.toNat) 0 := by
  rw [show (i + 1).toNat = i.toNat + 1 from by omega]
  show (if f (i.toNat : Nat) = x then oI (bitF f x i.toNat) (slI 1 (i.toNat : Nat)) else oI (bitF f x i.toNat) 0) = _
  rw [show ((i.toNat : Nat) : Int) = i from by omega]
theorem bitF_R (f : Int → Int) (x : Int) (n : Nat) : iR (bitF f x n) := by
  cases n with
  | zero => exact ⟨by show -2147483648 ≤ (0 : Int); decide, by show (0 : Int) ≤ 2147483647; decide⟩
  | succ n =>
    unfold bitF
    split
    · exact oI_R _ _
    · exact oI_R _ _
theorem bitF_cg {f g : Int → Int} {x : Int} {n : Nat} (h : ∀ i : Int, 0 ≤ i → i < n → f i = g i) : bitF f x n = bitF g x n := by
  induction n with
  | zero => rfl
  | succ n ih =>
    unfold bitF
    rw [ih (fun i a q => h i a (by omega)), h n (by omega) (by omega)]
def bc2 (p x2 : Int) : Int := aI (p - x2) 858993459 + aI (usI (p - x2) 2) 858993459
def bc7 (s : Int) : Int := aI (s + usI s 4) 252645135
def bcF (p : Int) : Int := aI ((bc7 (bc2 p (aI (usI p 1) 1431655765)) + usI (bc7 (bc2 p (aI (usI p 1) 1431655765))) 8) + usI (bc7 (bc2 p (aI (usI p 1) 1431655765)) + usI (bc7 (bc2 p (aI (usI p 1) 1431655765))) 8) 16) 63
theorem gJ6_bitCount {p0 : Int} {M : Mem} {Q : Int → Mem → Prop} (hQ : Q (bcF p0) M) : qJ6_bitCount_0f7a4 p0 M Q := by
  unfold qJ6_bitCount_0f7a4
  intro x1 e1 _ x2 e2 _ x3 e3 _ x4 e4 _ x5 e5 _ x6 e6 _ x7 e7 _ x8 e8 _ x9 e9 _ x10 e10 _
  have e : x10 = bcF p0 := by
    subst e1; subst e2; subst e3; subst e4; subst e5; subst e6; subst e7; subst e8; subst e9
    rw [e10]
    rfl
  rw [e]
  exact hQ
-- the rule
def wkF (o a b : Int) : Int := if o = 0 then (if a < b then 1 else 0) else if o = 1 then (if b < a then 1 else 0) else if o = 2 then (if a = b then 1 else 0) else if o = 3 then w32 (a + b) else if o = 4 then w32 (a - b) else if o = 5 then w32 (a * b) else (if b = 0 then 0 else dvI a b)
def evS (f e : Int → Int) : Nat → Int → Int
  | 0 => fun _ => 0
  | n + 1 => if f n = 3000 then up (evS f e n) (dpc f n - 1) (w32 (-(evS f e n (dpc f n - 1)))) else if 2000 ≤ f n then up (evS f e n) (dpc f n - 2) (wkF (f n - 2000) (evS f e n (dpc f n - 2)) (evS f e n (dpc f n - 1))) else up (evS f e n) (dpc f n) (if 1000 ≤ f n then e (f n - 1000) else f n)
abbrev cE (k : Nat) (j : Int) : Prop := (k = 1 ∧ (j = 3 ∨ j = 4 ∨ j = 5 ∨ j = 7 ∨ j = 24)) ∨ k = 2 ∨ k = 3 ∨ k = 4 ∨ k = 11
theorem cE13 : cE 1 3 := by decide
theorem cE14 : cE 1 4 := by decide
theorem cE15 : cE 1 5 := by decide
theorem cE17 : cE 1 7 := by decide
theorem cE124 : cE 1 24 := by decide
theorem cE2 (j : Int) : cE 2 j := Or.inr (Or.inl rfl)
theorem cE3 (j : Int) : cE 3 j := Or.inr (Or.inr (Or.inl rfl))
theorem cE4 (j : Int) : cE 4 j := Or.inr (Or.inr (Or.inr (Or.inl rfl)))
theorem cE11 (j : Int) : cE 11 j := Or.inr (Or.inr (Or.inr (Or.inr rfl)))
/-- what no step changes is as in E -/
def CE (E M : Mem) : Prop := ∀ k j, cE k j → M k j = E k j
theorem CE.up {E M : Mem} (h : CE E M) {k : Nat} {j v : Int} (hk : ¬ cE k j) : CE E (up2 M k j v) := by
  intro k' j' hc
  rw [up2_a]
  by_cases c : k' = k
  · by_cases c2 : j' = j
    · exact absurd (by rw [← c, ← c2]; exact hc) hk
    · rw [if_pos c, if_neg c2]; exact h k' j' hc
  · rw [if_neg c]; exact h k' j' hc
theorem CE.fr {E M M' : Mem} {P : Nat → Int → Prop} (h : CE E M) (f : FrJ P M M') (hP : ∀ k j, cE k j → ¬ P k j) : CE E M' := fun k j hc => (f k j (hP k j hc)).trans (h k j hc)
abbrev eH (E : Mem) : Nat := (E 1 4).toNat
abbrev eO (E : Mem) : Nat := (E 1 5).toNat
abbrev eG (E : Mem) : Int := E 1 3 - 1
def envF (E : Mem) (r : Int → Int) (h j : Int) : Int := if j = 0 then r h else if j = 1 then frF r (eH E) (eG E) (r h) 31 0 else if j = 2 then (if E 2 (r h) = 0 then 0 else 1) else if j = 3 then E 4 (rmI (r 37) (E 1 7)) else if j = 4 then rmI (r 37) 10 else if j = 5 then h else bcF (bitF (fun m => r (21 + m)) h (eO E))
def ruF (E : Mem) (e : Int → Int) : Int := if E 1 24 = 0 then w32 (1 + (if e 1 ≤ 2 then 0 else 1)) else evS (E 11) e (E 1 24).toNat 0
def paF (E : Mem) (r : Int → Int) (h : Int) : Int := max 0 (min 3 (ruF E (envF E r h)))
-- where a hearse goes
def okF (E : Mem) (r : Int → Int) (f z : Int) : Prop := (z = eG E ∨ onF r (eH E) z < 0) ∧ ((∀ x, f < x → x < z → onF r (eH E) x < 0) ∨ ∀ x, f ≤ x → x ≤ z → E 2 x = 0)
noncomputable def gdF (ok : Int → Prop) (f : Int) : Nat → Int
  | 0 => f
  | k + 1 => @ite Int (ok (f + (k + 1))) (Classical.propDecidable _) (f + (k + 1)) (gdF ok f k)
theorem gdF_c (ok : Int → Prop) (f : Int) (k : Nat) : (f ≤ gdF ok f k ∧ gdF ok f k ≤ f + k) ∧ (gdF ok f k = f ∨ ok (gdF ok f k)) ∧ ∀ x, gdF ok f k < x → x ≤ f + k → ¬ ok x := by
  induction k with
  | zero => exact ⟨⟨Int.le_refl _, by show f ≤ f + 0; omega⟩, Or.inl rfl, fun x a q => by
      have : gdF ok f 0 = f := rfl
      omega⟩
  | succ k ih =>
    unfold gdF
    by_cases h : ok (f + (k + 1))
    · rw [if_pos h]
      exact ⟨by omega, Or.inr h, fun x a q => by omega⟩
    · rw [if_neg h]
      refine ⟨by omega, ih.2.1, fun x a q => ?_⟩
      by_cases cx : x = f + (k + 1)
      · rw [cx]; exact h
      · exact ih.2.2 x a (by omega)
theorem gdF_u {ok : Int → Prop} {f z : Int} {k : Nat} (h : (f ≤ z ∧ z ≤ f + k) ∧ (z = f ∨ ok z) ∧ ∀ x, z < x → x ≤ f + k → ¬ ok x) : gdF ok f k = z := by
  have g := gdF_c ok f k
  rcases Int.lt_trichotomy (gdF ok f k) z with w | w | w
  · exfalso
    rcases h.2.1 with q | q
    · omega
    · exact g.2.2 z w h.1.2 q
  · exact w
  · exfalso
    rcases g.2.1 with q | q
    · omega
    · exact h.2.2 _ w g.1.2 q
noncomputable def goF (E : Mem) (r : Int → Int) (h p : Int) : Int := gdF (okF E r (r h)) (r h) (min (eG E) (r h + p) - r h).toNat
noncomputable def mhF (E : Mem) (r : Int → Int) (h : Int) : Int → Int := if goF E r h (paF E r h) = r h then r else if goF E r h (paF E r h) = eG E then up (up (up r 12 (w32 (r 12 + 1))) (6 + h) (w32 (r 12 + 1))) h (-1) else up r h (goF E r h (paF E r h))
-- where a mourner goes
abbrev chF (E : Mem) (r : Int → Int) (m : Int) : Prop := 0 ≤ nearF r (r (13 + m)) (eH E) ∧ (r (21 + m) < 0 ∨ ab (r (nearF r (r (13 + m)) (eH E)) - r (13 + m)) < ab (r (r (21 + m)) - r (13 + m)))
def goM (r : Int → Int) (m f : Int) : Int := if r f ≤ r (13 + m) then max (r f) (r (13 + m) - 2) else min (r f) (r (13 + m) + 2)
def mmF (E : Mem) (r : Int → Int) (m : Int) : Int → Int := if 0 ≤ r (21 + m) ∧ r (r (21 + m)) < 0 then up r (29 + m) (r (21 + m)) else if chF E r m then up (up r (21 + m) (nearF r (r (13 + m)) (eH E))) (13 + m) (goM r m (nearF r (r (13 + m)) (eH E))) else if r (21 + m) < 0 then r else up r (13 + m) (goM r m (r (21 + m)))
-- a step
def lnL (r : Int → Int) (H : Nat) : Nat → List Int
  | 0 => []
  | c + 1 => if 0 ≤ onF r H c then onF r H c :: lnL r H c else lnL r H c
noncomputable def hsF (E : Mem) : List Int → (Int → Int) → Int → Int
  | [], r => r
  | h :: t, r => hsF E t (mhF E r h)
def msF (E : Mem) : Nat → (Int → Int) → Int → Int
  | 0, r => r
  | n + 1, r => if 0 ≤ msF E n r (29 + n) then msF E n r else mmF E (msF E n r) n
noncomputable def stF (E : Mem) (r : Int → Int) : Int → Int := up (msF E (eO E) (hsF E (lnL r (eH E) (eG E).toNat) r)) 37 (msF E (eO E) (hsF E (lnL r (eH E) (eG E).toNat) r) 37 + 1)
end
section
/-! THE STEP of the reference: what it makes of its row -/
theorem CE.h {E M : Mem} {b : Int} (h : CE E M) (hI : IM b M) : ((eH E : Nat) : Int) = M 1 4 ∧ 0 ≤ M 1 4 ∧ M 1 4 ≤ 6 := by
  have e : M 1 4 = E 1 4 := h 1 4 cE14
  have := bm_c1_4.mp (hI.bx 1 4)
  exact ⟨by show (((E 1 4).toNat : Nat) : Int) = M 1 4; omega, by omega, by omega⟩
theorem CE.o {E M : Mem} {b : Int} (h : CE E M) (hI : IM b M) : ((eO E : Nat) : Int) = M 1 5 ∧ 0 ≤ M 1 5 ∧ M 1 5 ≤ 8 := by
  have e : M 1 5 = E 1 5 := h 1 5 cE15
  have := bm_c1_5.mp (hI.bx 1 5)
  exact ⟨by show (((E 1 5).toNat : Nat) : Int) = M 1 5; omega, by omega, by omega⟩
theorem CE.g {E M : Mem} {b : Int} (h : CE E M) (hI : IM b M) : M 1 3 - 1 = eG E ∧ 3 ≤ eG E ∧ eG E ≤ 29 := by
  have e : M 1 3 = E 1 3 := h 1 3 cE13
  have := bm_c1_3.mp (hI.bx 1 3)
  show M 1 3 - 1 = E 1 3 - 1 ∧ 3 ≤ E 1 3 - 1 ∧ E 1 3 - 1 ≤ 29
  omega
theorem gX12_gate {b : Int} {M E : Mem} {Q : Int → Mem → Prop} (hI : IM b M) (hE : CE E M) (hQ : Q (eG E) M) : qX12_gate M Q := by
  refine sX12_gate hI ?_
  intro z hz
  rw [show z = eG E from by have := hE.g hI; omega]
  exact hQ
theorem gX12_onCell_L5 {k1 : Nat} {p2 b : Int} {Q : Int → Mem → Prop} {M E : Mem} (hI : IM b M) (hE : CE E M) (hQ : Q (onF (M k1) (eH E) p2) M) : ∀ (n : Nat) (v3 v4 : Int), v3 = onF (M k1) v4.toNat p2 → (0 ≤ v4 ∧ v4 ≤ M 1 4) → M 1 4 - v4 < (n : Int) → qX12_onCell_L5 k1 p2 Q n v3 v4 M := by
  intro n
  induction n with
  | zero => intro v3 v4 h3 hv hm; exact absurd hm (by omega)
  | succ n ih =>
    intro v3 v4 h3 hv hm
    have bH := hE.h hI
    have bo := onF_b (M k1) v4.toNat p2
    rw [qX12_onCell_L5]
    intro x1 e1 _
    refine ⟨⟨by omega, by omega⟩, ⟨fun c => ⟨⟨by omega, by omega⟩, ?_⟩, fun c => ⟨by omega, by omega, ?_⟩⟩⟩
    · rw [h3, show v4.toNat = eH E from by omega]
      exact hQ
    · intro x7 e7 _
      have hs := onF_s (c := M k1) (v := p2) hv.1
      refine ⟨fun c2 => ih _ _ ?_ (by omega) (by omega), fun c2 => ih _ _ ?_ (by omega) (by omega)⟩
      · rw [hs, if_neg (by rw [← e7]; exact c2), h3]
      · rw [hs, if_pos (by rw [← e7]; exact c2)]
theorem gX12_onCell {k1 : Nat} {p2 b : Int} {Q : Int → Mem → Prop} {M E : Mem} (hI : IM b M) (hE : CE E M) (hQ : Q (onF (M k1) (eH E) p2) M) : qX12_onCell k1 p2 M Q := by
  have bH := hE.h hI
  unfold qX12_onCell
  exact ⟨7, gX12_onCell_L5 hI hE hQ _ _ _ rfl (by omega) (by omega)⟩
theorem frF_s {c : Int → Int} {H : Nat} {g v m : Int} (h : 0 ≤ m ∧ m ≤ 30) : frF c H g v (31 - m).toNat m = if g ≤ v + m then m else if v + m + 1 = g then frF c H g v (31 - (m + 1)).toNat (m + 1) else if 0 ≤ onF c H (v + m + 1) then m else frF c H g v (31 - (m + 1)).toNat (m + 1) := by
  rw [show (31 - m).toNat = (31 - (m + 1)).toNat + 1 from by omega]
  rfl
theorem gX12_freeAhead_L2 {k1 : Nat} {p2 b T : Int} {Q : Int → Mem → Prop} {M E : Mem} (hI : IM b M) (hE : CE E M) (hp : 0 ≤ p2 ∧ p2 ≤ 29) (hQ : Q T M) : ∀ (n : Nat) (v3 : Int), frF (M k1) (eH E) (eG E) p2 (31 - v3).toNat v3 = T → (0 ≤ v3 ∧ v3 ≤ 30) → 30 - v3 < (n : Int) → qX12_freeAhead_L2 k1 p2 Q n v3 M := by
  intro n
  induction n with
  | zero => intro v3 h3 hv hm; exact absurd hm (by omega)
  | succ n ih =>
    intro v3 h3 hv hm
    have bg := hE.g hI
    rw [frF_s hv] at h3
    rw [qX12_freeAhead_L2]
    refine gX12_gate hI hE ?_
    intro _
    refine ⟨⟨by omega, by omega⟩, ⟨fun c => ⟨⟨by omega, by omega⟩, ?_⟩, fun c => ?_⟩⟩
    · rw [if_pos c] at h3
      rw [h3]; exact hQ
    · rw [if_neg c] at h3
      refine gX12_gate hI hE ?_
      intro _
      refine ⟨⟨by omega, by omega⟩, ⟨fun c2 => ?_, fun c2 => ?_⟩⟩
      · rw [if_pos c2] at h3
        exact ih _ h3 (by omega) (by omega)
      · rw [if_neg c2] at h3
        refine gX12_onCell hI hE ?_
        intro _
        refine ⟨fun c3 => ⟨⟨by omega, by omega⟩, ?_⟩, fun c3 => ?_⟩
        · rw [if_pos c3] at h3
          rw [h3]; exact hQ
        · rw [if_neg c3] at h3
          exact ih _ h3 (by omega) (by omega)
theorem gX12_freeAhead {k1 : Nat} {p2 b : Int} {Q : Int → Mem → Prop} {M E : Mem} (hI : IM b M) (hE : CE E M) (hp : 0 ≤ p2 ∧ p2 ≤ 29) (hQ : Q (frF (M k1) (eH E) (eG E) p2 31 0) M) : qX12_freeAhead k1 p2 M Q := by
  unfold qX12_freeAhead
  exact ⟨31, gX12_freeAhead_L2 hI hE hp hQ _ _ rfl (by omega) (by omega)⟩
theorem gX12_isOn {k0 : Nat} {p1 : Int} {M : Mem} {Q : Int → Mem → Prop} (hp : 0 ≤ p1 ∧ p1 ≤ 37) (hQ : ∀ z : Int, (z = 1 ∧ 0 ≤ M k0 p1 ∨ z = 0 ∧ M k0 p1 < 0) → Q z M) : qX12_isOn k0 p1 M Q := by
  unfold qX12_isOn
  refine ⟨by omega, by omega, ?_⟩
  intro x3 e3 _
  exact ⟨fun c => hQ _ (Or.inr ⟨rfl, by omega⟩), fun c => hQ _ (Or.inl ⟨rfl, by omega⟩)⟩
theorem gX12_isEnded {k0 : Nat} {p1 : Int} {M : Mem} {Q : Int → Mem → Prop} (hp : 0 ≤ p1 ∧ p1 ≤ 7) (hQ : ∀ z : Int, (z = 1 ∧ 0 ≤ M k0 (29 + p1) ∨ z = 0 ∧ M k0 (29 + p1) < 0) → Q z M) : qX12_isEnded k0 p1 M Q := by
  unfold qX12_isEnded
  refine ⟨by omega, by omega, ?_⟩
  intro x3 e3 _
  exact ⟨fun c => hQ _ (Or.inr ⟨rfl, by omega⟩), fun c => hQ _ (Or.inl ⟨rfl, by omega⟩)⟩
theorem gX12_weatherOn {p1 b : Int} {M : Mem} {Q : Int → Mem → Prop} (hI : IM b M) (hp : 0 ≤ p1 ∧ p1 ≤ 2147483647) (hQ : Q (M 4 (rmI p1 (M 1 7))) M) : qX12_weatherOn p1 M Q := by
  unfold qX12_weatherOn
  intro x1 e1 _
  have b1 : 1 ≤ x1 ∧ x1 ≤ 20 := by rw [e1]; exact bm_c1_7.mp (hI.bx _ _)
  refine ⟨by omega, ?_⟩
  intro x3 e3 _
  have b3 := rmI_b (a := p1) (b := x1) hp ⟨by omega, by omega⟩
  rw [← e3] at b3
  refine ⟨by omega, by omega, ?_⟩
  intro x6 e6 _
  rw [e6, e3, e1]
  exact hQ
theorem gX12_bitsBy_L6 {k1 : Nat} {p2 p3 b : Int} {Q : Int → Mem → Prop} {M E : Mem} (hI : IM b M) (hE : CE E M) (hp : 0 ≤ p2 ∧ p2 ≤ 29) (hQ : Q (bitF (fun m => M k1 (p2 + m)) p3 (eO E)) M) : ∀ (n : Nat) (v4 v5 : Int), v4 = bitF (fun m => M k1 (p2 + m)) p3 v5.toNat → (0 ≤ v5 ∧ v5 ≤ M 1 5) → M 1 5 - v5 < (n : Int) → qX12_bitsBy_L6 k1 p2 p3 Q n v4 v5 M := by
  intro n
  induction n with
  | zero => intro v4 v5 h4 hv hm; exact absurd hm (by omega)
  | succ n ih =>
    intro v4 v5 h4 hv hm
    have bO := hE.o hI
    have r4 := bitF_R (fun m => M k1 (p2 + m)) p3 v5.toNat
    rw [← h4] at r4
    rw [qX12_bitsBy_L6]
    intro x1 e1 _
    refine ⟨⟨by omega, by omega⟩, ⟨fun c => ⟨r4, ?_⟩, fun c => ⟨by omega, by omega, ?_⟩⟩⟩
    · rw [h4, show v5.toNat = eO E from by omega]
      exact hQ
    · intro x7 e7 _
      have hs := bitF_s (f := fun m => M k1 (p2 + m)) (x := p3) hv.1
      refine ⟨fun c2 => ?_, fun c2 => ?_⟩
      · intro x9 e9 _
        refine ih _ _ ?_ (by omega) (by omega)
        rw [hs, if_neg (by show ¬ M k1 (p2 + v5) = p3; rw [← e7]; exact c2), e9, h4]
      · intro x10 e10 _ x11 e11 _
        refine ih _ _ ?_ (by omega) (by omega)
        rw [hs, if_pos (by show M k1 (p2 + v5) = p3; rw [← e7]; exact c2), e11, e10, h4]
theorem gX12_bitsBy {k1 : Nat} {p2 p3 b : Int} {Q : Int → Mem → Prop} {M E : Mem} (hI : IM b M) (hE : CE E M) (hp : 0 ≤ p2 ∧ p2 ≤ 29) (hQ : Q (bitF (fun m => M k1 (p2 + m)) p3 (eO E)) M) : qX12_bitsBy k1 p2 p3 M Q := by
  have bO := hE.o hI
  unfold qX12_bitsBy
  exact ⟨9, gX12_bitsBy_L6 hI hE hp hQ _ _ _ rfl (by omega) (by omega)⟩
theorem gX12_flag {p0 b : Int} {M : Mem} {Q : Int → Mem → Prop} (hI : IM b M) (hQ : Q (if p0 = 0 then 0 else 1) M) : qX12_flag p0 M Q := by
  refine sX12_flag (p0 := p0) hI ?_
  intro z hz
  have e : z = if p0 = 0 then 0 else 1 := by
    split
    · rcases hz.1 with h | h
      · exact h
      · exact absurd (by assumption) (hz.2.2 h)
    · rcases hz.1 with h | h
      · exact absurd (hz.2.1 h) (by assumption)
      · exact h
  rw [e]
  exact hQ
theorem gX12_worked {p0 p1 p2 b : Int} {M : Mem} {Q : Int → Mem → Prop} (hI : IM b M) (hQ : Q (wkF p0 p1 p2) M) : qX12_worked p0 p1 p2 M Q := by
  unfold wkF at hQ
  unfold qX12_worked
  refine ⟨fun c => ?_, fun c => ?_, fun c => ?_, fun c => ?_, fun c => ?_, fun c => ?_, fun c => ?_⟩
  · rw [if_pos c] at hQ
    refine ⟨fun c2 => ?_, fun c2 => ?_⟩ <;> unfold qX12_worked_J50 <;> refine ⟨by decide, ?_⟩ <;> refine gX12_flag hI ?_ <;> intro _
    · rw [if_neg (by omega)] at hQ; exact hQ
    · rw [if_pos (by omega)] at hQ; exact hQ
  · rw [if_neg (by omega), if_pos c] at hQ
    refine ⟨fun c2 => ?_, fun c2 => ?_⟩ <;> unfold qX12_worked_J64 <;> refine ⟨by decide, ?_⟩ <;> refine gX12_flag hI ?_ <;> intro _
    · rw [if_neg (by omega)] at hQ; exact hQ
    · rw [if_pos (by omega)] at hQ; exact hQ
  · rw [if_neg (by omega), if_neg (by omega), if_pos c] at hQ
    refine ⟨fun c2 => ?_, fun c2 => ?_⟩ <;> unfold qX12_worked_J78 <;> refine ⟨by decide, ?_⟩ <;> refine gX12_flag hI ?_ <;> intro _
    · rw [if_neg c2] at hQ; exact hQ
    · rw [if_pos c2] at hQ; exact hQ
  · rw [if_neg (by omega), if_neg (by omega), if_neg (by omega), if_pos c] at hQ
    intro x e _
    rw [e]; exact hQ
  · rw [if_neg (by omega), if_neg (by omega), if_neg (by omega), if_neg (by omega), if_pos c] at hQ
    intro x e _
    rw [e]; exact hQ
  · rw [if_neg (by omega), if_neg (by omega), if_neg (by omega), if_neg (by omega), if_neg (by omega), if_pos c] at hQ
    intro x e _
    rw [e]; exact hQ
  · rw [if_neg (by omega), if_neg (by omega), if_neg (by omega), if_neg (by omega), if_neg (by omega), if_neg (by omega)] at hQ
    refine ⟨fun c2 => ⟨c2, ?_⟩, fun c2 => ?_⟩
    · rw [if_neg c2] at hQ
      intro x e _
      rw [e]; exact hQ
    · rw [if_pos c2] at hQ; exact hQ
-- the rule is worked
theorem evS_s {f e : Int → Int} {n : Int} (h : 0 ≤ n) : evS f e (n + 1).toNat = if f n = 3000 then up (evS f e n.toNat) (dpc f n.toNat - 1) (w32 (-(evS f e n.toNat (dpc f n.toNat - 1)))) else if 2000 ≤ f n then up (evS f e n.toNat) (dpc f n.toNat - 2) (wkF (f n - 2000) (evS f e n.toNat (dpc f n.toNat - 2)) (evS f e n.toNat (dpc f n.toNat - 1))) else up (evS f e n.toNat) (dpc f n.toNat) (if 1000 ≤ f n then e (f n - 1000) else f n) := by
  rw [show (n + 1).toNat = n.toNat + 1 from by omega]
  have hc : ((n.toNat : Nat) : Int) = n := by omega
  show (if f (n.toNat : Nat) = 3000 then _ else if 2000 ≤ f (n.toNat : Nat) then _ else _) = _
  rw [hc]
theorem dpc_s {f : Int → Int} {n : Int} (h : 0 ≤ n) : dpc f (n + 1).toNat = dpc f n.toNat + (if f n = 3000 then 0 else if f n < 2000 then 1 else -1) := by
  rw [show (n + 1).toNat = n.toNat + 1 from by omega]
  show dpc f n.toNat + (if f (n.toNat : Nat) = 3000 then 0 else if f (n.toNat : Nat) < 2000 then 1 else -1) = _
  rw [show ((n.toNat : Nat) : Int) = n from by omega]
theorem evS_cg {f e e' : Int → Int} {m : Int} (hw : WFC f m) (he : ∀ j, 0 ≤ j → j < 7 → e j = e' j) (k : Nat) (hk : (k : Int) ≤ m) : evS f e k = evS f e' k := by
  induction k with
  | zero => rfl
  | succ k ih =>
    have i := ih (by omega)
    have w := hw k (by omega)
    unfold evS
    rw [i]
    by_cases c1 : f k = 3000
    · rw [if_pos c1, if_pos c1]
    · rw [if_neg c1, if_neg c1]
      by_cases c2 : 2000 ≤ f k
      · rw [if_pos c2, if_pos c2]
      · rw [if_neg c2, if_neg c2]
        by_cases c3 : 1000 ≤ f k
        · rw [if_pos c3, if_pos c3, he _ (by omega) (by have := w.2.2 c3 (by omega); omega)]
        · rw [if_neg c3, if_neg c3]
theorem dpc_p {f : Int → Int} {m : Int} (h : WFC f m) (n : Nat) (h1 : 1 ≤ n) (hn : (n : Int) ≤ m) : 1 ≤ dpc f n := by
  obtain ⟨k, rfl⟩ : ∃ k, n = k + 1 := ⟨n - 1, by omega⟩
  have i := dpc_nn h k (by omega)
  obtain ⟨a, b, _⟩ := h k (by omega)
  unfold dpc
  split
  · have := a (by assumption)
    omega
  · rename_i c
    split
    · omega
    · have := b (by omega) c
      omega
theorem gX12_ruled_L4 {X125 : Mem → Prop} {Q : Int → Mem → Prop} {b : Int} {M0 : Mem} (hX : ∀ M' : Mem, IM b M' → FrJ (fun k j => k = 13) M0 M' → (∀ i, 0 ≤ i → i < dpc (M0 11) (M0 1 24).toNat → M' 13 i = evS (M0 11) (M0 14) (M0 1 24).toNat i) → X125 M') : ∀ (n : Nat) (v1 v2 : Int) (M : Mem), IM b M → FrJ (fun k j => k = 13) M0 M → (v1 = dpc (M0 11) v2.toNat ∧ 0 ≤ v2 ∧ v2 ≤ M0 1 24) → (∀ i, 0 ≤ i → i < v1 → M 13 i = evS (M0 11) (M0 14) v2.toNat i) → M0 1 24 - v2 < (n : Int) → qX12_ruled_L4 X125 Q n v1 v2 M := by
  intro n
  induction n with
  | zero => intro v1 v2 M hI hF hv hs hm; exact absurd hm (by omega)
  | succ n ih =>
    intro v1 v2 M hI hF hv hs hm
    rw [qX12_ruled_L4]
    intro x1 e1 _
    have b1 : 0 ≤ x1 ∧ x1 ≤ 80 := by rw [e1]; exact bm_c1_24.mp (hI.bx _ _)
    have f1 : x1 = M0 1 24 := by rw [e1]; exact hF 1 24 (by omega)
    refine ⟨⟨by omega, by omega⟩, ⟨fun c => hX _ hI hF ?_, fun c => ?_⟩⟩
    · rw [show (M0 1 24).toNat = v2.toNat from by omega, ← hv.1]
      exact hs
    refine ⟨by omega, by omega, ?_⟩
    intro x6 e6 r6
    have k11 : M 11 = M0 11 := funext fun j => hF 11 j (by omega)
    have k14 : M 14 = M0 14 := funext fun j => hF 14 j (by omega)
    have hW : WFC (M0 11) (M0 1 24) := by
      have w := hI.2
      rw [k11, show M 1 24 = M0 1 24 from hF 1 24 (by omega)] at w
      exact w
    have hw := hW v2.toNat (by omega)
    have hc : ((v2.toNat : Nat) : Int) = v2 := by omega
    have hn := dpc_nn hW v2.toNat (by omega)
    have hl := dpc_le (M0 11) v2.toNat
    have e6' : x6 = M0 11 v2 := by rw [e6, k11]
    rw [hc, ← e6'] at hw
    have hd := dpc_s (f := M0 11) (n := v2) hv.2.1
    have hev := evS_s (f := M0 11) (e := M0 14) (n := v2) hv.2.1
    rw [← e6'] at hd hev
    rw [← hv.1] at hd hev hw
    have key : ∀ (M' : Mem) (j v w : Int), M' = up2 M 13 j v → w = v1 + (if x6 = 3000 then 0 else if x6 < 2000 then 1 else -1) → evS (M0 11) (M0 14) (v2 + 1).toNat = up (evS (M0 11) (M0 14) v2.toNat) j v → (0 ≤ j ∧ w - 1 = j ∧ j ≤ v1) → qX12_ruled_L4 X125 Q n w (v2 + 1) M' := by
      intro M' j v w hM' hw' hE hj
      refine ih _ _ _ (by rw [hM']; exact hI.up (by omega) (by simp [BM])) (by rw [hM']; exact hF.up rfl) ⟨by rw [hd]; exact hw', by omega, by omega⟩ ?_ (by omega)
      intro i a q
      rw [hM', hE]
      by_cases ci : i = j
      · rw [ci, up2_s, upS]
      · rw [up2_j ci, up_j ci]
        exact hs i a (by omega)
    refine ⟨fun c1 => ⟨fun c2 => ⟨fun c3 => ?_, fun c3 => ?_⟩, fun c2 => ?_⟩, fun c1 => ?_⟩
    · unfold qX12_ruled_J115
      refine ⟨by omega, by omega, r6, ?_⟩
      intro M13 h13
      exact key _ _ _ _ h13 (by rw [if_neg c1, if_pos c2]) (by rw [hev, if_neg c1, if_neg (by omega), if_neg (by omega)]) ⟨by omega, by omega, by omega⟩
    · intro x14 e14 _
      have f14 : x14 = x6 - 1000 := by rw [e14]; exact w32_id ⟨by omega, by omega⟩
      have := hw.2.2 (by omega) (by omega)
      refine ⟨by omega, by omega, ?_⟩
      intro x17 e17 r17
      unfold qX12_ruled_J115
      refine ⟨by omega, by omega, r17, ?_⟩
      intro M13 h13
      exact key _ _ _ _ h13 (by rw [if_neg c1, if_pos c2]) (by rw [hev, if_neg c1, if_neg (by omega), if_pos (by omega), e17, f14, k14]) ⟨by omega, by omega, by omega⟩
    · have h2 := hw.2.1 (by omega) c1
      intro x18 e18 _ x19 e19 _ x20 e20 _
      have f18 : x18 = v1 + (-1) - 1 := by rw [e18]; exact w32_id ⟨by omega, by omega⟩
      have f20 : x20 = v1 + (-1) - 1 := by rw [e20]; exact w32_id ⟨by omega, by omega⟩
      have f19 : x19 = x6 - 2000 := by rw [e19]; exact w32_id ⟨by have : -2147483648 ≤ x6 ∧ x6 ≤ 2147483647 := r6; omega, by have : -2147483648 ≤ x6 ∧ x6 ≤ 2147483647 := r6; omega⟩
      refine ⟨by omega, by omega, ?_⟩
      intro x23 e23 _
      refine ⟨by omega, by omega, ?_⟩
      intro x26 e26 _
      refine gX12_worked hI ?_
      intro r27
      refine ⟨by omega, by omega, ?_⟩
      intro M30 h30
      have a23 : x23 = evS (M0 11) (M0 14) v2.toNat (v1 - 2) := by rw [e23, show x20 = v1 - 2 from by omega]; exact hs _ (by omega) (by omega)
      have a26 : x26 = evS (M0 11) (M0 14) v2.toNat (v1 - 1) := by rw [e26, show v1 + (-1) = v1 - 1 from by omega]; exact hs _ (by omega) (by omega)
      exact key _ _ _ _ h30 (by rw [if_neg c1, if_neg c2]) (by rw [hev, if_neg c1, if_pos (by omega), ← a23, ← a26, f19, show v1 - 2 = x18 from by omega]) ⟨by omega, by omega, by omega⟩
    · have h1 := hw.1 c1
      intro x31 e31 _ x32 e32 _
      have f31 : x31 = v1 - 1 := by rw [e31]; exact w32_id ⟨by omega, by omega⟩
      have f32 : x32 = v1 - 1 := by rw [e32]; exact w32_id ⟨by omega, by omega⟩
      refine ⟨by omega, by omega, ?_⟩
      intro x35 e35 _ x36 e36 _
      refine ⟨by omega, by omega, ?_⟩
      intro M39 h39
      have a35 : x35 = evS (M0 11) (M0 14) v2.toNat (v1 - 1) := by rw [e35, f32]; exact hs _ (by omega) (by omega)
      exact key _ _ _ _ h39 (by rw [if_pos c1]; omega) (by rw [hev, if_pos c1, e36, a35, f31]) ⟨by omega, by omega, by omega⟩
theorem gX12_ruled {b : Int} {M E : Mem} {Q : Int → Mem → Prop} (hI : IM b M) (hE : CE E M) (hQ : ∀ M' : Mem, IM b M' → FrJ (fun k j => k = 13) M M' → Q (ruF E (M 14)) M') : qX12_ruled M Q := by
  have b24 := bm_c1_24.mp (hI.bx 1 24)
  have k24 : M 1 24 = E 1 24 := hE 1 24 cE124
  have k11 : M 11 = E 11 := funext fun j => hE 11 j (cE11 j)
  unfold ruF at hQ
  unfold qX12_ruled
  refine ⟨81, gX12_ruled_L4 (b := b) (M0 := M) ?_ _ _ _ _ hI FrJ.rf ⟨rfl, by omega, by omega⟩ (fun i a q => ?_) (by omega)⟩
  · intro M' h' hF hs x41 e41 _
    have f41 : x41 = E 1 24 := by rw [e41, hF 1 24 (by omega), k24]
    refine ⟨fun c => ?_, fun c => ?_⟩
    · intro x43 e43 _
      have H := hQ M' h' hF
      rw [if_neg (by omega)] at H
      have : x43 = evS (E 11) (M 14) (E 1 24).toNat 0 := by
        rw [e43, ← k11, ← k24]
        refine hs 0 (by decide) ?_
        have := dpc_p hI.2 (M 1 24).toNat (by omega) (by omega)
        omega
      rw [this]
      exact H
    · intro x44 e44 _
      have H := hQ M' h' hF
      rw [if_pos (by omega)] at H
      have f44 : x44 = M 14 1 := by rw [e44]; exact hF 14 1 (by omega)
      refine ⟨fun c2 => ?_, fun c2 => ?_⟩
      · unfold qX12_ruled_J148
        refine ⟨by decide, ?_⟩
        refine gX12_flag h' ?_
        intro _ x48 e48 _
        rw [if_pos (by omega)] at H
        rw [e48]
        exact H
      · unfold qX12_ruled_J148
        refine ⟨by decide, ?_⟩
        refine gX12_flag h' ?_
        intro _ x48 e48 _
        rw [if_neg (by omega)] at H
        rw [e48]
        exact H
  · have : dpc (M 11) (0 : Int).toNat = 0 := rfl
    omega
end
