theorem sX12_isSo {p1 : Int} {p2 : Int} {p3 : Int} {b : Int} {M : Mem} {Q : Int → Mem → Prop} (hI : IM b M) (hp : 0 ≤ p1 ∧ p1 ≤ 5) (hQ : ∀ z : Int, Q z M) : qX12_isSo p1 p2 p3 M Q := by
  unfold qX12_isSo
  have hbn := hI.nn
  refine ⟨fun c => ?_, fun c => ?_, fun c => ?_, fun c => ?_⟩
  · refine sX12_owners (p1 := p1) hI  ?_
    intro x2_2564 q2565
    refine sJ6_bitCountM (p0 := x2_2564) hI  ?_
    intro x3_2566 p2567 q2568
    refine ⟨fun c => ?_, fun c => ?_⟩
    · exact hQ _
    · exact hQ _
  · refine sX12_isOn (p1 := p1) hI (Or.inr rfl) (by omega) ?_
    intro x5_2572 p2573 q2574 q2575
    refine ⟨fun c => ?_, fun c => ?_⟩
    · exact hQ _
    · refine ⟨by omega, ?_⟩
      refine ⟨by omega, ?_⟩
      intro x9_2578 ex9_2578 rx9_2578
      have bx9_2578 : -2147483648 ≤ x9_2578 ∧ x9_2578 ≤ 2147483647 := rx9_2578
      refine ⟨fun c => ?_, fun c => ?_⟩
      · exact hQ _
      · exact hQ _
  · refine sX12_bitsBy (p2 := 29) (p3 := p1) hI (Or.inr rfl) (by omega) ?_
    intro x11_2582 q2583
    refine sJ6_bitCountM (p0 := x11_2582) hI  ?_
    intro x12_2584 p2585 q2586
    refine ⟨fun c => ?_, fun c => ?_⟩
    · exact hQ _
    · exact hQ _
  · intro x14_2590 ex14_2590 rx14_2590
    first | (have fx14_2590 := rmI_b (a := p1) (b := 2) ⟨by omega, by omega⟩ ⟨by omega, by omega⟩; rw [← ex14_2590] at fx14_2590) | skip
    refine ⟨fun c => ?_, fun c => ?_⟩
    · exact hQ _
    · exact hQ _
theorem sX12_fits_L37  {X84 : Int → Int → Int → Mem → Prop} {Q : Int → Mem → Prop} {b : Int} {g1 : Int} {g2 : Int} (hb : b + 200 ≤ 2000000000) (hQ : ∀ z : Int, ∀ M' : Mem, IM (b + 200) M' → Q z M') (hX84 : ∀ w1 w2 w3 : Int, ∀ M' : Mem, IM (b + 200) M' → (w1 = g1 ∧ w2 = g2 ∧ 0 ≤ w3 ∧ w3 ≤ 1) → X84 w1 w2 w3 M') : ∀ (n : Nat) (v1 v2 v3 v4 : Int) (M : Mem), IM (b + 200) M → (v1 = g1 ∧ v2 = g2 ∧ 0 ≤ v2 ∧ v2 ≤ 5 ∧ 0 ≤ v3 ∧ v3 ≤ 1 ∧ 0 ≤ v4 ∧ v4 ≤ 8) → 8 - v4 < (n : Int) → qX12_fits_L37 X84 Q n v1 v2 v3 v4 M := by
  intro n
  induction n with
  | zero => intro v1 v2 v3 v4 M hI hv hm; exact absurd hm (by omega)
  | succ n ih =>
    intro v1 v2 v3 v4 M hI hv hm
    rw [qX12_fits_L37]
    have hbn := hI.nn
    intro x7_2593 ex7_2593 rx7_2593
    have bx7_2593 : 0 ≤ x7_2593 ∧ x7_2593 ≤ 8 := by rw [ex7_2593]; exact bm_c1_45.mp (hI.bx _ _)
    refine ⟨(by first | assumption | exact ⟨by omega, by omega⟩), ?_⟩
    refine ⟨fun c => ?_, fun c => ?_⟩
    · exact hX84 _ _ _ _ (hI.mono (by omega)) (by omega)
    · refine ⟨(by first | assumption | exact ⟨by omega, by omega⟩), ?_⟩
      refine ⟨fun c => ?_, fun c => ?_⟩
      · exact ih _ _ _ _ _ (hI.mono (by omega)) (by omega) (by omega)
      · refine ⟨by omega, ?_⟩
        refine ⟨by omega, ?_⟩
        intro x14_2598 ex14_2598 rx14_2598
        have bx14_2598 : -2147483648 ≤ x14_2598 ∧ x14_2598 ≤ 2147483647 := rx14_2598
        intro x15_2599 ex15_2599 rx15_2599
        have bx15_2599 : -2147483648 ≤ x15_2599 ∧ x15_2599 ≤ 2147483647 := rx15_2599
        refine ⟨(by first | assumption | exact ⟨by omega, by omega⟩), ?_⟩
        refine sX12_isSo (p1 := v2) (p2 := x14_2598) (p3 := x15_2599) hI (by omega) ?_
        intro x17_2600 q2601 q2602
        refine ⟨fun c => ?_, fun c => ?_⟩
        · exact ih _ _ _ _ _ (hI.mono (by omega)) (by omega) (by omega)
        · exact ih _ _ _ _ _ (hI.mono (by omega)) (by omega) (by omega)
theorem sX12_fits_L24  {X104 : Int → Mem → Prop} {Q : Int → Mem → Prop} {b : Int} (hb : b + 200 ≤ 2000000000) (hQ : ∀ z : Int, ∀ M' : Mem, IM (b + 200) M' → Q z M') (hX104 : ∀ w1 : Int, ∀ M' : Mem, IM (b + 200) M' → iR w1 → X104 w1 M') : ∀ (n : Nat) (v1 v2 : Int) (M : Mem), IM (b + 200) M → (0 ≤ v2 ∧ v2 ≤ 6) → iR v1 → 6 - v2 < (n : Int) → qX12_fits_L24 X104 Q n v1 v2 M := by
  intro n
  induction n with
  | zero => intro v1 v2 M hI hv hrv1 hm; exact absurd hm (by omega)
  | succ n ih =>
    intro v1 v2 M hI hv hrv1 hm
    rw [qX12_fits_L24]
    have hbn := hI.nn
    intro x4_2605 ex4_2605 rx4_2605
    have bx4_2605 : 0 ≤ x4_2605 ∧ x4_2605 ≤ 6 := by rw [ex4_2605]; exact bm_c1_4.mp (hI.bx _ _)
    refine ⟨(by first | assumption | exact ⟨by omega, by omega⟩), ?_⟩
    refine ⟨fun c => ?_, fun c => ?_⟩
    · exact hX104 _ _ (hI.mono (by omega)) (by first | assumption | exact ⟨by omega, by omega⟩)
    · refine ⟨9, ?_⟩
      refine sX12_fits_L37 (b := b)  (g1 := v1) (g2 := v2) hb ?_ ?_ _ _ _ _ _ _ (hI.mono (by omega)) (by omega) (by omega)
      · exact hQ
      · intro v1_2608 v2_2609 v3_2610 M_2611 hM_2611 p2612
        refine ⟨(by first | assumption | exact ⟨by omega, by omega⟩), ?_⟩
        refine ⟨fun c => ?_, fun c => ?_⟩
        · intro x22_2614 ex22_2614 rx22_2614
          first | (have fx22_2614 := oI_64 (a := v1_2608) (b := 0) ⟨by omega, by omega⟩ ⟨by omega, by omega⟩; rw [← ex22_2614] at fx22_2614) | skip
          exact ih _ _ _ (hM_2611.mono (by omega)) (by omega) (by first | assumption | exact ⟨by omega, by omega⟩) (by omega)
        · intro x23_2616 ex23_2616 rx23_2616
          first | (have fx23_2616 := slI_1 (b := v2_2609) ⟨by omega, by omega⟩; rw [← ex23_2616] at fx23_2616) | skip
          intro x24_2617 ex24_2617 rx24_2617
          first | (have fx24_2617 := oI_64 (a := v1_2608) (b := x23_2616) ⟨by omega, by omega⟩ ⟨by omega, by omega⟩; rw [← ex24_2617] at fx24_2617) | skip
          exact ih _ _ _ (hM_2611.mono (by omega)) (by omega) (by first | assumption | exact ⟨by omega, by omega⟩) (by omega)
theorem sX12_fits  {b : Int} {M : Mem} {Q : Int → Mem → Prop} (hI : IM b M) (hb : b + 200 ≤ 2000000000) (hQ : ∀ z : Int, ∀ M' : Mem, IM (b + 200) M' → Q z M') : qX12_fits M Q := by
  unfold qX12_fits
  have hbn := hI.nn
  intro M1_2618 h_M1_2618
  have hM1_2618 : IM (b) M1_2618 := by rw [h_M1_2618]; exact hI.up (by omega) (by simp [BM])
  refine sX12_copies  hM1_2618  ?_
  intro M2_2619 hM2_2619
  refine sX12_goesOn (p2 := 200) hM2_2619 (by omega) (Or.inr rfl) (by omega) ?_
  intro M3_2620 hM3_2620
  refine ⟨7, ?_⟩
  refine sX12_fits_L24 (b := b)  hb ?_ ?_ _ _ _ _ (hM3_2620.mono (by omega)) (by omega) (by first | assumption | exact ⟨by omega, by omega⟩) (by omega)
  · exact hQ
  · intro v1_2621 M_2622 hM_2622 r2623
    intro M26_2624 h_M26_2624
    have hM26_2624 : IM (b + 200) M26_2624 := by rw [h_M26_2624]; exact hM_2622.up (by omega) (bm_c1_1.mpr ⟨by omega, by omega⟩)
    refine ⟨(by first | assumption | exact ⟨by omega, by omega⟩), ?_⟩
    refine sJ6_bitCountM (p0 := v1_2621) hM26_2624  ?_
    intro x28_2625 p2626 q2627
    have u2628 : 0 ≤ M26_2624 1 1 ∧ M26_2624 1 1 ≤ 24 := bm_c1_1.mp (hM26_2624.bx _ _)
    have t2629 : M26_2624 1 1 = 0 := by rw [h_M26_2624, up2_s]
    refine sX12_enters (p1 := x28_2625) hM26_2624 (by omega) ?_
    intro M29_2630 hM29_2630 p2631
    exact hQ _ _ (hM29_2630.mono (by omega))
theorem sX12_rains {p1 : Int} {p2 : Int} {p3 : Int} {b : Int} {M : Mem} {Q : Int → Mem → Prop} (hI : IM b M) (hQ : ∀ z : Int, Q z M) : qX12_rains p1 p2 p3 M Q := sorry
theorem sX12_law  {b : Int} {M : Mem} {Q : Int → Mem → Prop} (hI : IM b M) (hb : b + 400 ≤ 2000000000) (hQ : ∀ z : Int, Q z M) : qX12_law M Q := sorry
theorem sX12_gets {p0 : Int} {p1 : Int} {p2 : Int} {b : Int} {M : Mem} {Q : Int → Mem → Prop} (hI : IM b M) (hp : 0 ≤ p0 ∧ p0 ≤ 9 ∧ 0 ≤ p1 ∧ p1 ≤ 9 ∧ 0 ≤ p2 ∧ p2 ≤ 20) (hQ : ∀ z : Int, (-30 ≤ z ∧ z ≤ 30) → Q z M) : qX12_gets p0 p1 p2 M Q := by
  unfold qX12_gets
  have hbn := hI.nn
  refine ⟨fun c => ?_, fun c => ?_⟩
  · refine ⟨fun c => ?_, fun c => ?_⟩
    · unfold qX12_gets_J21
      refine ⟨(by first | assumption | exact ⟨by omega, by omega⟩), ?_⟩
      refine ⟨fun c => ?_, fun c => ?_⟩
      · unfold qX12_gets_J36
        refine ⟨(by first | assumption | exact ⟨by omega, by omega⟩), ?_⟩
        refine sX12_flag (p0 := 0) hI  ?_
        intro x6_2635 p2636 q2637
        refine ⟨(by first | assumption | exact ⟨by omega, by omega⟩), ?_⟩
        exact hQ _ (by omega)
      · unfold qX12_gets_J36
        refine ⟨(by first | assumption | exact ⟨by omega, by omega⟩), ?_⟩
        refine sX12_flag (p0 := 1) hI  ?_
        intro x6_2639 p2640 q2641
        refine ⟨(by first | assumption | exact ⟨by omega, by omega⟩), ?_⟩
        exact hQ _ (by omega)
    · intro x8_2643 ex8_2643 rx8_2643
      first | (have fx8_2643 := dvI_b (a := p2) (b := 2) ⟨by omega, by omega⟩ ⟨by omega, by omega⟩; rw [← ex8_2643] at fx8_2643) | skip
      unfold qX12_gets_J21
      refine ⟨(by first | assumption | exact ⟨by omega, by omega⟩), ?_⟩
      refine ⟨fun c => ?_, fun c => ?_⟩
      · unfold qX12_gets_J36
        refine ⟨(by first | assumption | exact ⟨by omega, by omega⟩), ?_⟩
        refine sX12_flag (p0 := 0) hI  ?_
        intro x6_2645 p2646 q2647
        refine ⟨(by first | assumption | exact ⟨by omega, by omega⟩), ?_⟩
        exact hQ _ (by omega)
      · unfold qX12_gets_J36
        refine ⟨(by first | assumption | exact ⟨by omega, by omega⟩), ?_⟩
        refine sX12_flag (p0 := 1) hI  ?_
        intro x6_2649 p2650 q2651
        refine ⟨(by first | assumption | exact ⟨by omega, by omega⟩), ?_⟩
        exact hQ _ (by omega)
  · unfold qX12_gets_J21
    refine ⟨(by first | assumption | exact ⟨by omega, by omega⟩), ?_⟩
    refine ⟨fun c => ?_, fun c => ?_⟩
    · unfold qX12_gets_J36
      refine ⟨(by first | assumption | exact ⟨by omega, by omega⟩), ?_⟩
      refine sX12_flag (p0 := 0) hI  ?_
      intro x6_2654 p2655 q2656
      refine ⟨(by first | assumption | exact ⟨by omega, by omega⟩), ?_⟩
      exact hQ _ (by omega)
    · unfold qX12_gets_J36
      refine ⟨(by first | assumption | exact ⟨by omega, by omega⟩), ?_⟩
      refine sX12_flag (p0 := 1) hI  ?_
      intro x6_2658 p2659 q2660
      refine ⟨(by first | assumption | exact ⟨by omega, by omega⟩), ?_⟩
      exact hQ _ (by omega)
theorem sX12_isRest_L5 {p0 : Int} {p1 : Int} {p2 : Int}  {Q : Int → Mem → Prop} {b : Int} {M0 : Mem} (hp : 0 ≤ p0 ∧ p0 ≤ 9 ∧ 0 ≤ p1 ∧ p1 ≤ 9 ∧ 0 ≤ p2 ∧ p2 ≤ 20) (hQ : ∀ z : Int, Q z M0) : ∀ (n : Nat) (v3 v4 : Int), IM (b) M0 → (0 ≤ v3 ∧ v3 ≤ 1 ∧ 0 ≤ v4 ∧ v4 ≤ 10) → 10 - v4 < (n : Int) → qX12_isRest_L5 p0 p1 p2 Q n v3 v4 M0 := by
  intro n
  induction n with
  | zero => intro v3 v4 hI hv hm; exact absurd hm (by omega)
  | succ n ih =>
    intro v3 v4 hI hv hm
    rw [qX12_isRest_L5]
    have hbn := hI.nn
    refine ⟨(by first | assumption | exact ⟨by omega, by omega⟩), ?_⟩
    refine ⟨fun c => ?_, fun c => ?_⟩
    · refine ⟨(by first | assumption | exact ⟨by omega, by omega⟩), ?_⟩
      refine ⟨by omega, ?_⟩
      exact hQ _
    · refine ⟨(by first | assumption | exact ⟨by omega, by omega⟩), ?_⟩
      refine ⟨fun c => ?_, fun c => ?_⟩
      · exact ih _ _ (hI.mono (by omega)) (by omega) (by omega)
      · refine sX12_gets (p0 := v4) (p1 := p1) (p2 := p2) hI (by omega) ?_
        intro x7_2665 p2666 q2667
        refine sX12_gets (p0 := p0) (p1 := p1) (p2 := p2) hI (by omega) ?_
        intro x8_2668 p2669 q2670
        refine ⟨fun c => ?_, fun c => ?_⟩
        · exact ih _ _ (hI.mono (by omega)) (by omega) (by omega)
        · exact ih _ _ (hI.mono (by omega)) (by omega) (by omega)
theorem sX12_isRest {p0 : Int} {p1 : Int} {p2 : Int} {b : Int} {M : Mem} {Q : Int → Mem → Prop} (hI : IM b M) (hp : 0 ≤ p0 ∧ p0 ≤ 9 ∧ 0 ≤ p1 ∧ p1 ≤ 9 ∧ 0 ≤ p2 ∧ p2 ≤ 20) (hQ : ∀ z : Int, Q z M) : qX12_isRest p0 p1 p2 M Q := by
  unfold qX12_isRest
  have hbn := hI.nn
  refine ⟨11, ?_⟩
  refine sX12_isRest_L5 (b := b) (p0 := p0) (p1 := p1) (p2 := p2) (M0 := M) hp ?_ _ _ _ (hI.mono (by omega)) (by omega) (by omega)
  · exact hQ
theorem sX12_rests_L37 {p1 : Int} {X90 : Int → Int → Mem → Prop} {Q : Int → Mem → Prop} {b : Int} {g0 : Int} (hQ : ∀ z : Int, ∀ M' : Mem, IM b M' → Q z M') (hX90 : ∀ w1 w2 : Int, ∀ M' : Mem, IM (b) M' → (w2 = g0 ∧ 0 ≤ w1 ∧ w1 ≤ 10 * g0 + 10 ∧ (w1 = 0 → M' 1 1 = 0)) → X90 w1 w2 M') : ∀ (n : Nat) (v2 v3 v4 : Int) (M : Mem), IM (b) M → (v3 = g0 ∧ 0 ≤ v2 ∧ v2 ≤ 10 * v3 + v4 ∧ 0 ≤ v3 ∧ v3 ≤ 9 ∧ 0 ≤ v4 ∧ v4 ≤ 10 ∧ 0 ≤ p1 ∧ p1 ≤ 20 ∧ (v2 = 0 → M 1 1 = 0)) → 10 - v4 < (n : Int) → qX12_rests_L37 p1 X90 Q n v2 v3 v4 M := by
  intro n
  induction n with
  | zero => intro v2 v3 v4 M hI hv hm; exact absurd hm (by omega)
  | succ n ih =>
    intro v2 v3 v4 M hI hv hm
    rw [qX12_rests_L37]
    have hbn := hI.nn
    have u2673 : 0 ≤ M 1 1 ∧ M 1 1 ≤ 24 := bm_c1_1.mp (hI.bx _ _)
    refine ⟨(by first | assumption | exact ⟨by omega, by omega⟩), ?_⟩
    refine ⟨fun c => ?_, fun c => ?_⟩
    · have u2675 : 0 ≤ M 1 1 ∧ M 1 1 ≤ 24 := bm_c1_1.mp (hI.bx _ _)
      exact hX90 _ _ _ (hI.mono (by omega)) (by omega)
    · refine ⟨(by first | assumption | exact ⟨by omega, by omega⟩), ?_⟩
      refine sX12_isRest (p0 := v3) (p1 := v4) (p2 := p1) hI (by omega) ?_
      intro x11_2677 q2678 q2679
      refine ⟨fun c => ?_, fun c => ?_⟩
      · have u2681 : 0 ≤ M 1 1 ∧ M 1 1 ≤ 24 := bm_c1_1.mp (hI.bx _ _)
        exact ih _ _ _ _ (hI.mono (by omega)) (by omega) (by omega)
      · refine sX12_isRest (p0 := v4) (p1 := v3) (p2 := p1) hI (by omega) ?_
        intro x13_2683 q2684 q2685
        refine ⟨fun c => ?_, fun c => ?_⟩
        · have u2687 : 0 ≤ M 1 1 ∧ M 1 1 ≤ 24 := bm_c1_1.mp (hI.bx _ _)
          exact ih _ _ _ _ (hI.mono (by omega)) (by omega) (by omega)
        · refine ⟨(by first | assumption | exact ⟨by omega, by omega⟩), ?_⟩
          refine ⟨fun c => ?_, fun c => ?_⟩
          · have u2690 : 0 ≤ M 1 1 ∧ M 1 1 ≤ 24 := bm_c1_1.mp (hI.bx _ _)
            exact ih _ _ _ _ (hI.mono (by omega)) (by omega) (by omega)
          · have u2692 : 0 ≤ M 1 1 ∧ M 1 1 ≤ 24 := bm_c1_1.mp (hI.bx _ _)
            refine sX12_enters (p1 := v3) hI (by omega) ?_
            intro M17_2693 hM17_2693 p2694
            have u2695 : 0 ≤ M17_2693 1 1 ∧ M17_2693 1 1 ≤ 24 := bm_c1_1.mp (hM17_2693.bx _ _)
            refine sX12_enters (p1 := v4) hM17_2693 (by omega) ?_
            intro M18_2696 hM18_2696 p2697
            have u2698 : 0 ≤ M18_2696 1 1 ∧ M18_2696 1 1 ≤ 24 := bm_c1_1.mp (hM18_2696.bx _ _)
            exact ih _ _ _ _ (hM18_2696.mono (by omega)) (by omega) (by omega)
theorem sX12_rests_L28 {p1 : Int}  {Q : Int → Mem → Prop} {b : Int} (hQ : ∀ z : Int, ∀ M' : Mem, IM b M' → Q z M') : ∀ (n : Nat) (v2 v3 : Int) (M : Mem), IM (b) M → (0 ≤ v2 ∧ v2 ≤ 10 * v3 ∧ 0 ≤ v3 ∧ v3 ≤ 10 ∧ 0 ≤ p1 ∧ p1 ≤ 20 ∧ (v2 = 0 → M 1 1 = 0)) → 10 - v3 < (n : Int) → qX12_rests_L28 p1 Q n v2 v3 M := by
  intro n
  induction n with
  | zero => intro v2 v3 M hI hv hm; exact absurd hm (by omega)
  | succ n ih =>
    intro v2 v3 M hI hv hm
    rw [qX12_rests_L28]
    have hbn := hI.nn
    have u2699 : 0 ≤ M 1 1 ∧ M 1 1 ≤ 24 := bm_c1_1.mp (hI.bx _ _)
    refine ⟨(by first | assumption | exact ⟨by omega, by omega⟩), ?_⟩
    refine ⟨fun c => ?_, fun c => ?_⟩
    · refine ⟨(by first | assumption | exact ⟨by omega, by omega⟩), ?_⟩
      exact hQ _ _ (hI.mono (by omega))
    · refine ⟨11, ?_⟩
      have u2702 : 0 ≤ M 1 1 ∧ M 1 1 ≤ 24 := bm_c1_1.mp (hI.bx _ _)
      refine sX12_rests_L37 (b := b) (p1 := p1) (g0 := v3) ?_ ?_ _ _ _ _ _ (hI.mono (by omega)) (by omega) (by omega)
      · exact hQ
      · intro v2_2703 v3_2704 M_2705 hM_2705 p2706
        have u2707 : 0 ≤ M_2705 1 1 ∧ M_2705 1 1 ≤ 24 := bm_c1_1.mp (hM_2705.bx _ _)
        exact ih _ _ _ (hM_2705.mono (by omega)) (by omega) (by omega)
theorem sX12_rests {p1 : Int} {b : Int} {M : Mem} {Q : Int → Mem → Prop} (hI : IM b M) (hQ : ∀ z : Int, ∀ M' : Mem, IM b M' → Q z M') : qX12_rests p1 M Q := by
  unfold qX12_rests
  have hbn := hI.nn
  intro M1_2708 h_M1_2708
  have hM1_2708 : IM (b) M1_2708 := by rw [h_M1_2708]; exact hI.up (by omega) (by simp [BM])
  refine sX12_in (p0 := p1) (p2 := 0) (p4 := 20) hM1_2708  ?_
  intro x2_2709 p2710 q2711 q2712
  refine ⟨fun c => ?_, fun c => ?_⟩
  · intro M4_2714 h_M4_2714
    have hM4_2714 : IM (b) M4_2714 := by rw [h_M4_2714]; exact hM1_2708.up (by omega) (bm_c1_1.mpr ⟨by omega, by omega⟩)
    refine ⟨11, ?_⟩
    have u2715 : 0 ≤ M4_2714 1 1 ∧ M4_2714 1 1 ≤ 24 := bm_c1_1.mp (hM4_2714.bx _ _)
    have t2716 : M4_2714 1 1 = 0 := by rw [h_M4_2714, up2_s]
    refine sX12_rests_L28 (b := b) (p1 := p1) ?_ _ _ _ _ (hM4_2714.mono (by omega)) (by omega) (by omega)
    · exact hQ
  · exact hQ _ _ (hM1_2708.mono (by omega))
theorem sX12_draws {p1 : Int} {b : Int} {M : Mem} {Q : Int → Mem → Prop} (hI : IM b M) (hp : 1 ≤ p1 ∧ p1 ≤ 100) (hQ : ∀ z : Int, ∀ M' : Mem, IM b M' → (0 ≤ z ∧ z ≤ p1 - 1) → Q z M') : qX12_draws p1 M Q := by
  unfold qX12_draws
  have hbn := hI.nn
  intro x1_2718 ex1_2718 rx1_2718
  have bx1_2718 : -2147483648 ≤ x1_2718 ∧ x1_2718 ≤ 2147483647 := rx1_2718
  intro x2_2719 ex2_2719 rx2_2719
  first | (have fx2_2719 : x2_2719 = x1_2718 * 1103515245 := by rw [ex2_2719]; exact w32_id ⟨by omega, by omega⟩) | skip
  intro x3_2720 ex3_2720 rx3_2720
  first | (have fx3_2720 : x3_2720 = x2_2719 + 12345 := by rw [ex3_2720]; exact w32_id ⟨by omega, by omega⟩) | skip
  intro M4_2721 h_M4_2721
  have hM4_2721 : IM (b) M4_2721 := by rw [h_M4_2721]; exact hI.up (by omega) (by simp [BM])
  intro x5_2722 ex5_2722 rx5_2722
  have bx5_2722 : -2147483648 ≤ x5_2722 ∧ x5_2722 ≤ 2147483647 := rx5_2722
  have fx5_2722 : x5_2722 = x3_2720 := by rw [ex5_2722, h_M4_2721, up2_s]
  intro x6_2723 ex6_2723 rx6_2723
  have fx6_2723 := usI_16 x5_2722; rw [← ex6_2723] at fx6_2723
  refine ⟨by omega, ?_⟩
  intro x8_2724 ex8_2724 rx8_2724
  first | (have fx8_2724 := rmI_b (a := x6_2723) (b := p1) ⟨by omega, by omega⟩ ⟨by omega, by omega⟩; rw [← ex8_2724] at fx8_2724) | skip
  exact hQ _ _ (hM4_2721.mono (by omega)) (by omega)
theorem sX12_years_L30 {p1 : Int} {p2 : Int} {X120 : Mem → Prop} {Q : Int → Mem → Prop} {b : Int} (hb : b + 60 ≤ 2000000000) (hQ : ∀ z : Int, ∀ M' : Mem, IM (b + 60) M' → Q z M') (hX120 : ∀ M' : Mem, IM (b + 60) M' → X120 M') : ∀ (n : Nat) (v3 : Int) (M : Mem), IM (b + v3) M → (0 ≤ v3 ∧ v3 ≤ 60 ∧ p2 ≤ 60) → 60 - v3 < (n : Int) → qX12_years_L30 p1 p2 X120 Q n v3 M := by
  intro n
  induction n with
  | zero => intro v3 M hI hv hm; exact absurd hm (by omega)
  | succ n ih =>
    intro v3 M hI hv hm
    rw [qX12_years_L30]
    have hbn := hI.nn
    refine ⟨(by first | assumption | exact ⟨by omega, by omega⟩), ?_⟩
    refine ⟨fun c => ?_, fun c => ?_⟩
    · exact hX120 _ (hI.mono (by omega))
    · refine sX12_draws (p1 := 4) hI (by omega) ?_
      intro x8_2727 M8_2728 hM8_2728 p2729 q2730
      refine ⟨fun c => ?_, fun c => ?_⟩
      · intro x10_2732 ex10_2732 rx10_2732
        have bx10_2732 : 0 ≤ x10_2732 ∧ x10_2732 ≤ 8 := by rw [ex10_2732]; exact bm_c1_5.mp (hM8_2728.bx _ _)
        refine ⟨fun c => ?_, fun c => ?_⟩
        · exact ih _ _ (hM8_2728.mono (by omega)) (by omega) (by omega)
        · intro x12_2735 ex12_2735 rx12_2735
          have bx12_2735 : 0 ≤ x12_2735 ∧ x12_2735 ≤ 8 := by rw [ex12_2735]; exact bm_c1_5.mp (hM8_2728.bx _ _)
          refine sX12_draws (p1 := x12_2735) hM8_2728 (by omega) ?_
          intro x13_2736 M13_2737 hM13_2737 p2738 q2739
          refine ⟨fun c => ?_, fun c => ?_⟩
          · refine sX12_draws (p1 := 5) hM13_2737 (by omega) ?_
            intro x15_2741 M15_2742 hM15_2742 p2743 q2744
            refine ⟨(by first | assumption | exact ⟨by omega, by omega⟩), ?_⟩
            refine sX12_pushesOne (p2 := x13_2736) (p3 := x15_2741 - 2) hM15_2742 (Or.inr rfl) ?_
            intro x17_2745 M17_2746 hM17_2746 q2747
            exact ih _ _ (hM17_2746.mono (by omega)) (by omega) (by omega)
          · refine sX12_turnsOne (p2 := x13_2736) hM13_2737 (Or.inr rfl) ?_
            intro x18_2749 M18_2750 hM18_2750 q2751
            exact ih _ _ (hM18_2750.mono (by omega)) (by omega) (by omega)
      · refine sX12_stepGoes  hM8_2728 (by omega) (Or.inr rfl) ?_
        exact ih _ _ (hM8_2728.mono (by omega)) (by omega) (by omega)
theorem sX12_years {p1 : Int} {p2 : Int} {b : Int} {M : Mem} {Q : Int → Mem → Prop} (hI : IM b M) (hb : b + 60 ≤ 2000000000) (hQ : ∀ z : Int, ∀ M' : Mem, IM (b + 60) M' → Q z M') : qX12_years p1 p2 M Q := by
  unfold qX12_years
  have hbn := hI.nn
  intro M1_2753 h_M1_2753
  have hM1_2753 : IM (b) M1_2753 := by rw [h_M1_2753]; exact hI.up (by omega) (by simp [BM])
  refine sX12_in (p0 := p2) (p2 := 1) (p4 := 60) hM1_2753  ?_
  intro x2_2754 p2755 q2756 q2757
  refine ⟨fun c => ?_, fun c => ?_⟩
  · intro M4_2759 h_M4_2759
    have hM4_2759 : IM (b) M4_2759 := by rw [h_M4_2759]; exact hM1_2753.up (by omega) (by simp [BM])
    refine sX12_copies  hM4_2759  ?_
    intro M5_2760 hM5_2760
    refine ⟨61, ?_⟩
    refine sX12_years_L30 (b := b) (p1 := p1) (p2 := p2) hb ?_ ?_ _ _ _ (hM5_2760.mono (by omega)) (by omega) (by omega)
    · exact hQ
    · intro M_2761 hM_2761
      refine sX12_endedBy (p2 := 1) hM_2761 (Or.inr rfl) ?_
      intro x21_2762 q2763
      refine sX12_endedBy (p2 := 0) hM_2761 (Or.inr rfl) ?_
      intro x22_2764 q2765
      intro x23_2766 ex23_2766 rx23_2766
      first | (have fx23_2766 := oI_64 (a := x21_2762) (b := x22_2764) ⟨by omega, by omega⟩ ⟨by omega, by omega⟩; rw [← ex23_2766] at fx23_2766) | skip
      intro M24_2767 h_M24_2767
      have hM24_2767 : IM (b + 60) M24_2767 := by rw [h_M24_2767]; exact hM_2761.up (by omega) (bm_c1_1.mpr ⟨by omega, by omega⟩)
      refine sJ6_bitCountM (p0 := x23_2766) hM24_2767  ?_
      intro x25_2768 p2769 q2770
      have u2771 : 0 ≤ M24_2767 1 1 ∧ M24_2767 1 1 ≤ 24 := bm_c1_1.mp (hM24_2767.bx _ _)
      have t2772 : M24_2767 1 1 = 0 := by rw [h_M24_2767, up2_s]
      refine sX12_enters (p1 := x25_2768) hM24_2767 (by omega) ?_
      intro M26_2773 hM26_2773 p2774
      refine sX12_endedBy (p2 := 1) hM26_2773 (Or.inr rfl) ?_
      intro x27_2775 q2776
      refine sJ6_bitCountM (p0 := x27_2775) hM26_2773  ?_
      intro x28_2777 p2778 q2779
      have u2780 : 0 ≤ M26_2773 1 1 ∧ M26_2773 1 1 ≤ 24 := bm_c1_1.mp (hM26_2773.bx _ _)
      refine sX12_enters (p1 := x28_2777) hM26_2773 (by omega) ?_
      intro M29_2781 hM29_2781 p2782
      intro x30_2783 ex30_2783 rx30_2783
      have bx30_2783 : -2147483648 ≤ x30_2783 ∧ x30_2783 ≤ 2147483647 := rx30_2783
      exact hQ _ _ (hM29_2781.mono (by omega))
  · exact hQ _ _ (hM1_2753.mono (by omega))
theorem sX12_keep_L38 {p1 : Int}  {Q : Int → Mem → Prop} {b : Int} (hQ : ∀ z : Int, ∀ M' : Mem, IM b M' → Q z M') : ∀ (n : Nat) (v2 : Int) (M : Mem), IM (b) M → (0 ≤ v2 ∧ v2 ≤ 38 ∧ 0 ≤ p1 ∧ p1 ≤ 2) → 38 - v2 < (n : Int) → qX12_keep_L38 p1 Q n v2 M := by
  intro n
  induction n with
  | zero => intro v2 M hI hv hm; exact absurd hm (by omega)
  | succ n ih =>
    intro v2 M hI hv hm
    rw [qX12_keep_L38]
    have hbn := hI.nn
    refine ⟨(by first | assumption | exact ⟨by omega, by omega⟩), ?_⟩
    refine ⟨fun c => ?_, fun c => ?_⟩
    · exact hQ _ _ (hI.mono (by omega))
    · refine ⟨by omega, ?_⟩
      refine ⟨by omega, ?_⟩
      intro x13_2787 ex13_2787 rx13_2787
      have rbx13_2787 : -2147483648 ≤ x13_2787 ∧ x13_2787 ≤ 2147483647 := rx13_2787
      have nbx13_2787 : BN (b) v2 x13_2787 := by rw [ex13_2787]; exact (bm_n (Or.inl rfl)).mp (hI.bx _ _)
      first | (have bx13_2787 : -1 ≤ x13_2787 ∧ x13_2787 ≤ 29 := nbx13_2787.1 ⟨by omega, by omega⟩) | (have bx13_2787 : -1 ≤ x13_2787 ∧ x13_2787 ≤ 29 := nbx13_2787.2.1 ⟨by omega, by omega⟩) | skip
      refine ⟨by omega, ?_⟩
      refine ⟨by omega, ?_⟩
      intro M16_2788 h_M16_2788
      have hM16_2788 : IM (b) M16_2788 := by rw [h_M16_2788]; exact hI.up (by omega) (bm_c31.mpr (by rw [show (38 * p1 + v2) % 38 = v2 from by omega]; assumption))
      exact ih _ _ (hM16_2788.mono (by omega)) (by omega) (by omega)
theorem sX12_keep {p1 : Int} {b : Int} {M : Mem} {Q : Int → Mem → Prop} (hI : IM b M) (hQ : ∀ z : Int, ∀ M' : Mem, IM b M' → Q z M') : qX12_keep p1 M Q := by
  unfold qX12_keep
  have hbn := hI.nn
  intro M1_2789 h_M1_2789
  have hM1_2789 : IM (b) M1_2789 := by rw [h_M1_2789]; exact hI.up (by omega) (by simp [BM])
  refine sX12_in (p0 := p1) (p2 := 0) (p4 := 2) hM1_2789  ?_
  intro x2_2790 p2791 q2792 q2793
  refine ⟨fun c => ?_, fun c => ?_⟩
  · refine ⟨by omega, ?_⟩
    refine ⟨by omega, ?_⟩
    intro M6_2795 h_M6_2795
    have hM6_2795 : IM (b) M6_2795 := by rw [h_M6_2795]; exact hM1_2789.up (by omega) (by simp [BM])
    intro x7_2796 ex7_2796 rx7_2796
    have bx7_2796 : 0 ≤ x7_2796 ∧ x7_2796 ≤ (b) := by rw [ex7_2796]; exact bm_c1_6.mp (hM6_2795.bx _ _)
    have fx7_2796 : x7_2796 = M 1 6 := by rw [ex7_2796, h_M6_2795, up2_n (by decide), h_M1_2789, up2_j (by decide)]
    intro M8_2797 h_M8_2797
    have hM8_2797 : IM (b) M8_2797 := by rw [h_M8_2797]; exact hM6_2795.up (by omega) (by simp [BM])
    refine ⟨39, ?_⟩
    refine sX12_keep_L38 (b := b) (p1 := p1) ?_ _ _ _ (hM8_2797.mono (by omega)) (by omega) (by omega)
    · exact hQ
  · exact hQ _ _ (hM1_2789.mono (by omega))
theorem sX12_again_L43 {p1 : Int}  {Q : Int → Mem → Prop} {b : Int} (hQ : ∀ z : Int, ∀ M' : Mem, IM b M' → Q z M') : ∀ (n : Nat) (v2 : Int) (M : Mem), IM (b) M → (0 ≤ v2 ∧ v2 ≤ 38 ∧ 0 ≤ p1 ∧ p1 ≤ 2) → 38 - v2 < (n : Int) → qX12_again_L43 p1 Q n v2 M := by
  intro n
  induction n with
  | zero => intro v2 M hI hv hm; exact absurd hm (by omega)
  | succ n ih =>
    intro v2 M hI hv hm
    rw [qX12_again_L43]
    have hbn := hI.nn
    refine ⟨(by first | assumption | exact ⟨by omega, by omega⟩), ?_⟩
    refine ⟨fun c => ?_, fun c => ?_⟩
    · intro M13_2800 h_M13_2800
      have hM13_2800 : IM (b) M13_2800 := by rw [h_M13_2800]; exact hI.up (by omega) (bm_c1_28.mpr ⟨by omega, by omega⟩)
      exact hQ _ _ (hM13_2800.mono (by omega))
    · refine ⟨by omega, ?_⟩
      refine ⟨by omega, ?_⟩
      intro x16_2802 ex16_2802 rx16_2802
      have nbx16_2802 : BN (b) v2 x16_2802 := by rw [ex16_2802]; have q := bm_c31.mp (hI.bx 31 (38 * p1 + v2)); rwa [show (38 * p1 + v2) % 38 = v2 from by omega] at q
      refine ⟨by omega, ?_⟩
      refine ⟨by omega, ?_⟩
      intro M19_2803 h_M19_2803
      have hM19_2803 : IM (b) M19_2803 := by rw [h_M19_2803]; exact hI.up (by omega) ((bm_n (Or.inl rfl)).mpr (by first | assumption | exact ⟨by omega, by omega, by omega, by omega⟩))
      exact ih _ _ (hM19_2803.mono (by omega)) (by omega) (by omega)
theorem sX12_again {p1 : Int} {b : Int} {M : Mem} {Q : Int → Mem → Prop} (hI : IM b M) (hQ : ∀ z : Int, ∀ M' : Mem, IM b M' → Q z M') : qX12_again p1 M Q := by
  unfold qX12_again
  have hbn := hI.nn
  intro M1_2804 h_M1_2804
  have hM1_2804 : IM (b) M1_2804 := by rw [h_M1_2804]; exact hI.up (by omega) (by simp [BM])
  refine sX12_in (p0 := p1) (p2 := 0) (p4 := 2) hM1_2804  ?_
  intro x2_2805 p2806 q2807 q2808
  refine ⟨fun c => ?_, fun c => ?_⟩
  · exact hQ _ _ (hM1_2804.mono (by omega))
  · refine ⟨by omega, ?_⟩
    refine ⟨by omega, ?_⟩
    intro x6_2811 ex6_2811 rx6_2811
    have bx6_2811 : -2147483648 ≤ x6_2811 ∧ x6_2811 ≤ 2147483647 := rx6_2811
    have fx6_2811 : x6_2811 = M 29 p1 := by rw [ex6_2811, h_M1_2804, up2_n (by decide)]
    refine ⟨fun c => ?_, fun c => ?_⟩
    · exact hQ _ _ (hM1_2804.mono (by omega))
    · intro x8_2814 ex8_2814 rx8_2814
      have bx8_2814 : -2147483648 ≤ x8_2814 ∧ x8_2814 ≤ 2147483647 := rx8_2814
      have fx8_2814 : x8_2814 = M 30 p1 := by rw [ex8_2814, h_M1_2804, up2_n (by decide)]
      intro x9_2815 ex9_2815 rx9_2815
      have bx9_2815 : 0 ≤ x9_2815 ∧ x9_2815 ≤ (b) := by rw [ex9_2815]; exact bm_c1_6.mp (hM1_2804.bx _ _)
      have fx9_2815 : x9_2815 = M 1 6 := by rw [ex9_2815, h_M1_2804, up2_j (by decide)]
      refine ⟨fun c => ?_, fun c => ?_⟩
      · refine ⟨39, ?_⟩
        refine sX12_again_L43 (b := b) (p1 := p1) ?_ _ _ _ (hM1_2804.mono (by omega)) (by omega) (by omega)
        · exact hQ
      · exact hQ _ _ (hM1_2804.mono (by omega))
theorem sX12_count_L9 {p1 : Int} {X35 : Int → Mem → Prop} {Q : Int → Mem → Prop} {b : Int} (hQ : ∀ z : Int, ∀ M' : Mem, IM b M' → Q z M') (hX35 : ∀ w1 : Int, ∀ M' : Mem, IM (b) M' → (0 ≤ w1 ∧ w1 ≤ 30) → X35 w1 M') : ∀ (n : Nat) (v2 v3 : Int) (M : Mem), IM (b) M → (0 ≤ v3 ∧ v3 ≤ 30 ∧ 0 ≤ v2 ∧ v2 ≤ v3) → 30 - v3 < (n : Int) → qX12_count_L9 p1 X35 Q n v2 v3 M := by
  intro n
  induction n with
  | zero => intro v2 v3 M hI hv hm; exact absurd hm (by omega)
  | succ n ih =>
    intro v2 v3 M hI hv hm
    rw [qX12_count_L9]
    have hbn := hI.nn
    intro x2_2818 ex2_2818 rx2_2818
    have bx2_2818 : 4 ≤ x2_2818 ∧ x2_2818 ≤ 30 := by rw [ex2_2818]; exact bm_c1_3.mp (hI.bx _ _)
    refine ⟨(by first | assumption | exact ⟨by omega, by omega⟩), ?_⟩
    refine ⟨fun c => ?_, fun c => ?_⟩
    · exact hX35 _ _ (hI.mono (by omega)) (by omega)
    · refine ⟨by omega, ?_⟩
      refine ⟨by omega, ?_⟩
      intro x7_2821 ex7_2821 rx7_2821
      have bx7_2821 : -2147483648 ≤ x7_2821 ∧ x7_2821 ≤ 2147483647 := rx7_2821
      refine sX12_flag (p0 := x7_2821) hI  ?_
      intro x8_2822 p2823 q2824
      exact ih _ _ _ (hI.mono (by omega)) (by omega) (by omega)
theorem sX12_count {p1 : Int} {b : Int} {M : Mem} {Q : Int → Mem → Prop} (hI : IM b M) (hQ : ∀ z : Int, ∀ M' : Mem, IM b M' → Q z M') : qX12_count p1 M Q := by
  unfold qX12_count
  have hbn := hI.nn
  intro M1_2825 h_M1_2825
  have hM1_2825 : IM (b) M1_2825 := by rw [h_M1_2825]; exact hI.up (by omega) (by simp [BM])
  refine ⟨31, ?_⟩
  refine sX12_count_L9 (b := b) (p1 := p1) ?_ ?_ _ _ _ _ (hM1_2825.mono (by omega)) (by omega) (by omega)
  · exact hQ
  · intro v2_2826 M_2827 hM_2827 p2828
    refine ⟨fun c => ?_, fun c => ?_, fun c => ?_, fun c => ?_, fun c => ?_, fun c => ?_, fun c => ?_, fun c => ?_, fun c => ?_, fun c => ?_, fun c => ?_, fun c => ?_, fun c => ?_, fun c => ?_⟩
    · intro x11_2830 ex11_2830 rx11_2830
      have bx11_2830 : 4 ≤ x11_2830 ∧ x11_2830 ≤ 30 := by rw [ex11_2830]; exact bm_c1_3.mp (hM_2827.bx _ _)
      exact hQ _ _ (hM_2827.mono (by omega))
    · intro x12_2832 ex12_2832 rx12_2832
      have bx12_2832 : 0 ≤ x12_2832 ∧ x12_2832 ≤ 6 := by rw [ex12_2832]; exact bm_c1_4.mp (hM_2827.bx _ _)
      exact hQ _ _ (hM_2827.mono (by omega))
    · intro x13_2834 ex13_2834 rx13_2834
      have bx13_2834 : 0 ≤ x13_2834 ∧ x13_2834 ≤ 8 := by rw [ex13_2834]; exact bm_c1_5.mp (hM_2827.bx _ _)
      exact hQ _ _ (hM_2827.mono (by omega))
    · intro x14_2836 ex14_2836 rx14_2836
      have rbx14_2836 : -2147483648 ≤ x14_2836 ∧ x14_2836 ≤ 2147483647 := rx14_2836
      first | (have bx14_2836 : 0 ≤ x14_2836 ∧ x14_2836 ≤ (b) := by rw [ex14_2836]; exact ((bm_n (Or.inl rfl)).mp (hM_2827.bx _ _)).2.2.2 (by omega)) | skip
      exact hQ _ _ (hM_2827.mono (by omega))
    · intro x15_2838 ex15_2838 rx15_2838
      have bx15_2838 : -2147483648 ≤ x15_2838 ∧ x15_2838 ≤ 2147483647 := rx15_2838
      exact hQ _ _ (hM_2827.mono (by omega))
    · refine sX12_endedBy (p2 := 1) hM_2827 (Or.inl rfl) ?_
      intro x16_2840 q2841
      refine sX12_endedBy (p2 := 0) hM_2827 (Or.inl rfl) ?_
      intro x17_2842 q2843
      intro x18_2844 ex18_2844 rx18_2844
      first | (have fx18_2844 := oI_64 (a := x16_2840) (b := x17_2842) ⟨by omega, by omega⟩ ⟨by omega, by omega⟩; rw [← ex18_2844] at fx18_2844) | skip
      refine sJ6_bitCountM (p0 := x18_2844) hM_2827  ?_
      intro x19_2845 p2846 q2847
      exact hQ _ _ (hM_2827.mono (by omega))
    · refine sX12_endedBy (p2 := 1) hM_2827 (Or.inl rfl) ?_
      intro x20_2849 q2850
      refine sJ6_bitCountM (p0 := x20_2849) hM_2827  ?_
      intro x21_2851 p2852 q2853
      exact hQ _ _ (hM_2827.mono (by omega))
    · refine ⟨(by first | assumption | exact ⟨by omega, by omega⟩), ?_⟩
      exact hQ _ _ (hM_2827.mono (by omega))
    · intro x23_2856 ex23_2856 rx23_2856
      have rbx23_2856 : -2147483648 ≤ x23_2856 ∧ x23_2856 ≤ 2147483647 := rx23_2856
      first | (have bx23_2856 : 0 ≤ x23_2856 ∧ x23_2856 ≤ (b) := by rw [ex23_2856]; exact ((bm_n (Or.inl rfl)).mp (hM_2827.bx _ _)).2.2.2 (by omega)) | skip
      refine sX12_weatherOn (p1 := x23_2856) hM_2827 (by omega) ?_
      intro x24_2857 q2858
      exact hQ _ _ (hM_2827.mono (by omega))
    · intro x25_2860 ex25_2860 rx25_2860
      have bx25_2860 : 0 ≤ x25_2860 ∧ x25_2860 ≤ 8 := by rw [ex25_2860]; exact bm_c1_45.mp (hM_2827.bx _ _)
      exact hQ _ _ (hM_2827.mono (by omega))
    · intro x26_2862 ex26_2862 rx26_2862
      have bx26_2862 : 0 ≤ x26_2862 ∧ x26_2862 ≤ 15 := by rw [ex26_2862]; exact bm_c1_28.mp (hM_2827.bx _ _)
      exact hQ _ _ (hM_2827.mono (by omega))
    · intro x27_2864 ex27_2864 rx27_2864
      have bx27_2864 : 0 ≤ x27_2864 ∧ x27_2864 ≤ 24 := by rw [ex27_2864]; exact bm_c1_1.mp (hM_2827.bx _ _)
      exact hQ _ _ (hM_2827.mono (by omega))
    · intro x28_2866 ex28_2866 rx28_2866
      have bx28_2866 : 0 ≤ x28_2866 ∧ x28_2866 ≤ 80 := by rw [ex28_2866]; exact bm_c1_14.mp (hM_2827.bx _ _)
      exact hQ _ _ (hM_2827.mono (by omega))
    · exact hQ _ _ (hM_2827.mono (by omega))
theorem sX12_row {p1 : Int} {b : Int} {M : Mem} {Q : Int → Mem → Prop} (hI : IM b M) (hQ : ∀ z : Int, ∀ M' : Mem, IM b M' → Q z M') : qX12_row p1 M Q := by
  unfold qX12_row
  have hbn := hI.nn
  intro M1_2868 h_M1_2868
  have hM1_2868 : IM (b) M1_2868 := by rw [h_M1_2868]; exact hI.up (by omega) (by simp [BM])
  intro x2_2869 ex2_2869 rx2_2869
  have bx2_2869 : 0 ≤ x2_2869 ∧ x2_2869 ≤ 24 := by rw [ex2_2869]; exact bm_c1_1.mp (hM1_2868.bx _ _)
  have fx2_2869 : x2_2869 = M 1 1 := by rw [ex2_2869, h_M1_2868, up2_j (by decide)]
  refine ⟨(by first | assumption | exact ⟨by omega, by omega⟩), ?_⟩
  refine sX12_in (p0 := p1) (p2 := 0) (p4 := x2_2869 - 1) hM1_2868  ?_
  intro x4_2870 p2871 q2872 q2873
  refine ⟨fun c => ?_, fun c => ?_⟩
  · refine ⟨by omega, ?_⟩
    refine ⟨by omega, ?_⟩
    intro x8_2875 ex8_2875 rx8_2875
    have fx8_2875 : x8_2875 = M 0 p1 := by rw [ex8_2875, h_M1_2868, up2_n (by decide)]
    exact hQ _ _ (hM1_2868.mono (by omega))
  · intro M9_2877 h_M9_2877
    have hM9_2877 : IM (b) M9_2877 := by rw [h_M9_2877]; exact hM1_2868.up (by omega) (by simp [BM])
    exact hQ _ _ (hM9_2877.mono (by omega))
