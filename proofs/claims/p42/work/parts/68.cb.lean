section
theorem sX5_bindingOf {p0 : Int} {M : Mem} {Q : Int → Mem → Prop} (hI : IX M) (hQ : ∀ z : Int, (0 ≤ z ∧ z ≤ 4 ∧ (1 ≤ z → ¬ p0 = 40 ∧ ¬ p0 = 301)) → Q z M) : qX5_bindingOf p0 M Q := by
  unfold qX5_bindingOf
  refine ⟨fun c => ?_, fun c => ?_, fun c => ?_, fun c => ?_, fun c => ?_, fun c => ?_, fun c => ?_, fun c => ?_, fun c => ?_⟩
  · exact hQ _ (by omega)
  · exact hQ _ (by omega)
  · exact hQ _ (by omega)
  · exact hQ _ (by omega)
  · exact hQ _ (by omega)
  · exact hQ _ (by omega)
  · exact hQ _ (by omega)
  · exact hQ _ (by omega)
  · exact hQ _ (by omega)
theorem sX5_latestBinding  {M : Mem} {Q : Int → Mem → Prop} (hI : IX M) (hQ : ∀ z : Int, Q z M) : qX5_latestBinding M Q := by
  unfold qX5_latestBinding
  intro x1_361 ex1_361 rx1_361
  have bx1_361 : 0 ≤ x1_361 ∧ x1_361 ≤ 40 := by rw [ex1_361]; exact (bx_c185_1).mp (hI.bx _ _)
  refine ⟨fun c => ?_, fun c => ?_⟩
  · exact hQ _
  · intro x3_364 ex3_364 rx3_364
    have bx3_364 : 0 ≤ x3_364 ∧ x3_364 ≤ 40 := by rw [ex3_364]; exact (bx_c185_1).mp (hI.bx _ _)
    refine ⟨by omega, ?_⟩
    refine ⟨by omega, ?_⟩
    intro x6_365 ex6_365 rx6_365
    have bx6_365 : -2147483648 ≤ x6_365 ∧ x6_365 ≤ 2147483647 := rx6_365
    refine sX5_bindingOf (p0 := x6_365) hI  ?_
    intro x7_366 p367 q368
    exact hQ _
theorem sX9_isRead  {M : Mem} {Q : Int → Mem → Prop} (hI : IX M) (hQ : ∀ z : Int, Q z M) : qX9_isRead M Q := by
  unfold qX9_isRead
  intro x1_369 ex1_369 rx1_369
  have bx1_369 : 0 ≤ x1_369 ∧ x1_369 ≤ 80 := by rw [ex1_369]; exact (bx_c156_2).mp (hI.bx _ _)
  intro x2_370 ex2_370 rx2_370
  have bx2_370 : 0 ≤ x2_370 ∧ x2_370 ≤ 80 := by rw [ex2_370]; exact (bx_c156_3).mp (hI.bx _ _)
  refine ⟨fun c => ?_, fun c => ?_⟩
  · exact hQ _
  · exact hQ _
theorem sX8_putOnStreet {p1 : Int} {M : Mem} {Q : Int → Mem → Prop} (hI : IX M) (hQ : ∀ z : Int, (0 ≤ z ∧ z ≤ 29) → Q z M) : qX8_putOnStreet p1 M Q := by
  unfold qX8_putOnStreet
  refine sX8_gate  hI  ?_
  intro x1_373 p374 q375
  refine ⟨(by first | assumption | exact (by omega)), ?_⟩
  intro x3_376 ex3_376 rx3_376
  intro x4_377 ex4_377 rx4_377
  exact hQ _ (by omega)
theorem sX6_hasEnded {k0 : Nat} {p1 : Int} {M : Mem} {Q : Int → Mem → Prop} (hI : IX M) (hk0 : isS k0) (hp : 0 ≤ p1 ∧ p1 ≤ 7) (hQ : ∀ z : Int, Q z M) : qX6_hasEnded k0 p1 M Q := by
  unfold qX6_hasEnded
  have ek0 : 0 < k0 ∧ k0 < 155 ∧ (k0 - 1) % 7 = 0 := hk0
  refine ⟨by omega, ?_⟩
  refine ⟨by omega, ?_⟩
  intro x3_393 ex3_393 rx3_393
  have bx3_393 : -2147483648 ≤ x3_393 ∧ x3_393 ≤ 2147483647 := rx3_393
  refine ⟨fun c => ?_, fun c => ?_⟩
  · exact hQ _
  · exact hQ _
theorem sX10_goal_L15 {p1 : Int} {p2 : Int} {p3 : Int}  {Q : Int → Mem → Prop} {M0 : Mem} (hp : 0 ≤ p2 ∧ p2 ≤ 29 ∧ 0 ≤ p3 ∧ p3 ≤ 3) (hQ : ∀ z : Int, (z = -1 ∨ p2 < z ∧ z ≤ 29) → Q z M0) : ∀ (n : Nat) (v4 : Int), IX M0 → (-1 ≤ v4 ∧ v4 ≤ 29) → v4 + 1 < (n : Int) → qX10_goal_L15 p1 p2 p3 Q n v4 M0 := by
  intro n
  induction n with
  | zero => intro v4 hI hv hm; exact absurd hm (by omega)
  | succ n ih =>
    intro v4 hI hv hm
    rw [qX10_goal_L15]
    refine ⟨(by first | assumption | exact (by omega)), ?_⟩
    refine ⟨fun c => ?_, fun c => ?_⟩
    · exact hQ _ (by omega)
    · intro x6_455 ex6_455 rx6_455
      intro x7_456 ex7_456 rx7_456
      first | (have fx7_456 := slI_1 (b := p2) (by omega); rw [← ex7_456] at fx7_456) | skip
      intro x8_457 ex8_457 rx8_457
      first | (have fx8_457 := slI_1 (b := v4) (by omega); rw [← ex8_457] at fx8_457) | skip
      intro x9_458 ex9_458 rx9_458
      intro x10_459 ex10_459 rx10_459
      intro x11_460 ex11_460 rx11_460
      have fx11_460 := aI_1 x10_459; rw [← ex11_460] at fx11_460
      refine ⟨fun c => ?_, fun c => ?_⟩
      · unfold qX10_goal_J55
        refine ⟨(by first | assumption | exact (by omega)), ?_⟩
        refine ⟨fun c => ?_, fun c => ?_⟩
        · exact ih _ hI (by omega) (by omega)
        · intro x15_464 ex15_464 rx15_464
          refine ⟨fun c => ?_, fun c => ?_⟩
          · refine ⟨(by first | assumption | exact (by omega)), ?_⟩
            exact hQ _ (by omega)
          · intro x18_467 ex18_467 rx18_467
            have bx18_467 : -2147483648 ≤ x18_467 ∧ x18_467 ≤ 2147483647 := rx18_467
            intro x19_468 ex19_468 rx19_468
            refine ⟨fun c => ?_, fun c => ?_⟩
            · exact ih _ hI (by omega) (by omega)
            · refine ⟨(by first | assumption | exact (by omega)), ?_⟩
              exact hQ _ (by omega)
      · unfold qX10_goal_J55
        refine ⟨(by first | assumption | exact (by omega)), ?_⟩
        refine ⟨fun c => ?_, fun c => ?_⟩
        · exact ih _ hI (by omega) (by omega)
        · intro x15_474 ex15_474 rx15_474
          refine ⟨fun c => ?_, fun c => ?_⟩
          · refine ⟨(by first | assumption | exact (by omega)), ?_⟩
            exact hQ _ (by omega)
          · intro x18_477 ex18_477 rx18_477
            have bx18_477 : -2147483648 ≤ x18_477 ∧ x18_477 ≤ 2147483647 := rx18_477
            intro x19_478 ex19_478 rx19_478
            refine ⟨fun c => ?_, fun c => ?_⟩
            · exact ih _ hI (by omega) (by omega)
            · refine ⟨(by first | assumption | exact (by omega)), ?_⟩
              exact hQ _ (by omega)
theorem sX10_goal {p1 : Int} {p2 : Int} {p3 : Int} {M : Mem} {Q : Int → Mem → Prop} (hI : IX M) (hp : 0 ≤ p2 ∧ p2 ≤ 29 ∧ 0 ≤ p3 ∧ p3 ≤ 3) (hQ : ∀ z : Int, (z = -1 ∨ p2 < z ∧ z ≤ 29) → Q z M) : qX10_goal p1 p2 p3 M Q := by
  unfold qX10_goal
  refine sX8_gate  hI  ?_
  intro x1_481 p482 q483
  refine ⟨(by first | assumption | exact (by omega)), ?_⟩
  intro x3_484 ex3_484 rx3_484
  refine ⟨31, ?_⟩
  refine sX10_goal_L15 hp ?_ _ _ hI (by omega) (by omega)
  · exact hQ
theorem sJ6_bitCount_0f7a4 {p0 : Int} {M : Mem} {Q : Int → Mem → Prop} (hI : IX M) (hQ : ∀ z : Int, (0 ≤ z ∧ z ≤ 63) → Q z M) : qJ6_bitCount_0f7a4 p0 M Q := by
  unfold qJ6_bitCount_0f7a4
  intro x1_485 ex1_485 rx1_485
  intro x2_486 ex2_486 rx2_486
  intro x3_487 ex3_487 rx3_487
  intro x4_488 ex4_488 rx4_488
  intro x5_489 ex5_489 rx5_489
  intro x6_490 ex6_490 rx6_490
  intro x7_491 ex7_491 rx7_491
  intro x8_492 ex8_492 rx8_492
  intro x9_493 ex9_493 rx9_493
  have fx9_493 := usI_16 (x7_491 + x8_492); rw [← ex9_493] at fx9_493
  intro x10_494 ex10_494 rx10_494
  have fx10_494 := aI_63 (x7_491 + x8_492 + x9_493); rw [← ex10_494] at fx10_494
  exact hQ _ (by omega)
theorem sX2_uses {k0 : Nat} {p1 : Int} {M : Mem} {Q : Int → Mem → Prop} (hI : IX M) (hk0 : isL k0) (hQ : ∀ z : Int, Q z M) : qX2_uses k0 p1 M Q := by
  unfold qX2_uses
  have ek0 : k0 = 187 ∨ k0 = 192 := hk0
  intro x1_495 ex1_495 rx1_495
  have bx1_495 : -2147483648 ≤ x1_495 ∧ x1_495 ≤ 2147483647 := rx1_495
  intro x2_496 ex2_496 rx2_496
  intro x3_497 ex3_497 rx3_497
  have fx3_497 := aI_1 x2_496; rw [← ex3_497] at fx3_497
  refine ⟨fun c => ?_, fun c => ?_⟩
  · exact hQ _
  · exact hQ _
theorem sX6_bitsOf_L5 {k0 : Nat} {k1 : Nat} {p2 : Int}  {Q : Int → Mem → Prop} {M0 : Mem} (hk0 : isS k0) (hQ : ∀ z : Int, Q z M0) : ∀ (n : Nat) (v3 v4 : Int), IX M0 → (0 ≤ v4 ∧ v4 ≤ 8) → iR v3 → 8 - v4 < (n : Int) → qX6_bitsOf_L5 k0 k1 p2 Q n v3 v4 M0 := by
  intro n
  induction n with
  | zero => intro v3 v4 hI hv hrv3 hm; exact absurd hm (by omega)
  | succ n ih =>
    intro v3 v4 hI hv hrv3 hm
    rw [qX6_bitsOf_L5]
    have ek0 : 0 < k0 ∧ k0 < 155 ∧ (k0 - 1) % 7 = 0 := hk0
    intro x1_500 ex1_500 rx1_500
    have bx1_500 : 0 ≤ x1_500 ∧ x1_500 ≤ 8 := by rw [ex1_500]; exact (bx_s0_7 hk0).mp (hI.bx _ _)
    refine ⟨(by first | assumption | exact (by omega)), ?_⟩
    refine ⟨fun c => ?_, fun c => ?_⟩
    · refine ⟨(by first | assumption | exact (by omega)), ?_⟩
      exact hQ _
    · refine ⟨by omega, ?_⟩
      refine ⟨by omega, ?_⟩
      intro x7_503 ex7_503 rx7_503
      have bx7_503 : -2147483648 ≤ x7_503 ∧ x7_503 ≤ 2147483647 := rx7_503
      refine ⟨fun c => ?_, fun c => ?_⟩
      · intro x9_505 ex9_505 rx9_505
        first | (have fx9_505 := oI_64 (a := v3) (b := 0) (by omega) (by omega); rw [← ex9_505] at fx9_505) | skip
        exact ih _ _ hI (by omega) (by first | assumption | exact (by omega)) (by omega)
      · intro x10_507 ex10_507 rx10_507
        first | (have fx10_507 := slI_1 (b := v4) (by omega); rw [← ex10_507] at fx10_507) | skip
        intro x11_508 ex11_508 rx11_508
        first | (have fx11_508 := oI_64 (a := v3) (b := x10_507) (by omega) (by omega); rw [← ex11_508] at fx11_508) | skip
        exact ih _ _ hI (by omega) (by first | assumption | exact (by omega)) (by omega)
theorem sX6_bitsOf {k0 : Nat} {k1 : Nat} {p2 : Int} {M : Mem} {Q : Int → Mem → Prop} (hI : IX M) (hk0 : isS k0) (hQ : ∀ z : Int, Q z M) : qX6_bitsOf k0 k1 p2 M Q := by
  unfold qX6_bitsOf
  have ek0 : 0 < k0 ∧ k0 < 155 ∧ (k0 - 1) % 7 = 0 := hk0
  refine ⟨9, ?_⟩
  refine sX6_bitsOf_L5 hk0 ?_ _ _ _ hI (by omega) (by first | assumption | exact (by omega)) (by omega)
  · exact hQ
theorem sX6_freeAhead_L15 {k0 : Nat} {p1 : Int} {p2 : Int}  {Q : Int → Mem → Prop} {M0 : Mem} (hk0 : isS k0) (hp : 0 ≤ p1 ∧ p1 ≤ 5 ∧ 0 ≤ p2 ∧ p2 ≤ 29) (hQ : ∀ z : Int, Q z M0) : ∀ (n : Nat) (v3 v4 v5 : Int), IX M0 → (-1 ≤ v3 ∧ v3 ≤ 29 ∧ -60 ≤ v4 ∧ v4 ≤ 60 ∧ 0 ≤ v5 ∧ v5 ≤ 6) → 6 - v5 < (n : Int) → qX6_freeAhead_L15 k0 p1 p2 Q n v3 v4 v5 M0 := by
  intro n
  induction n with
  | zero => intro v3 v4 v5 hI hv hm; exact absurd hm (by omega)
  | succ n ih =>
    intro v3 v4 v5 hI hv hm
    rw [qX6_freeAhead_L15]
    have ek0 : 0 < k0 ∧ k0 < 155 ∧ (k0 - 1) % 7 = 0 := hk0
    intro x4_509 ex4_509 rx4_509
    have bx4_509 : 0 ≤ x4_509 ∧ x4_509 ≤ 6 := by rw [ex4_509]; exact (bx_s0_6 hk0).mp (hI.bx _ _)
    refine ⟨(by first | assumption | exact (by omega)), ?_⟩
    refine ⟨fun c => ?_, fun c => ?_⟩
    · refine ⟨(by first | assumption | exact (by omega)), ?_⟩
      exact hQ _
    · refine ⟨by omega, ?_⟩
      refine ⟨by omega, ?_⟩
      intro x10_512 ex10_512 rx10_512
      have bx10_512 : -1 ≤ x10_512 ∧ x10_512 ≤ 29 := by rw [ex10_512]; exact (bx_s1 hk0).mp (hI.bx _ _)
      refine ⟨(by first | assumption | exact (by omega)), ?_⟩
      refine ⟨fun c => ?_, fun c => ?_⟩
      · exact ih _ _ _ hI (by omega) (by omega)
      · refine ⟨(by first | assumption | exact (by omega)), ?_⟩
        refine ⟨fun c => ?_, fun c => ?_⟩
        · exact ih _ _ _ hI (by omega) (by omega)
        · exact ih _ _ _ hI (by omega) (by omega)
theorem sX6_freeAhead {k0 : Nat} {p1 : Int} {p2 : Int} {M : Mem} {Q : Int → Mem → Prop} (hI : IX M) (hk0 : isS k0) (hp : 0 ≤ p1 ∧ p1 ≤ 5 ∧ 0 ≤ p2 ∧ p2 ≤ 29) (hQ : ∀ z : Int, Q z M) : qX6_freeAhead k0 p1 p2 M Q := by
  unfold qX6_freeAhead
  have ek0 : 0 < k0 ∧ k0 < 155 ∧ (k0 - 1) % 7 = 0 := hk0
  refine ⟨by omega, ?_⟩
  refine ⟨by omega, ?_⟩
  intro x3_517 ex3_517 rx3_517
  have bx3_517 : -1 ≤ x3_517 ∧ x3_517 ≤ 29 := by rw [ex3_517]; exact (bx_s1 hk0).mp (hI.bx _ _)
  refine ⟨7, ?_⟩
  refine sX6_freeAhead_L15 hk0 hp ?_ _ _ _ _ hI (by omega) (by omega)
  · exact hQ
theorem sX8_isCorner {p1 : Int} {M : Mem} {Q : Int → Mem → Prop} (hI : IX M) (hQ : ∀ z : Int, Q z M) : qX8_isCorner p1 M Q := by
  unfold qX8_isCorner
  intro x1_518 ex1_518 rx1_518
  have bx1_518 : -2147483648 ≤ x1_518 ∧ x1_518 ≤ 2147483647 := rx1_518
  intro x2_519 ex2_519 rx2_519
  intro x3_520 ex3_520 rx3_520
  have fx3_520 := aI_1 x2_519; rw [← ex3_520] at fx3_520
  refine ⟨fun c => ?_, fun c => ?_⟩
  · exact hQ _
  · exact hQ _
theorem sX8_weatherAt {p1 : Int} {M : Mem} {Q : Int → Mem → Prop} (hI : IX M) (hp : -2147483648 ≤ p1 ∧ p1 ≤ 2147483647) (hQ : ∀ z : Int, Q z M) : qX8_weatherAt p1 M Q := by
  unfold qX8_weatherAt
  intro x1_523 ex1_523 rx1_523
  have bx1_523 : 0 ≤ x1_523 ∧ x1_523 ≤ 20 := by rw [ex1_523]; exact (bx_c158_3).mp (hI.bx _ _)
  refine ⟨fun c => ?_, fun c => ?_⟩
  · exact hQ _
  · refine ⟨fun c => ?_, fun c => ?_⟩
    · intro x4_527 ex4_527 rx4_527
      have bx4_527 : 0 ≤ x4_527 ∧ x4_527 ≤ 20 := by rw [ex4_527]; exact (bx_c158_3).mp (hI.bx _ _)
      refine ⟨by omega, ?_⟩
      intro x6_528 ex6_528 rx6_528
      first | (have fx6_528 := rmI_b (a := p1) (b := x4_527) (by omega) (by omega); rw [← ex6_528] at fx6_528) | skip
      refine ⟨by omega, ?_⟩
      refine ⟨by omega, ?_⟩
      intro x9_529 ex9_529 rx9_529
      have bx9_529 : -2147483648 ≤ x9_529 ∧ x9_529 ≤ 2147483647 := rx9_529
      exact hQ _
    · exact hQ _
theorem sX2_observe {k0 : Nat} {k1 : Nat} {p3 : Int} {M : Mem} {Q : Mem → Prop} (hI : IX M) (hk0 : isL k0) (hk1 : isS k1) (hp : 0 ≤ p3 ∧ p3 ≤ 5) (hQ : ∀ M' : Mem, IX M' → Q M') : qX2_observe k0 k1 p3 M Q := by
  unfold qX2_observe
  have ek0 : k0 = 187 ∨ k0 = 192 := hk0
  have ek1 : 0 < k1 ∧ k1 < 155 ∧ (k1 - 1) % 7 = 0 := hk1
  refine ⟨by omega, ?_⟩
  refine ⟨by omega, ?_⟩
  intro x3_531 ex3_531 rx3_531
  have bx3_531 : -1 ≤ x3_531 ∧ x3_531 ≤ 29 := by rw [ex3_531]; exact (bx_s1 hk1).mp (hI.bx _ _)
  intro M4_532 h_M4_532
  have hM4_532 : IX M4_532 := by rw [h_M4_532]; exact hI.up (isL.nsp4 hk0) (bx_lf4 hk0)
  refine sX2_uses (p1 := 1) hM4_532 hk0 ?_
  intro x5_533 q534 q535
  refine ⟨fun c => ?_, fun c => ?_⟩
  · unfold qX2_observe_J38
    refine ⟨by omega, ?_⟩
    refine ⟨by omega, ?_⟩
    refine ⟨(by first | assumption | exact (by omega)), ?_⟩
    intro M10_537 h_M10_537
    have hM10_537 : IX M10_537 := by rw [h_M10_537]; exact hM4_532.up (isL.nsp4 hk0) (bx_lf4 hk0)
    refine ⟨by omega, ?_⟩
    refine ⟨by omega, ?_⟩
    intro x13_538 ex13_538 rx13_538
    have bx13_538 : -1 ≤ x13_538 ∧ x13_538 ≤ 29 := by rw [ex13_538]; exact (bx_s1 hk1).mp (hM10_537.bx _ _)
    have fx13_538 : x13_538 = M (k1 + 1) p3 := by rw [ex13_538, h_M10_537, up2_n (by omega), h_M4_532, up2_n (by omega)]
    refine sX8_isCorner (p1 := x13_538) hM10_537  ?_
    intro x14_539 q540 q541
    refine ⟨fun c => ?_, fun c => ?_⟩
    · unfold qX2_observe_J62
      refine ⟨by omega, ?_⟩
      refine ⟨by omega, ?_⟩
      refine ⟨(by first | assumption | exact (by omega)), ?_⟩
      intro M19_543 h_M19_543
      have hM19_543 : IX M19_543 := by rw [h_M19_543]; exact hM10_537.up (isL.nsp4 hk0) (bx_lf4 hk0)
      intro x20_544 ex20_544 rx20_544
      have bx20_544 : -2147483648 ≤ x20_544 ∧ x20_544 ≤ 2147483647 := rx20_544
      have fx20_544 : x20_544 = M k1 10 := by rw [ex20_544, h_M19_543, up2_n (by omega), h_M10_537, up2_n (by omega), h_M4_532, up2_n (by omega)]
      refine sX8_weatherAt (p1 := x20_544) hM19_543 (by omega) ?_
      intro x21_545 q546
      intro M22_547 h_M22_547
      have hM22_547 : IX M22_547 := by rw [h_M22_547]; exact hM19_543.up (isL.nsp4 hk0) (bx_lf4 hk0)
      intro x23_548 ex23_548 rx23_548
      have bx23_548 : -2147483648 ≤ x23_548 ∧ x23_548 ≤ 2147483647 := rx23_548
      have fx23_548 : x23_548 = M k1 10 := by rw [ex23_548, h_M22_547, up2_n (by omega), h_M19_543, up2_n (by omega), h_M10_537, up2_n (by omega), h_M4_532, up2_n (by omega)]
      intro x24_549 ex24_549 rx24_549
      first | (have fx24_549 := rmI_b (a := x23_548) (b := 10) (by omega) (by omega); rw [← ex24_549] at fx24_549) | skip
      intro M25_550 h_M25_550
      have hM25_550 : IX M25_550 := by rw [h_M25_550]; exact hM22_547.up (isL.nsp4 hk0) (bx_lf4 hk0)
      intro M26_551 h_M26_551
      have hM26_551 : IX M26_551 := by rw [h_M26_551]; exact hM25_550.up (isL.nsp4 hk0) (bx_lf4 hk0)
      refine sX2_uses (p1 := 6) hM26_551 hk0 ?_
      intro x27_552 q553 q554
      refine ⟨fun c => ?_, fun c => ?_⟩
      · unfold qX2_observe_J128
        refine ⟨by omega, ?_⟩
        refine ⟨by omega, ?_⟩
        refine ⟨(by first | assumption | exact (by omega)), ?_⟩
        intro M32_556 h_M32_556
        have hM32_556 : IX M32_556 := by rw [h_M32_556]; exact hM26_551.up (isL.nsp4 hk0) (bx_lf4 hk0)
        exact hQ _ hM32_556
      · refine sX6_bitsOf (p2 := p3) hM26_551 hk1 ?_
        intro x33_558 q559
        refine sJ6_bitCount_0f7a4 (p0 := x33_558) hM26_551  ?_
        intro x34_560 p561 q562
        unfold qX2_observe_J128
        refine ⟨by omega, ?_⟩
        refine ⟨by omega, ?_⟩
        refine ⟨(by first | assumption | exact (by omega)), ?_⟩
        intro M32_563 h_M32_563
        have hM32_563 : IX M32_563 := by rw [h_M32_563]; exact hM26_551.up (isL.nsp4 hk0) (bx_lf4 hk0)
        exact hQ _ hM32_563
    · unfold qX2_observe_J62
      refine ⟨by omega, ?_⟩
      refine ⟨by omega, ?_⟩
      refine ⟨(by first | assumption | exact (by omega)), ?_⟩
      intro M19_565 h_M19_565
      have hM19_565 : IX M19_565 := by rw [h_M19_565]; exact hM10_537.up (isL.nsp4 hk0) (bx_lf4 hk0)
      intro x20_566 ex20_566 rx20_566
      have bx20_566 : -2147483648 ≤ x20_566 ∧ x20_566 ≤ 2147483647 := rx20_566
      have fx20_566 : x20_566 = M k1 10 := by rw [ex20_566, h_M19_565, up2_n (by omega), h_M10_537, up2_n (by omega), h_M4_532, up2_n (by omega)]
      refine sX8_weatherAt (p1 := x20_566) hM19_565 (by omega) ?_
      intro x21_567 q568
      intro M22_569 h_M22_569
      have hM22_569 : IX M22_569 := by rw [h_M22_569]; exact hM19_565.up (isL.nsp4 hk0) (bx_lf4 hk0)
      intro x23_570 ex23_570 rx23_570
      have bx23_570 : -2147483648 ≤ x23_570 ∧ x23_570 ≤ 2147483647 := rx23_570
      have fx23_570 : x23_570 = M k1 10 := by rw [ex23_570, h_M22_569, up2_n (by omega), h_M19_565, up2_n (by omega), h_M10_537, up2_n (by omega), h_M4_532, up2_n (by omega)]
      intro x24_571 ex24_571 rx24_571
      first | (have fx24_571 := rmI_b (a := x23_570) (b := 10) (by omega) (by omega); rw [← ex24_571] at fx24_571) | skip
      intro M25_572 h_M25_572
      have hM25_572 : IX M25_572 := by rw [h_M25_572]; exact hM22_569.up (isL.nsp4 hk0) (bx_lf4 hk0)
      intro M26_573 h_M26_573
      have hM26_573 : IX M26_573 := by rw [h_M26_573]; exact hM25_572.up (isL.nsp4 hk0) (bx_lf4 hk0)
      refine sX2_uses (p1 := 6) hM26_573 hk0 ?_
      intro x27_574 q575 q576
      refine ⟨fun c => ?_, fun c => ?_⟩
      · unfold qX2_observe_J128
        refine ⟨by omega, ?_⟩
        refine ⟨by omega, ?_⟩
        refine ⟨(by first | assumption | exact (by omega)), ?_⟩
        intro M32_578 h_M32_578
        have hM32_578 : IX M32_578 := by rw [h_M32_578]; exact hM26_573.up (isL.nsp4 hk0) (bx_lf4 hk0)
        exact hQ _ hM32_578
      · refine sX6_bitsOf (p2 := p3) hM26_573 hk1 ?_
        intro x33_580 q581
        refine sJ6_bitCount_0f7a4 (p0 := x33_580) hM26_573  ?_
        intro x34_582 p583 q584
        unfold qX2_observe_J128
        refine ⟨by omega, ?_⟩
        refine ⟨by omega, ?_⟩
        refine ⟨(by first | assumption | exact (by omega)), ?_⟩
        intro M32_585 h_M32_585
        have hM32_585 : IX M32_585 := by rw [h_M32_585]; exact hM26_573.up (isL.nsp4 hk0) (bx_lf4 hk0)
        exact hQ _ hM32_585
  · refine sX8_gate  hM4_532  ?_
    intro x35_587 p588 q589
    refine sX6_freeAhead (p1 := p3) (p2 := x35_587) hM4_532 hk1 (by omega) ?_
    intro x36_590 q591
    unfold qX2_observe_J38
    refine ⟨by omega, ?_⟩
    refine ⟨by omega, ?_⟩
    refine ⟨(by first | assumption | exact (by omega)), ?_⟩
    intro M10_592 h_M10_592
    have hM10_592 : IX M10_592 := by rw [h_M10_592]; exact hM4_532.up (isL.nsp4 hk0) (bx_lf4 hk0)
    refine ⟨by omega, ?_⟩
    refine ⟨by omega, ?_⟩
    intro x13_593 ex13_593 rx13_593
    have bx13_593 : -1 ≤ x13_593 ∧ x13_593 ≤ 29 := by rw [ex13_593]; exact (bx_s1 hk1).mp (hM10_592.bx _ _)
    have fx13_593 : x13_593 = M (k1 + 1) p3 := by rw [ex13_593, h_M10_592, up2_n (by omega), h_M4_532, up2_n (by omega)]
    refine sX8_isCorner (p1 := x13_593) hM10_592  ?_
    intro x14_594 q595 q596
    refine ⟨fun c => ?_, fun c => ?_⟩
    · unfold qX2_observe_J62
      refine ⟨by omega, ?_⟩
      refine ⟨by omega, ?_⟩
      refine ⟨(by first | assumption | exact (by omega)), ?_⟩
      intro M19_598 h_M19_598
      have hM19_598 : IX M19_598 := by rw [h_M19_598]; exact hM10_592.up (isL.nsp4 hk0) (bx_lf4 hk0)
      intro x20_599 ex20_599 rx20_599
      have bx20_599 : -2147483648 ≤ x20_599 ∧ x20_599 ≤ 2147483647 := rx20_599
      have fx20_599 : x20_599 = M k1 10 := by rw [ex20_599, h_M19_598, up2_n (by omega), h_M10_592, up2_n (by omega), h_M4_532, up2_n (by omega)]
      refine sX8_weatherAt (p1 := x20_599) hM19_598 (by omega) ?_
      intro x21_600 q601
      intro M22_602 h_M22_602
      have hM22_602 : IX M22_602 := by rw [h_M22_602]; exact hM19_598.up (isL.nsp4 hk0) (bx_lf4 hk0)
      intro x23_603 ex23_603 rx23_603
      have bx23_603 : -2147483648 ≤ x23_603 ∧ x23_603 ≤ 2147483647 := rx23_603
      have fx23_603 : x23_603 = M k1 10 := by rw [ex23_603, h_M22_602, up2_n (by omega), h_M19_598, up2_n (by omega), h_M10_592, up2_n (by omega), h_M4_532, up2_n (by omega)]
      intro x24_604 ex24_604 rx24_604
      first | (have fx24_604 := rmI_b (a := x23_603) (b := 10) (by omega) (by omega); rw [← ex24_604] at fx24_604) | skip
      intro M25_605 h_M25_605
      have hM25_605 : IX M25_605 := by rw [h_M25_605]; exact hM22_602.up (isL.nsp4 hk0) (bx_lf4 hk0)
      intro M26_606 h_M26_606
      have hM26_606 : IX M26_606 := by rw [h_M26_606]; exact hM25_605.up (isL.nsp4 hk0) (bx_lf4 hk0)
      refine sX2_uses (p1 := 6) hM26_606 hk0 ?_
      intro x27_607 q608 q609
      refine ⟨fun c => ?_, fun c => ?_⟩
      · unfold qX2_observe_J128
        refine ⟨by omega, ?_⟩
        refine ⟨by omega, ?_⟩
        refine ⟨(by first | assumption | exact (by omega)), ?_⟩
        intro M32_611 h_M32_611
        have hM32_611 : IX M32_611 := by rw [h_M32_611]; exact hM26_606.up (isL.nsp4 hk0) (bx_lf4 hk0)
        exact hQ _ hM32_611
      · refine sX6_bitsOf (p2 := p3) hM26_606 hk1 ?_
        intro x33_613 q614
        refine sJ6_bitCount_0f7a4 (p0 := x33_613) hM26_606  ?_
        intro x34_615 p616 q617
        unfold qX2_observe_J128
        refine ⟨by omega, ?_⟩
        refine ⟨by omega, ?_⟩
        refine ⟨(by first | assumption | exact (by omega)), ?_⟩
        intro M32_618 h_M32_618
        have hM32_618 : IX M32_618 := by rw [h_M32_618]; exact hM26_606.up (isL.nsp4 hk0) (bx_lf4 hk0)
        exact hQ _ hM32_618
    · unfold qX2_observe_J62
      refine ⟨by omega, ?_⟩
      refine ⟨by omega, ?_⟩
      refine ⟨(by first | assumption | exact (by omega)), ?_⟩
      intro M19_620 h_M19_620
      have hM19_620 : IX M19_620 := by rw [h_M19_620]; exact hM10_592.up (isL.nsp4 hk0) (bx_lf4 hk0)
      intro x20_621 ex20_621 rx20_621
      have bx20_621 : -2147483648 ≤ x20_621 ∧ x20_621 ≤ 2147483647 := rx20_621
      have fx20_621 : x20_621 = M k1 10 := by rw [ex20_621, h_M19_620, up2_n (by omega), h_M10_592, up2_n (by omega), h_M4_532, up2_n (by omega)]
      refine sX8_weatherAt (p1 := x20_621) hM19_620 (by omega) ?_
      intro x21_622 q623
      intro M22_624 h_M22_624
      have hM22_624 : IX M22_624 := by rw [h_M22_624]; exact hM19_620.up (isL.nsp4 hk0) (bx_lf4 hk0)
      intro x23_625 ex23_625 rx23_625
      have bx23_625 : -2147483648 ≤ x23_625 ∧ x23_625 ≤ 2147483647 := rx23_625
      have fx23_625 : x23_625 = M k1 10 := by rw [ex23_625, h_M22_624, up2_n (by omega), h_M19_620, up2_n (by omega), h_M10_592, up2_n (by omega), h_M4_532, up2_n (by omega)]
      intro x24_626 ex24_626 rx24_626
      first | (have fx24_626 := rmI_b (a := x23_625) (b := 10) (by omega) (by omega); rw [← ex24_626] at fx24_626) | skip
      intro M25_627 h_M25_627
      have hM25_627 : IX M25_627 := by rw [h_M25_627]; exact hM22_624.up (isL.nsp4 hk0) (bx_lf4 hk0)
      intro M26_628 h_M26_628
      have hM26_628 : IX M26_628 := by rw [h_M26_628]; exact hM25_627.up (isL.nsp4 hk0) (bx_lf4 hk0)
      refine sX2_uses (p1 := 6) hM26_628 hk0 ?_
      intro x27_629 q630 q631
      refine ⟨fun c => ?_, fun c => ?_⟩
      · unfold qX2_observe_J128
        refine ⟨by omega, ?_⟩
        refine ⟨by omega, ?_⟩
        refine ⟨(by first | assumption | exact (by omega)), ?_⟩
        intro M32_633 h_M32_633
        have hM32_633 : IX M32_633 := by rw [h_M32_633]; exact hM26_628.up (isL.nsp4 hk0) (bx_lf4 hk0)
        exact hQ _ hM32_633
      · refine sX6_bitsOf (p2 := p3) hM26_628 hk1 ?_
        intro x33_635 q636
        refine sJ6_bitCount_0f7a4 (p0 := x33_635) hM26_628  ?_
        intro x34_637 p638 q639
        unfold qX2_observe_J128
        refine ⟨by omega, ?_⟩
        refine ⟨by omega, ?_⟩
        refine ⟨(by first | assumption | exact (by omega)), ?_⟩
        intro M32_640 h_M32_640
        have hM32_640 : IX M32_640 := by rw [h_M32_640]; exact hM26_628.up (isL.nsp4 hk0) (bx_lf4 hk0)
        exact hQ _ hM32_640
theorem sX2_join {p0 : Int} {p1 : Int} {p2 : Int} {M : Mem} {Q : Int → Mem → Prop} (hI : IX M) (hQ : ∀ z : Int, Q z M) : qX2_join p0 p1 p2 M Q := by
  unfold qX2_join
  refine ⟨fun c => ?_, fun c => ?_, fun c => ?_, fun c => ?_, fun c => ?_, fun c => ?_, fun c => ?_⟩
  · intro x2_642 ex2_642 rx2_642
    first | (have fx2_642 : x2_642 = p1 * p2 := by rw [ex2_642]; exact w32_id (by omega)) | skip
    exact hQ _
  · intro x3_644 ex3_644 rx3_644
    first | (have fx3_644 : x3_644 = p1 + p2 := by rw [ex3_644]; exact w32_id (by omega)) | skip
    exact hQ _
  · intro x4_646 ex4_646 rx4_646
    first | (have fx4_646 : x4_646 = p1 - p2 := by rw [ex4_646]; exact w32_id (by omega)) | skip
    exact hQ _
  · refine ⟨fun c => ?_, fun c => ?_⟩
    · refine ⟨by omega, ?_⟩
      intro x7_649 ex7_649 rx7_649
      first | (have fx7_649 := dvI_b (a := p1) (b := p2) (by omega) (by omega); rw [← ex7_649] at fx7_649) | skip
      exact hQ _
    · exact hQ _
  · refine ⟨fun c => ?_, fun c => ?_⟩
    · exact hQ _
    · exact hQ _
  · refine ⟨fun c => ?_, fun c => ?_⟩
    · exact hQ _
    · exact hQ _
  · refine ⟨fun c => ?_, fun c => ?_⟩
    · exact hQ _
    · exact hQ _
theorem sX2_pace_L4 {k0 : Nat} {X145 : Mem → Prop} {Q : Int → Mem → Prop} (hk0 : isL k0) (hQ : ∀ z : Int, ∀ M' : Mem, IX M' → (0 ≤ z ∧ z ≤ 3) → Q z M') (hX145 : ∀ M' : Mem, IX M' → X145 M') : ∀ (n : Nat) (v1 v2 : Int) (M : Mem), IX M → (0 ≤ v1 ∧ v1 ≤ v2 ∧ v2 ≤ 40) → 40 - v2 < (n : Int) → qX2_pace_L4 k0 X145 Q n v1 v2 M := by
  intro n
  induction n with
  | zero => intro v1 v2 M hI hv hm; exact absurd hm (by omega)
  | succ n ih =>
    intro v1 v2 M hI hv hm
    rw [qX2_pace_L4]
    have ek0 : k0 = 187 ∨ k0 = 192 := hk0
    intro x1_660 ex1_660 rx1_660
    have bx1_660 : 0 ≤ x1_660 ∧ x1_660 ≤ 40 := by rw [ex1_660]; exact (bx_l4 hk0).mp (hI.bx _ _)
    refine ⟨(by first | assumption | exact (by omega)), ?_⟩
    refine ⟨fun c => ?_, fun c => ?_⟩
    · exact hX145 _ hI
    · refine ⟨by omega, ?_⟩
      refine ⟨by omega, ?_⟩
      intro x6_663 ex6_663 rx6_663
      have bx6_663 : -2147483648 ≤ x6_663 ∧ x6_663 ≤ 2147483647 := rx6_663
      refine ⟨fun c => ?_, fun c => ?_⟩
      · refine ⟨fun c => ?_, fun c => ?_⟩
        · refine ⟨fun c => ?_, fun c => ?_⟩
          · unfold qX2_pace_J105
            refine ⟨(by first | assumption | exact (by omega)), ?_⟩
            refine ⟨fun c => ?_, fun c => ?_⟩
            · exact ih _ _ _ hI (by omega) (by omega)
            · intro x12_669 ex12_669 rx12_669
              first | (have fx12_669 : x12_669 = v1 + (-1) - 1 := by rw [ex12_669]; exact w32_id (by omega)) | skip
              intro x13_670 ex13_670 rx13_670
              first | (have fx13_670 : x13_670 = v1 + (-1) - 1 := by rw [ex13_670]; exact w32_id (by omega)) | skip
              refine ⟨by omega, ?_⟩
              refine ⟨by omega, ?_⟩
              intro x16_671 ex16_671 rx16_671
              have bx16_671 : -2147483648 ≤ x16_671 ∧ x16_671 ≤ 2147483647 := rx16_671
              refine ⟨by omega, ?_⟩
              refine ⟨by omega, ?_⟩
              intro x19_672 ex19_672 rx19_672
              have bx19_672 : -2147483648 ≤ x19_672 ∧ x19_672 ≤ 2147483647 := rx19_672
              refine ⟨(by first | assumption | exact (by omega)), ?_⟩
              refine sX2_join (p0 := x6_663) (p1 := x16_671) (p2 := x19_672) hI  ?_
              intro x21_673 q674
              refine ⟨by omega, ?_⟩
              refine ⟨by omega, ?_⟩
              intro M24_675 h_M24_675
              have hM24_675 : IX M24_675 := by rw [h_M24_675]; exact hI.up (isL.nsp3 hk0) (bx_lf3 hk0)
              exact ih _ _ _ hM24_675 (by omega) (by omega)
          · refine ⟨(by first | assumption | exact (by omega)), ?_⟩
            refine ⟨fun c => ?_, fun c => ?_⟩
            · unfold qX2_pace_J105
              refine ⟨(by first | assumption | exact (by omega)), ?_⟩
              refine ⟨fun c => ?_, fun c => ?_⟩
              · exact ih _ _ _ hI (by omega) (by omega)
              · intro x12_680 ex12_680 rx12_680
                first | (have fx12_680 : x12_680 = v1 + (-1) - 1 := by rw [ex12_680]; exact w32_id (by omega)) | skip
                intro x13_681 ex13_681 rx13_681
                first | (have fx13_681 : x13_681 = v1 + (-1) - 1 := by rw [ex13_681]; exact w32_id (by omega)) | skip
                refine ⟨by omega, ?_⟩
                refine ⟨by omega, ?_⟩
                intro x16_682 ex16_682 rx16_682
                have bx16_682 : -2147483648 ≤ x16_682 ∧ x16_682 ≤ 2147483647 := rx16_682
                refine ⟨by omega, ?_⟩
                refine ⟨by omega, ?_⟩
                intro x19_683 ex19_683 rx19_683
                have bx19_683 : -2147483648 ≤ x19_683 ∧ x19_683 ≤ 2147483647 := rx19_683
                refine ⟨(by first | assumption | exact (by omega)), ?_⟩
                refine sX2_join (p0 := x6_663) (p1 := x16_682) (p2 := x19_683) hI  ?_
                intro x21_684 q685
                refine ⟨by omega, ?_⟩
                refine ⟨by omega, ?_⟩
                intro M24_686 h_M24_686
                have hM24_686 : IX M24_686 := by rw [h_M24_686]; exact hI.up (isL.nsp3 hk0) (bx_lf3 hk0)
                exact ih _ _ _ hM24_686 (by omega) (by omega)
            · intro x27_688 ex27_688 rx27_688
              first | (have fx27_688 : x27_688 = v1 - 1 := by rw [ex27_688]; exact w32_id (by omega)) | skip
              intro x28_689 ex28_689 rx28_689
              first | (have fx28_689 : x28_689 = v1 - 1 := by rw [ex28_689]; exact w32_id (by omega)) | skip
              refine ⟨by omega, ?_⟩
              refine ⟨by omega, ?_⟩
              intro x31_690 ex31_690 rx31_690
              have bx31_690 : -2147483648 ≤ x31_690 ∧ x31_690 ≤ 2147483647 := rx31_690
              intro x32_691 ex32_691 rx32_691
              first | (have fx32_691 : x32_691 = (-x31_690) := by rw [ex32_691]; exact w32_id (by omega)) | skip
              refine ⟨by omega, ?_⟩
              refine ⟨by omega, ?_⟩
              intro M35_692 h_M35_692
              have hM35_692 : IX M35_692 := by rw [h_M35_692]; exact hI.up (isL.nsp3 hk0) (bx_lf3 hk0)
              exact ih _ _ _ hM35_692 (by omega) (by omega)
        · intro x36_694 ex36_694 rx36_694
          have bx36_694 : -2147483648 ≤ x36_694 ∧ x36_694 ≤ 2147483647 := rx36_694
          have lx36_694 := hI.lt (k := k0) hk0 (j := v2)
          refine ⟨by omega, ?_⟩
          refine ⟨by omega, ?_⟩
          intro x39_695 ex39_695 rx39_695
          have bx39_695 : -2147483648 ≤ x39_695 ∧ x39_695 ≤ 2147483647 := rx39_695
          refine ⟨by omega, ?_⟩
          refine ⟨by omega, ?_⟩
          intro M42_696 h_M42_696
          have hM42_696 : IX M42_696 := by rw [h_M42_696]; exact hI.up (isL.nsp3 hk0) (bx_lf3 hk0)
          exact ih _ _ _ hM42_696 (by omega) (by omega)
      · intro x43_698 ex43_698 rx43_698
        have bx43_698 : -2147483648 ≤ x43_698 ∧ x43_698 ≤ 2147483647 := rx43_698
        have lx43_698 := hI.lt (k := k0) hk0 (j := v2)
        refine ⟨by omega, ?_⟩
        refine ⟨by omega, ?_⟩
        intro M46_699 h_M46_699
        have hM46_699 : IX M46_699 := by rw [h_M46_699]; exact hI.up (isL.nsp3 hk0) (bx_lf3 hk0)
        exact ih _ _ _ hM46_699 (by omega) (by omega)
theorem sX2_pace {k0 : Nat} {M : Mem} {Q : Int → Mem → Prop} (hI : IX M) (hk0 : isL k0) (hQ : ∀ z : Int, ∀ M' : Mem, IX M' → (0 ≤ z ∧ z ≤ 3) → Q z M') : qX2_pace k0 M Q := by
  unfold qX2_pace
  have ek0 : k0 = 187 ∨ k0 = 192 := hk0
  refine ⟨41, ?_⟩
  refine sX2_pace_L4 hk0 ?_ ?_ _ _ _ _ hI (by omega) (by omega)
  · exact hQ
  · intro M_700 hM_700
    intro x48_701 ex48_701 rx48_701
    have bx48_701 : -2147483648 ≤ x48_701 ∧ x48_701 ≤ 2147483647 := rx48_701
    intro x49_702 ex49_702 rx49_702
    intro x50_703 ex50_703 rx50_703
    exact hQ _ _ hM_700 (by omega)
theorem sX6_arrive {k0 : Nat} {p1 : Int} {M : Mem} {Q : Mem → Prop} (hI : IX M) (hk0 : isS k0) (hp : 0 ≤ p1 ∧ p1 ≤ 5) (hQ : ∀ M' : Mem, IX M' → Q M') : qX6_arrive k0 p1 M Q := by
  unfold qX6_arrive
  have ek0 : 0 < k0 ∧ k0 < 155 ∧ (k0 - 1) % 7 = 0 := hk0
  intro x1_704 ex1_704 rx1_704
  have bx1_704 : -2147483648 ≤ x1_704 ∧ x1_704 ≤ 2147483647 := rx1_704
  intro x2_705 ex2_705 rx2_705
  first | (have fx2_705 : x2_705 = x1_704 + 1 := by rw [ex2_705]; exact w32_id (by omega)) | skip
  intro M3_706 h_M3_706
  have hM3_706 : IX M3_706 := by rw [h_M3_706]; exact hI.up (isS.nsp hk0 0 (by decide)) (bx_sf0 hk0 (by decide) (by decide))
  intro x4_707 ex4_707 rx4_707
  have bx4_707 : -2147483648 ≤ x4_707 ∧ x4_707 ≤ 2147483647 := rx4_707
  have fx4_707 : x4_707 = x2_705 := by rw [ex4_707, h_M3_706, up2_s]
  refine ⟨by omega, ?_⟩
  refine ⟨by omega, ?_⟩
  intro M7_708 h_M7_708
  have hM7_708 : IX M7_708 := by rw [h_M7_708]; exact hM3_706.up (isS.nsp hk0 2 (by decide)) (bx_sf2 hk0)
  intro M8_709 h_M8_709
  have hM8_709 : IX M8_709 := by rw [h_M8_709]; exact hM7_708.up (isS.nsp hk0 1 (by decide)) ((bx_s1 hk0).mpr (by omega))
  exact hQ _ hM8_709
theorem sX6_takenCells_L4 {k0 : Nat}  {Q : Int → Mem → Prop} {M0 : Mem} (hk0 : isS k0) (hQ : ∀ z : Int, Q z M0) : ∀ (n : Nat) (v1 v2 : Int), IX M0 → (0 ≤ v2 ∧ v2 ≤ 6) → iR v1 → 6 - v2 < (n : Int) → qX6_takenCells_L4 k0 Q n v1 v2 M0 := by
  intro n
  induction n with
  | zero => intro v1 v2 hI hv hrv1 hm; exact absurd hm (by omega)
  | succ n ih =>
    intro v1 v2 hI hv hrv1 hm
    rw [qX6_takenCells_L4]
    have ek0 : 0 < k0 ∧ k0 < 155 ∧ (k0 - 1) % 7 = 0 := hk0
    intro x1_710 ex1_710 rx1_710
    have bx1_710 : 0 ≤ x1_710 ∧ x1_710 ≤ 6 := by rw [ex1_710]; exact (bx_s0_6 hk0).mp (hI.bx _ _)
    refine ⟨(by first | assumption | exact (by omega)), ?_⟩
    refine ⟨fun c => ?_, fun c => ?_⟩
    · refine ⟨(by first | assumption | exact (by omega)), ?_⟩
      exact hQ _
    · refine ⟨by omega, ?_⟩
      refine ⟨by omega, ?_⟩
      intro x7_713 ex7_713 rx7_713
      have bx7_713 : -1 ≤ x7_713 ∧ x7_713 ≤ 29 := by rw [ex7_713]; exact (bx_s1 hk0).mp (hI.bx _ _)
      refine ⟨fun c => ?_, fun c => ?_⟩
      · intro x9_715 ex9_715 rx9_715
        have bx9_715 : -1 ≤ x9_715 ∧ x9_715 ≤ 29 := by rw [ex9_715]; exact (bx_s1 hk0).mp (hI.bx _ _)
        intro x10_716 ex10_716 rx10_716
        first | (have fx10_716 := slI_1 (b := x9_715) (by omega); rw [← ex10_716] at fx10_716) | skip
        intro x11_717 ex11_717 rx11_717
        first | (have fx11_717 := oI_64 (a := v1) (b := x10_716) (by omega) (by omega); rw [← ex11_717] at fx11_717) | skip
        exact ih _ _ hI (by omega) (by first | assumption | exact (by omega)) (by omega)
      · intro x12_719 ex12_719 rx12_719
        first | (have fx12_719 := oI_64 (a := v1) (b := 0) (by omega) (by omega); rw [← ex12_719] at fx12_719) | skip
        exact ih _ _ hI (by omega) (by first | assumption | exact (by omega)) (by omega)
theorem sX6_takenCells {k0 : Nat} {M : Mem} {Q : Int → Mem → Prop} (hI : IX M) (hk0 : isS k0) (hQ : ∀ z : Int, Q z M) : qX6_takenCells k0 M Q := by
  unfold qX6_takenCells
  have ek0 : 0 < k0 ∧ k0 < 155 ∧ (k0 - 1) % 7 = 0 := hk0
  refine ⟨7, ?_⟩
  refine sX6_takenCells_L4 hk0 ?_ _ _ _ hI (by omega) (by first | assumption | exact (by omega)) (by omega)
  · exact hQ
theorem sX10_moveHearse {k1 : Nat} {k2 : Nat} {p3 : Int} {M : Mem} {Q : Mem → Prop} (hI : IX M) (hk1 : isS k1) (hk2 : isL k2) (hp : 0 ≤ p3 ∧ p3 ≤ 5 ∧ 0 ≤ M (k1 + 1) p3) (hQ : ∀ M' : Mem, IX M' → Q M') : qX10_moveHearse k1 k2 p3 M Q := by
  unfold qX10_moveHearse
  have ek1 : 0 < k1 ∧ k1 < 155 ∧ (k1 - 1) % 7 = 0 := hk1
  have ek2 : k2 = 187 ∨ k2 = 192 := hk2
  refine ⟨by omega, ?_⟩
  refine ⟨by omega, ?_⟩
  intro x3_720 ex3_720 rx3_720
  have bx3_720 : -1 ≤ x3_720 ∧ x3_720 ≤ 29 := by rw [ex3_720]; exact (bx_s1 hk1).mp (hI.bx _ _)
  refine sX2_observe (p3 := p3) hI hk2 hk1 (by omega) ?_
  intro M4_721 hM4_721
  refine sX6_takenCells  hM4_721 hk1 ?_
  intro x5_722 q723
  refine sX2_pace  hM4_721 hk2 ?_
  intro x6_724 M6_725 hM6_725 p726 q727
  refine sX10_goal (p1 := x5_722) (p2 := x3_720) (p3 := x6_724) hM6_725 (by omega) ?_
  intro x7_728 p729 q730
  refine ⟨fun c => ?_, fun c => ?_⟩
  · intro M9_732 h_M9_732
    have hM9_732 : IX M9_732 := by rw [h_M9_732]; exact hM6_725.up (by decide) (by simp [BX])
    refine sX8_gate  hM9_732  ?_
    intro x10_733 p734 q735
    refine ⟨fun c => ?_, fun c => ?_⟩
    · intro M12_737 h_M12_737
      have hM12_737 : IX M12_737 := by rw [h_M12_737]; exact hM9_732.up (isS.nsp hk1 1 (by decide)) ((bx_s1 hk1).mpr (by omega))
      exact hQ _ hM12_737
    · refine sX6_arrive (p1 := p3) hM9_732 hk1 (by omega) ?_
      intro M13_739 hM13_739
      exact hQ _ hM13_739
  · intro x14_741 ex14_741 rx14_741
    have bx14_741 : -2147483648 ≤ x14_741 ∧ x14_741 ≤ 2147483647 := rx14_741
    intro x15_742 ex15_742 rx15_742
    first | (have fx15_742 : x15_742 = x14_741 + 1 := by rw [ex15_742]; exact w32_id (by omega)) | skip
    intro M16_743 h_M16_743
    have hM16_743 : IX M16_743 := by rw [h_M16_743]; exact hM6_725.up (by decide) (by simp [BX])
    refine ⟨by omega, ?_⟩
    refine ⟨by omega, ?_⟩
    intro x19_744 ex19_744 rx19_744
    have bx19_744 : -2147483648 ≤ x19_744 ∧ x19_744 ≤ 2147483647 := rx19_744
    have fx19_744 : x19_744 = M6_725 161 x3_720 := by rw [ex19_744, h_M16_743, up2_n (by decide)]
    intro x20_745 ex20_745 rx20_745
    first | (have fx20_745 : x20_745 = x19_744 + 1 := by rw [ex20_745]; exact w32_id (by omega)) | skip
    intro M21_746 h_M21_746
    have hM21_746 : IX M21_746 := by rw [h_M21_746]; exact hM16_743.up (by decide) (by simp [BX])
    exact hQ _ hM21_746
theorem sX6_endAt {k0 : Nat} {p1 : Int} {p2 : Int} {M : Mem} {Q : Mem → Prop} (hI : IX M) (hk0 : isS k0) (hp : 0 ≤ p1 ∧ p1 ≤ 7) (hQ : ∀ M' : Mem, IX M' → Q M') : qX6_endAt k0 p1 p2 M Q := by
  unfold qX6_endAt
  have ek0 : 0 < k0 ∧ k0 < 155 ∧ (k0 - 1) % 7 = 0 := hk0
  refine ⟨by omega, ?_⟩
  refine ⟨by omega, ?_⟩
  intro M3_747 h_M3_747
  have hM3_747 : IX M3_747 := by rw [h_M3_747]; exact hI.up (isS.nsp hk0 6 (by decide)) (bx_sf6 hk0)
  intro x4_748 ex4_748 rx4_748
  have bx4_748 : -2147483648 ≤ x4_748 ∧ x4_748 ≤ 2147483647 := rx4_748
  have fx4_748 : x4_748 = M k0 9 := by rw [ex4_748, h_M3_747, up2_n (by omega)]
  intro x5_749 ex5_749 rx5_749
  first | (have fx5_749 : x5_749 = x4_748 + 1 := by rw [ex5_749]; exact w32_id (by omega)) | skip
  intro M6_750 h_M6_750
  have hM6_750 : IX M6_750 := by rw [h_M6_750]; exact hM3_747.up (isS.nsp hk0 0 (by decide)) (bx_sf0 hk0 (by decide) (by decide))
  exact hQ _ hM6_750
theorem sX6_hasArrived {k0 : Nat} {p1 : Int} {M : Mem} {Q : Int → Mem → Prop} (hI : IX M) (hk0 : isS k0) (hp : 0 ≤ p1 ∧ p1 ≤ 5) (hQ : ∀ z : Int, Q z M) : qX6_hasArrived k0 p1 M Q := by
  unfold qX6_hasArrived
  have ek0 : 0 < k0 ∧ k0 < 155 ∧ (k0 - 1) % 7 = 0 := hk0
  refine ⟨by omega, ?_⟩
  refine ⟨by omega, ?_⟩
  intro x3_751 ex3_751 rx3_751
  have bx3_751 : -2147483648 ≤ x3_751 ∧ x3_751 ≤ 2147483647 := rx3_751
  refine ⟨fun c => ?_, fun c => ?_⟩
  · exact hQ _
  · exact hQ _
theorem sX6_nearestTo_L8 {k0 : Nat} {p1 : Int}  {Q : Int → Mem → Prop} {M0 : Mem} (hk0 : isS k0) (hp : -1 ≤ p1 ∧ p1 ≤ 29) (hQ : ∀ z : Int, (-1 ≤ z ∧ z ≤ 5) → Q z M0) : ∀ (n : Nat) (v2 v3 v4 : Int), IX M0 → (-1 ≤ v2 ∧ v2 ≤ 5 ∧ 0 ≤ v3 ∧ v3 ≤ 60 ∧ 0 ≤ v4 ∧ v4 ≤ 6) → 6 - v4 < (n : Int) → qX6_nearestTo_L8 k0 p1 Q n v2 v3 v4 M0 := by
  intro n
  induction n with
  | zero => intro v2 v3 v4 hI hv hm; exact absurd hm (by omega)
  | succ n ih =>
    intro v2 v3 v4 hI hv hm
    rw [qX6_nearestTo_L8]
    have ek0 : 0 < k0 ∧ k0 < 155 ∧ (k0 - 1) % 7 = 0 := hk0
    intro x1_754 ex1_754 rx1_754
    have bx1_754 : 0 ≤ x1_754 ∧ x1_754 ≤ 6 := by rw [ex1_754]; exact (bx_s0_6 hk0).mp (hI.bx _ _)
    refine ⟨(by first | assumption | exact (by omega)), ?_⟩
    refine ⟨fun c => ?_, fun c => ?_⟩
    · refine ⟨(by first | assumption | exact (by omega)), ?_⟩
      exact hQ _ (by omega)
    · refine ⟨by omega, ?_⟩
      refine ⟨by omega, ?_⟩
      intro x7_757 ex7_757 rx7_757
      have bx7_757 : -1 ≤ x7_757 ∧ x7_757 ≤ 29 := by rw [ex7_757]; exact (bx_s1 hk0).mp (hI.bx _ _)
      refine ⟨(by first | assumption | exact (by omega)), ?_⟩
      intro x9_758 px9_758 nx9_758
      have bx9_758 : 0 ≤ x9_758 ∧ (x7_757 - p1 = x9_758 ∨ x7_757 - p1 = -x9_758) := by omega
      refine ⟨(by first | assumption | exact (by omega)), ?_⟩
      refine ⟨(by first | assumption | exact (by omega)), ?_⟩
      refine ⟨fun c => ?_, fun c => ?_⟩
      · unfold qX6_nearestTo_J54
        unfold qX6_nearestTo_J59
        refine ⟨(by first | assumption | exact (by omega)), ?_⟩
        refine ⟨fun c => ?_, fun c => ?_⟩
        · exact ih _ _ _ hI (by omega) (by omega)
        · refine ⟨by omega, ?_⟩
          refine ⟨by omega, ?_⟩
          intro x17_762 ex17_762 rx17_762
          have bx17_762 : -1 ≤ x17_762 ∧ x17_762 ≤ 29 := by rw [ex17_762]; exact (bx_s1 hk0).mp (hI.bx _ _)
          refine ⟨fun c => ?_, fun c => ?_⟩
          · exact ih _ _ _ hI (by omega) (by omega)
          · exact ih _ _ _ hI (by omega) (by omega)
      · refine ⟨fun c => ?_, fun c => ?_⟩
        · unfold qX6_nearestTo_J58
          unfold qX6_nearestTo_J59
          refine ⟨(by first | assumption | exact (by omega)), ?_⟩
          refine ⟨fun c => ?_, fun c => ?_⟩
          · exact ih _ _ _ hI (by omega) (by omega)
          · refine ⟨by omega, ?_⟩
            refine ⟨by omega, ?_⟩
            intro x17_769 ex17_769 rx17_769
            have bx17_769 : -1 ≤ x17_769 ∧ x17_769 ≤ 29 := by rw [ex17_769]; exact (bx_s1 hk0).mp (hI.bx _ _)
            refine ⟨fun c => ?_, fun c => ?_⟩
            · exact ih _ _ _ hI (by omega) (by omega)
            · exact ih _ _ _ hI (by omega) (by omega)
        · intro x20_773 ex20_773 rx20_773
          have bx20_773 : -1 ≤ x20_773 ∧ x20_773 ≤ 29 := by rw [ex20_773]; exact (bx_s1 hk0).mp (hI.bx _ _)
          refine ⟨fun c => ?_, fun c => ?_⟩
          · unfold qX6_nearestTo_J58
            unfold qX6_nearestTo_J59
            refine ⟨(by first | assumption | exact (by omega)), ?_⟩
            refine ⟨fun c => ?_, fun c => ?_⟩
            · exact ih _ _ _ hI (by omega) (by omega)
            · refine ⟨by omega, ?_⟩
              refine ⟨by omega, ?_⟩
              intro x17_777 ex17_777 rx17_777
              have bx17_777 : -1 ≤ x17_777 ∧ x17_777 ≤ 29 := by rw [ex17_777]; exact (bx_s1 hk0).mp (hI.bx _ _)
              refine ⟨fun c => ?_, fun c => ?_⟩
              · exact ih _ _ _ hI (by omega) (by omega)
              · exact ih _ _ _ hI (by omega) (by omega)
          · unfold qX6_nearestTo_J54
            unfold qX6_nearestTo_J59
            refine ⟨(by first | assumption | exact (by omega)), ?_⟩
            refine ⟨fun c => ?_, fun c => ?_⟩
            · exact ih _ _ _ hI (by omega) (by omega)
            · refine ⟨by omega, ?_⟩
              refine ⟨by omega, ?_⟩
              intro x17_783 ex17_783 rx17_783
              have bx17_783 : -1 ≤ x17_783 ∧ x17_783 ≤ 29 := by rw [ex17_783]; exact (bx_s1 hk0).mp (hI.bx _ _)
              refine ⟨fun c => ?_, fun c => ?_⟩
              · exact ih _ _ _ hI (by omega) (by omega)
              · exact ih _ _ _ hI (by omega) (by omega)
theorem sX6_nearestTo {k0 : Nat} {p1 : Int} {M : Mem} {Q : Int → Mem → Prop} (hI : IX M) (hk0 : isS k0) (hp : -1 ≤ p1 ∧ p1 ≤ 29) (hQ : ∀ z : Int, (-1 ≤ z ∧ z ≤ 5) → Q z M) : qX6_nearestTo k0 p1 M Q := by
  unfold qX6_nearestTo
  have ek0 : 0 < k0 ∧ k0 < 155 ∧ (k0 - 1) % 7 = 0 := hk0
  refine ⟨7, ?_⟩
  refine sX6_nearestTo_L8 hk0 hp ?_ _ _ _ _ hI (by omega) (by omega)
  · exact hQ
theorem sX10_moveMourner {k1 : Nat} {p2 : Int} {M : Mem} {Q : Mem → Prop} (hI : IX M) (hk1 : isS k1) (hp : 0 ≤ p2 ∧ p2 ≤ 7) (hQ : ∀ M' : Mem, IX M' → Q M') : qX10_moveMourner k1 p2 M Q := by
  unfold qX10_moveMourner
  have ek1 : 0 < k1 ∧ k1 < 155 ∧ (k1 - 1) % 7 = 0 := hk1
  refine ⟨by omega, ?_⟩
  refine ⟨by omega, ?_⟩
  intro x3_786 ex3_786 rx3_786
  have bx3_786 : -1 ≤ x3_786 ∧ x3_786 ≤ 5 := by rw [ex3_786]; exact (bx_s5 hk1).mp (hI.bx _ _)
  refine ⟨fun c => ?_, fun c => ?_⟩
  · unfold qX10_moveMourner_J32
    refine ⟨by omega, ?_⟩
    refine ⟨by omega, ?_⟩
    intro x7_788 ex7_788 rx7_788
    have bx7_788 : -1 ≤ x7_788 ∧ x7_788 ≤ 29 := by rw [ex7_788]; exact (bx_s3 hk1).mp (hI.bx _ _)
    refine sX6_nearestTo (p1 := x7_788) hI hk1 (by omega) ?_
    intro x8_789 p790 q791
    refine ⟨fun c => ?_, fun c => ?_⟩
    · refine ⟨by omega, ?_⟩
      refine ⟨by omega, ?_⟩
      intro x12_793 ex12_793 rx12_793
      have bx12_793 : -1 ≤ x12_793 ∧ x12_793 ≤ 29 := by rw [ex12_793]; exact (bx_s1 hk1).mp (hI.bx _ _)
      refine ⟨(by first | assumption | exact (by omega)), ?_⟩
      refine ⟨fun c => ?_, fun c => ?_⟩
      · unfold qX10_moveMourner_J92
        refine ⟨by omega, ?_⟩
        refine ⟨by omega, ?_⟩
        refine ⟨(by first | assumption | exact (by omega)), ?_⟩
        intro M18_795 h_M18_795
        have hM18_795 : IX M18_795 := by rw [h_M18_795]; exact hI.up (isS.nsp hk1 5 (by decide)) ((bx_s5 hk1).mpr (by omega))
        intro x19_796 ex19_796 rx19_796
        have bx19_796 : -2147483648 ≤ x19_796 ∧ x19_796 ≤ 2147483647 := rx19_796
        have fx19_796 : x19_796 = M 160 4 := by rw [ex19_796, h_M18_795, up2_n (by omega)]
        intro x20_797 ex20_797 rx20_797
        first | (have fx20_797 : x20_797 = x19_796 + 1 := by rw [ex20_797]; exact w32_id (by omega)) | skip
        intro M21_798 h_M21_798
        have hM21_798 : IX M21_798 := by rw [h_M21_798]; exact hM18_795.up (by decide) (by simp [BX])
        intro x22_799 ex22_799 rx22_799
        have bx22_799 : -2147483648 ≤ x22_799 ∧ x22_799 ≤ 2147483647 := rx22_799
        have fx22_799 : x22_799 = M 162 p2 := by rw [ex22_799, h_M21_798, up2_n (by decide), h_M18_795, up2_n (by omega)]
        intro x23_800 ex23_800 rx23_800
        first | (have fx23_800 : x23_800 = x22_799 + 1 := by rw [ex23_800]; exact w32_id (by omega)) | skip
        intro M24_801 h_M24_801
        have hM24_801 : IX M24_801 := by rw [h_M24_801]; exact hM21_798.up (by decide) (by simp [BX])
        intro M25_802 h_M25_802
        have hM25_802 : IX M25_802 := by rw [h_M25_802]; exact hM24_801.up (by decide) (by simp [BX])
        unfold qX10_moveMourner_J139
        refine ⟨(by first | assumption | exact (by omega)), ?_⟩
        intro x27_803 ex27_803 rx27_803
        intro x28_804 ex28_804 rx28_804
        refine ⟨by omega, ?_⟩
        refine ⟨by omega, ?_⟩
        refine ⟨(by first | assumption | exact (by omega)), ?_⟩
        intro M32_805 h_M32_805
        have hM32_805 : IX M32_805 := by rw [h_M32_805]; exact hM25_802.up (isS.nsp hk1 3 (by decide)) ((bx_s3 hk1).mpr (by omega))
        intro x33_806 ex33_806 rx33_806
        have bx33_806 : -2147483648 ≤ x33_806 ∧ x33_806 ≤ 2147483647 := rx33_806
        have fx33_806 : x33_806 = 1 := by rw [ex33_806, h_M32_805, up2_n (by omega), h_M25_802, up2_s]
        refine ⟨fun c => ?_, fun c => ?_⟩
        · unfold qX10_moveMourner_J172
          unfold qX10_moveMourner_J177
          refine ⟨(by first | assumption | exact (by omega)), ?_⟩
          refine ⟨by omega, ?_⟩
          intro M37_808 h_M37_808
          have hM37_808 : IX M37_808 := by rw [h_M37_808]; exact hM32_805.up (by decide) (by simp [BX])
          exact hQ _ hM37_808
        · refine ⟨fun c => ?_, fun c => ?_⟩
          · unfold qX10_moveMourner_J177
            refine ⟨(by first | assumption | exact (by omega)), ?_⟩
            refine ⟨by omega, ?_⟩
            intro M37_811 h_M37_811
            have hM37_811 : IX M37_811 := by rw [h_M37_811]; exact hM32_805.up (by decide) (by simp [BX])
            exact hQ _ hM37_811
          · unfold qX10_moveMourner_J172
            unfold qX10_moveMourner_J177
            refine ⟨(by first | assumption | exact (by omega)), ?_⟩
            refine ⟨by omega, ?_⟩
            intro M37_813 h_M37_813
            have hM37_813 : IX M37_813 := by rw [h_M37_813]; exact hM32_805.up (by decide) (by simp [BX])
            exact hQ _ hM37_813
      · refine ⟨(by first | assumption | exact (by omega)), ?_⟩
        intro x40_815 px40_815 nx40_815
        have bx40_815 : 0 ≤ x40_815 ∧ (x12_793 - x7_788 = x40_815 ∨ x12_793 - x7_788 = -x40_815) := by omega
        refine ⟨by omega, ?_⟩
        refine ⟨by omega, ?_⟩
        intro x43_816 ex43_816 rx43_816
        have bx43_816 : -1 ≤ x43_816 ∧ x43_816 ≤ 29 := by rw [ex43_816]; exact (bx_s1 hk1).mp (hI.bx _ _)
        refine ⟨(by first | assumption | exact (by omega)), ?_⟩
        intro x45_817 px45_817 nx45_817
        have bx45_817 : 0 ≤ x45_817 ∧ (x43_816 - x7_788 = x45_817 ∨ x43_816 - x7_788 = -x45_817) := by omega
        refine ⟨(by first | assumption | exact (by omega)), ?_⟩
        refine ⟨(by first | assumption | exact (by omega)), ?_⟩
        refine ⟨fun c => ?_, fun c => ?_⟩
        · intro x49_819 ex49_819 rx49_819
          have bx49_819 : -1 ≤ x49_819 ∧ x49_819 ≤ 29 := by rw [ex49_819]; exact (bx_s1 hk1).mp (hI.bx _ _)
          unfold qX10_moveMourner_J139
          refine ⟨(by first | assumption | exact (by omega)), ?_⟩
          intro x27_820 ex27_820 rx27_820
          intro x28_821 ex28_821 rx28_821
          refine ⟨by omega, ?_⟩
          refine ⟨by omega, ?_⟩
          refine ⟨(by first | assumption | exact (by omega)), ?_⟩
          intro M32_822 h_M32_822
          have hM32_822 : IX M32_822 := by rw [h_M32_822]; exact hI.up (isS.nsp hk1 3 (by decide)) ((bx_s3 hk1).mpr (by omega))
          intro x33_823 ex33_823 rx33_823
          have bx33_823 : -2147483648 ≤ x33_823 ∧ x33_823 ≤ 2147483647 := rx33_823
          have fx33_823 : x33_823 = M 160 5 := by rw [ex33_823, h_M32_822, up2_n (by omega)]
          refine ⟨fun c => ?_, fun c => ?_⟩
          · unfold qX10_moveMourner_J172
            unfold qX10_moveMourner_J177
            refine ⟨(by first | assumption | exact (by omega)), ?_⟩
            refine ⟨by omega, ?_⟩
            intro M37_825 h_M37_825
            have hM37_825 : IX M37_825 := by rw [h_M37_825]; exact hM32_822.up (by decide) (by simp [BX])
            exact hQ _ hM37_825
          · refine ⟨fun c => ?_, fun c => ?_⟩
            · unfold qX10_moveMourner_J177
              refine ⟨(by first | assumption | exact (by omega)), ?_⟩
              refine ⟨by omega, ?_⟩
              intro M37_828 h_M37_828
              have hM37_828 : IX M37_828 := by rw [h_M37_828]; exact hM32_822.up (by decide) (by simp [BX])
              exact hQ _ hM37_828
            · unfold qX10_moveMourner_J172
              unfold qX10_moveMourner_J177
              refine ⟨(by first | assumption | exact (by omega)), ?_⟩
              refine ⟨by omega, ?_⟩
              intro M37_830 h_M37_830
              have hM37_830 : IX M37_830 := by rw [h_M37_830]; exact hM32_822.up (by decide) (by simp [BX])
              exact hQ _ hM37_830
        · unfold qX10_moveMourner_J92
          refine ⟨by omega, ?_⟩
          refine ⟨by omega, ?_⟩
          refine ⟨(by first | assumption | exact (by omega)), ?_⟩
          intro M18_832 h_M18_832
          have hM18_832 : IX M18_832 := by rw [h_M18_832]; exact hI.up (isS.nsp hk1 5 (by decide)) ((bx_s5 hk1).mpr (by omega))
          intro x19_833 ex19_833 rx19_833
          have bx19_833 : -2147483648 ≤ x19_833 ∧ x19_833 ≤ 2147483647 := rx19_833
          have fx19_833 : x19_833 = M 160 4 := by rw [ex19_833, h_M18_832, up2_n (by omega)]
          intro x20_834 ex20_834 rx20_834
          first | (have fx20_834 : x20_834 = x19_833 + 1 := by rw [ex20_834]; exact w32_id (by omega)) | skip
          intro M21_835 h_M21_835
          have hM21_835 : IX M21_835 := by rw [h_M21_835]; exact hM18_832.up (by decide) (by simp [BX])
          intro x22_836 ex22_836 rx22_836
          have bx22_836 : -2147483648 ≤ x22_836 ∧ x22_836 ≤ 2147483647 := rx22_836
          have fx22_836 : x22_836 = M 162 p2 := by rw [ex22_836, h_M21_835, up2_n (by decide), h_M18_832, up2_n (by omega)]
          intro x23_837 ex23_837 rx23_837
          first | (have fx23_837 : x23_837 = x22_836 + 1 := by rw [ex23_837]; exact w32_id (by omega)) | skip
          intro M24_838 h_M24_838
          have hM24_838 : IX M24_838 := by rw [h_M24_838]; exact hM21_835.up (by decide) (by simp [BX])
          intro M25_839 h_M25_839
          have hM25_839 : IX M25_839 := by rw [h_M25_839]; exact hM24_838.up (by decide) (by simp [BX])
          unfold qX10_moveMourner_J139
          refine ⟨(by first | assumption | exact (by omega)), ?_⟩
          intro x27_840 ex27_840 rx27_840
          intro x28_841 ex28_841 rx28_841
          refine ⟨by omega, ?_⟩
          refine ⟨by omega, ?_⟩
          refine ⟨(by first | assumption | exact (by omega)), ?_⟩
          intro M32_842 h_M32_842
          have hM32_842 : IX M32_842 := by rw [h_M32_842]; exact hM25_839.up (isS.nsp hk1 3 (by decide)) ((bx_s3 hk1).mpr (by omega))
          intro x33_843 ex33_843 rx33_843
          have bx33_843 : -2147483648 ≤ x33_843 ∧ x33_843 ≤ 2147483647 := rx33_843
          have fx33_843 : x33_843 = 1 := by rw [ex33_843, h_M32_842, up2_n (by omega), h_M25_839, up2_s]
          refine ⟨fun c => ?_, fun c => ?_⟩
          · unfold qX10_moveMourner_J172
            unfold qX10_moveMourner_J177
            refine ⟨(by first | assumption | exact (by omega)), ?_⟩
            refine ⟨by omega, ?_⟩
            intro M37_845 h_M37_845
            have hM37_845 : IX M37_845 := by rw [h_M37_845]; exact hM32_842.up (by decide) (by simp [BX])
            exact hQ _ hM37_845
          · refine ⟨fun c => ?_, fun c => ?_⟩
            · unfold qX10_moveMourner_J177
              refine ⟨(by first | assumption | exact (by omega)), ?_⟩
              refine ⟨by omega, ?_⟩
              intro M37_848 h_M37_848
              have hM37_848 : IX M37_848 := by rw [h_M37_848]; exact hM32_842.up (by decide) (by simp [BX])
              exact hQ _ hM37_848
            · unfold qX10_moveMourner_J172
              unfold qX10_moveMourner_J177
              refine ⟨(by first | assumption | exact (by omega)), ?_⟩
              refine ⟨by omega, ?_⟩
              intro M37_850 h_M37_850
              have hM37_850 : IX M37_850 := by rw [h_M37_850]; exact hM32_842.up (by decide) (by simp [BX])
              exact hQ _ hM37_850
    · exact hQ _ hI
  · refine sX6_hasArrived (p1 := x3_786) hI hk1 (by omega) ?_
    intro x50_853 q854 q855
    refine ⟨fun c => ?_, fun c => ?_⟩
    · unfold qX10_moveMourner_J32
      refine ⟨by omega, ?_⟩
      refine ⟨by omega, ?_⟩
      intro x7_857 ex7_857 rx7_857
      have bx7_857 : -1 ≤ x7_857 ∧ x7_857 ≤ 29 := by rw [ex7_857]; exact (bx_s3 hk1).mp (hI.bx _ _)
      refine sX6_nearestTo (p1 := x7_857) hI hk1 (by omega) ?_
      intro x8_858 p859 q860
      refine ⟨fun c => ?_, fun c => ?_⟩
      · refine ⟨by omega, ?_⟩
        refine ⟨by omega, ?_⟩
        intro x12_862 ex12_862 rx12_862
        have bx12_862 : -1 ≤ x12_862 ∧ x12_862 ≤ 29 := by rw [ex12_862]; exact (bx_s1 hk1).mp (hI.bx _ _)
        refine ⟨(by first | assumption | exact (by omega)), ?_⟩
        refine ⟨fun c => ?_, fun c => ?_⟩
        · unfold qX10_moveMourner_J92
          refine ⟨by omega, ?_⟩
          refine ⟨by omega, ?_⟩
          refine ⟨(by first | assumption | exact (by omega)), ?_⟩
          intro M18_864 h_M18_864
          have hM18_864 : IX M18_864 := by rw [h_M18_864]; exact hI.up (isS.nsp hk1 5 (by decide)) ((bx_s5 hk1).mpr (by omega))
          intro x19_865 ex19_865 rx19_865
          have bx19_865 : -2147483648 ≤ x19_865 ∧ x19_865 ≤ 2147483647 := rx19_865
          have fx19_865 : x19_865 = M 160 4 := by rw [ex19_865, h_M18_864, up2_n (by omega)]
          intro x20_866 ex20_866 rx20_866
          first | (have fx20_866 : x20_866 = x19_865 + 1 := by rw [ex20_866]; exact w32_id (by omega)) | skip
          intro M21_867 h_M21_867
          have hM21_867 : IX M21_867 := by rw [h_M21_867]; exact hM18_864.up (by decide) (by simp [BX])
          intro x22_868 ex22_868 rx22_868
          have bx22_868 : -2147483648 ≤ x22_868 ∧ x22_868 ≤ 2147483647 := rx22_868
          have fx22_868 : x22_868 = M 162 p2 := by rw [ex22_868, h_M21_867, up2_n (by decide), h_M18_864, up2_n (by omega)]
          intro x23_869 ex23_869 rx23_869
          first | (have fx23_869 : x23_869 = x22_868 + 1 := by rw [ex23_869]; exact w32_id (by omega)) | skip
          intro M24_870 h_M24_870
          have hM24_870 : IX M24_870 := by rw [h_M24_870]; exact hM21_867.up (by decide) (by simp [BX])
          intro M25_871 h_M25_871
          have hM25_871 : IX M25_871 := by rw [h_M25_871]; exact hM24_870.up (by decide) (by simp [BX])
          unfold qX10_moveMourner_J139
          refine ⟨(by first | assumption | exact (by omega)), ?_⟩
          intro x27_872 ex27_872 rx27_872
          intro x28_873 ex28_873 rx28_873
          refine ⟨by omega, ?_⟩
          refine ⟨by omega, ?_⟩
          refine ⟨(by first | assumption | exact (by omega)), ?_⟩
          intro M32_874 h_M32_874
          have hM32_874 : IX M32_874 := by rw [h_M32_874]; exact hM25_871.up (isS.nsp hk1 3 (by decide)) ((bx_s3 hk1).mpr (by omega))
          intro x33_875 ex33_875 rx33_875
          have bx33_875 : -2147483648 ≤ x33_875 ∧ x33_875 ≤ 2147483647 := rx33_875
          have fx33_875 : x33_875 = 1 := by rw [ex33_875, h_M32_874, up2_n (by omega), h_M25_871, up2_s]
          refine ⟨fun c => ?_, fun c => ?_⟩
          · unfold qX10_moveMourner_J172
            unfold qX10_moveMourner_J177
            refine ⟨(by first | assumption | exact (by omega)), ?_⟩
            refine ⟨by omega, ?_⟩
            intro M37_877 h_M37_877
            have hM37_877 : IX M37_877 := by rw [h_M37_877]; exact hM32_874.up (by decide) (by simp [BX])
            exact hQ _ hM37_877
          · refine ⟨fun c => ?_, fun c => ?_⟩
            · unfold qX10_moveMourner_J177
              refine ⟨(by first | assumption | exact (by omega)), ?_⟩
              refine ⟨by omega, ?_⟩
              intro M37_880 h_M37_880
              have hM37_880 : IX M37_880 := by rw [h_M37_880]; exact hM32_874.up (by decide) (by simp [BX])
              exact hQ _ hM37_880
            · unfold qX10_moveMourner_J172
              unfold qX10_moveMourner_J177
              refine ⟨(by first | assumption | exact (by omega)), ?_⟩
              refine ⟨by omega, ?_⟩
              intro M37_882 h_M37_882
              have hM37_882 : IX M37_882 := by rw [h_M37_882]; exact hM32_874.up (by decide) (by simp [BX])
              exact hQ _ hM37_882
        · refine ⟨(by first | assumption | exact (by omega)), ?_⟩
          intro x40_884 px40_884 nx40_884
          have bx40_884 : 0 ≤ x40_884 ∧ (x12_862 - x7_857 = x40_884 ∨ x12_862 - x7_857 = -x40_884) := by omega
          refine ⟨by omega, ?_⟩
          refine ⟨by omega, ?_⟩
          intro x43_885 ex43_885 rx43_885
          have bx43_885 : -1 ≤ x43_885 ∧ x43_885 ≤ 29 := by rw [ex43_885]; exact (bx_s1 hk1).mp (hI.bx _ _)
          refine ⟨(by first | assumption | exact (by omega)), ?_⟩
          intro x45_886 px45_886 nx45_886
          have bx45_886 : 0 ≤ x45_886 ∧ (x43_885 - x7_857 = x45_886 ∨ x43_885 - x7_857 = -x45_886) := by omega
          refine ⟨(by first | assumption | exact (by omega)), ?_⟩
          refine ⟨(by first | assumption | exact (by omega)), ?_⟩
          refine ⟨fun c => ?_, fun c => ?_⟩
          · intro x49_888 ex49_888 rx49_888
            have bx49_888 : -1 ≤ x49_888 ∧ x49_888 ≤ 29 := by rw [ex49_888]; exact (bx_s1 hk1).mp (hI.bx _ _)
            unfold qX10_moveMourner_J139
            refine ⟨(by first | assumption | exact (by omega)), ?_⟩
            intro x27_889 ex27_889 rx27_889
            intro x28_890 ex28_890 rx28_890
            refine ⟨by omega, ?_⟩
            refine ⟨by omega, ?_⟩
            refine ⟨(by first | assumption | exact (by omega)), ?_⟩
            intro M32_891 h_M32_891
            have hM32_891 : IX M32_891 := by rw [h_M32_891]; exact hI.up (isS.nsp hk1 3 (by decide)) ((bx_s3 hk1).mpr (by omega))
            intro x33_892 ex33_892 rx33_892
            have bx33_892 : -2147483648 ≤ x33_892 ∧ x33_892 ≤ 2147483647 := rx33_892
            have fx33_892 : x33_892 = M 160 5 := by rw [ex33_892, h_M32_891, up2_n (by omega)]
            refine ⟨fun c => ?_, fun c => ?_⟩
            · unfold qX10_moveMourner_J172
              unfold qX10_moveMourner_J177
              refine ⟨(by first | assumption | exact (by omega)), ?_⟩
              refine ⟨by omega, ?_⟩
              intro M37_894 h_M37_894
              have hM37_894 : IX M37_894 := by rw [h_M37_894]; exact hM32_891.up (by decide) (by simp [BX])
              exact hQ _ hM37_894
            · refine ⟨fun c => ?_, fun c => ?_⟩
              · unfold qX10_moveMourner_J177
                refine ⟨(by first | assumption | exact (by omega)), ?_⟩
                refine ⟨by omega, ?_⟩
                intro M37_897 h_M37_897
                have hM37_897 : IX M37_897 := by rw [h_M37_897]; exact hM32_891.up (by decide) (by simp [BX])
                exact hQ _ hM37_897
              · unfold qX10_moveMourner_J172
                unfold qX10_moveMourner_J177
                refine ⟨(by first | assumption | exact (by omega)), ?_⟩
                refine ⟨by omega, ?_⟩
                intro M37_899 h_M37_899
                have hM37_899 : IX M37_899 := by rw [h_M37_899]; exact hM32_891.up (by decide) (by simp [BX])
                exact hQ _ hM37_899
          · unfold qX10_moveMourner_J92
            refine ⟨by omega, ?_⟩
            refine ⟨by omega, ?_⟩
            refine ⟨(by first | assumption | exact (by omega)), ?_⟩
            intro M18_901 h_M18_901
            have hM18_901 : IX M18_901 := by rw [h_M18_901]; exact hI.up (isS.nsp hk1 5 (by decide)) ((bx_s5 hk1).mpr (by omega))
            intro x19_902 ex19_902 rx19_902
            have bx19_902 : -2147483648 ≤ x19_902 ∧ x19_902 ≤ 2147483647 := rx19_902
            have fx19_902 : x19_902 = M 160 4 := by rw [ex19_902, h_M18_901, up2_n (by omega)]
            intro x20_903 ex20_903 rx20_903
            first | (have fx20_903 : x20_903 = x19_902 + 1 := by rw [ex20_903]; exact w32_id (by omega)) | skip
            intro M21_904 h_M21_904
            have hM21_904 : IX M21_904 := by rw [h_M21_904]; exact hM18_901.up (by decide) (by simp [BX])
            intro x22_905 ex22_905 rx22_905
            have bx22_905 : -2147483648 ≤ x22_905 ∧ x22_905 ≤ 2147483647 := rx22_905
            have fx22_905 : x22_905 = M 162 p2 := by rw [ex22_905, h_M21_904, up2_n (by decide), h_M18_901, up2_n (by omega)]
            intro x23_906 ex23_906 rx23_906
            first | (have fx23_906 : x23_906 = x22_905 + 1 := by rw [ex23_906]; exact w32_id (by omega)) | skip
            intro M24_907 h_M24_907
            have hM24_907 : IX M24_907 := by rw [h_M24_907]; exact hM21_904.up (by decide) (by simp [BX])
            intro M25_908 h_M25_908
            have hM25_908 : IX M25_908 := by rw [h_M25_908]; exact hM24_907.up (by decide) (by simp [BX])
            unfold qX10_moveMourner_J139
            refine ⟨(by first | assumption | exact (by omega)), ?_⟩
            intro x27_909 ex27_909 rx27_909
            intro x28_910 ex28_910 rx28_910
            refine ⟨by omega, ?_⟩
            refine ⟨by omega, ?_⟩
            refine ⟨(by first | assumption | exact (by omega)), ?_⟩
            intro M32_911 h_M32_911
            have hM32_911 : IX M32_911 := by rw [h_M32_911]; exact hM25_908.up (isS.nsp hk1 3 (by decide)) ((bx_s3 hk1).mpr (by omega))
            intro x33_912 ex33_912 rx33_912
            have bx33_912 : -2147483648 ≤ x33_912 ∧ x33_912 ≤ 2147483647 := rx33_912
            have fx33_912 : x33_912 = 1 := by rw [ex33_912, h_M32_911, up2_n (by omega), h_M25_908, up2_s]
            refine ⟨fun c => ?_, fun c => ?_⟩
            · unfold qX10_moveMourner_J172
              unfold qX10_moveMourner_J177
              refine ⟨(by first | assumption | exact (by omega)), ?_⟩
              refine ⟨by omega, ?_⟩
              intro M37_914 h_M37_914
              have hM37_914 : IX M37_914 := by rw [h_M37_914]; exact hM32_911.up (by decide) (by simp [BX])
              exact hQ _ hM37_914
            · refine ⟨fun c => ?_, fun c => ?_⟩
              · unfold qX10_moveMourner_J177
                refine ⟨(by first | assumption | exact (by omega)), ?_⟩
                refine ⟨by omega, ?_⟩
                intro M37_917 h_M37_917
                have hM37_917 : IX M37_917 := by rw [h_M37_917]; exact hM32_911.up (by decide) (by simp [BX])
                exact hQ _ hM37_917
              · unfold qX10_moveMourner_J172
                unfold qX10_moveMourner_J177
                refine ⟨(by first | assumption | exact (by omega)), ?_⟩
                refine ⟨by omega, ?_⟩
                intro M37_919 h_M37_919
                have hM37_919 : IX M37_919 := by rw [h_M37_919]; exact hM32_911.up (by decide) (by simp [BX])
                exact hQ _ hM37_919
      · exact hQ _ hI
    · refine sX6_endAt (p1 := p2) (p2 := x3_786) hI hk1 (by omega) ?_
      intro M52_922 hM52_922
      intro M53_923 h_M53_923
      have hM53_923 : IX M53_923 := by rw [h_M53_923]; exact hM52_922.up (by decide) (by simp [BX])
      exact hQ _ hM53_923
theorem sX6_foremostBelow_L7 {k0 : Nat} {p1 : Int}  {Q : Int → Mem → Prop} {M0 : Mem} (hk0 : isS k0) (hQ : ∀ z : Int, (z = -1 ∨ 0 ≤ z ∧ z ≤ 5 ∧ 0 ≤ M0 (k0 + 1) z) → Q z M0) : ∀ (n : Nat) (v2 v3 v4 : Int), IX M0 → ((v2 = -1 ∧ v3 = -1 ∨ 0 ≤ v2 ∧ v2 ≤ 5 ∧ 0 ≤ v3 ∧ v3 ≤ 29 ∧ v3 = M0 (k0 + 1) v2) ∧ 0 ≤ v4 ∧ v4 ≤ 6) → 6 - v4 < (n : Int) → qX6_foremostBelow_L7 k0 p1 Q n v2 v3 v4 M0 := by
  intro n
  induction n with
  | zero => intro v2 v3 v4 hI hv hm; exact absurd hm (by omega)
  | succ n ih =>
    intro v2 v3 v4 hI hv hm
    rw [qX6_foremostBelow_L7]
    have ek0 : 0 < k0 ∧ k0 < 155 ∧ (k0 - 1) % 7 = 0 := hk0
    intro x1_924 ex1_924 rx1_924
    have bx1_924 : 0 ≤ x1_924 ∧ x1_924 ≤ 6 := by rw [ex1_924]; exact (bx_s0_6 hk0).mp (hI.bx _ _)
    refine ⟨(by first | assumption | exact (by omega)), ?_⟩
    refine ⟨fun c => ?_, fun c => ?_⟩
    · refine ⟨(by first | assumption | exact (by omega)), ?_⟩
      exact hQ _ (by omega)
    · refine ⟨by omega, ?_⟩
      refine ⟨by omega, ?_⟩
      intro x7_927 ex7_927 rx7_927
      have bx7_927 : -1 ≤ x7_927 ∧ x7_927 ≤ 29 := by rw [ex7_927]; exact (bx_s1 hk0).mp (hI.bx _ _)
      refine ⟨fun c => ?_, fun c => ?_⟩
      · exact ih _ _ _ hI (by omega) (by omega)
      · intro x9_930 ex9_930 rx9_930
        have bx9_930 : -1 ≤ x9_930 ∧ x9_930 ≤ 29 := by rw [ex9_930]; exact (bx_s1 hk0).mp (hI.bx _ _)
        refine ⟨(by first | assumption | exact (by omega)), ?_⟩
        refine ⟨fun c => ?_, fun c => ?_⟩
        · exact ih _ _ _ hI (by omega) (by omega)
        · intro x12_933 ex12_933 rx12_933
          have bx12_933 : -1 ≤ x12_933 ∧ x12_933 ≤ 29 := by rw [ex12_933]; exact (bx_s1 hk0).mp (hI.bx _ _)
          exact ih _ _ _ hI (by omega) (by omega)
theorem sX6_foremostBelow {k0 : Nat} {p1 : Int} {M : Mem} {Q : Int → Mem → Prop} (hI : IX M) (hk0 : isS k0) (hQ : ∀ z : Int, (z = -1 ∨ 0 ≤ z ∧ z ≤ 5 ∧ 0 ≤ M (k0 + 1) z) → Q z M) : qX6_foremostBelow k0 p1 M Q := by
  unfold qX6_foremostBelow
  have ek0 : 0 < k0 ∧ k0 < 155 ∧ (k0 - 1) % 7 = 0 := hk0
  refine ⟨7, ?_⟩
  refine sX6_foremostBelow_L7 hk0 ?_ _ _ _ _ hI (by omega) (by omega)
  · exact hQ
theorem sX10_advance_L16 {k1 : Nat} {k2 : Nat} {X36 : Mem → Prop} {X61 : Mem → Prop} {Q : Mem → Prop} (hk1 : isS k1) (hk2 : isL k2) (hQ : ∀ M' : Mem, IX M' → Q M') (hX36 : ∀ M' : Mem, IX M' → X36 M') (hX61 : ∀ M' : Mem, IX M' → X61 M') : ∀ (n : Nat) (v3 v4 : Int) (M : Mem), IX M → (0 ≤ v3 ∧ v3 ≤ 30 ∧ 0 ≤ v4 ∧ v4 ≤ 6) → 6 - v4 < (n : Int) → qX10_advance_L16 k1 k2 X36 X61 Q n v3 v4 M := by
  intro n
  induction n with
  | zero => intro v3 v4 M hI hv hm; exact absurd hm (by omega)
  | succ n ih =>
    intro v3 v4 M hI hv hm
    rw [qX10_advance_L16]
    have ek1 : 0 < k1 ∧ k1 < 155 ∧ (k1 - 1) % 7 = 0 := hk1
    have ek2 : k2 = 187 ∨ k2 = 192 := hk2
    refine ⟨(by first | assumption | exact (by omega)), ?_⟩
    refine ⟨fun c => ?_, fun c => ?_⟩
    · exact hX61 _ hI
    · refine ⟨(by first | assumption | exact (by omega)), ?_⟩
      refine sX6_foremostBelow (p1 := v3) hI hk1 ?_
      intro x6_936 p937 q938
      refine ⟨fun c => ?_, fun c => ?_⟩
      · refine ⟨by omega, ?_⟩
        refine ⟨by omega, ?_⟩
        intro x10_940 ex10_940 rx10_940
        have bx10_940 : -1 ≤ x10_940 ∧ x10_940 ≤ 29 := by rw [ex10_940]; exact (bx_s1 hk1).mp (hI.bx _ _)
        refine sX10_moveHearse (p3 := x6_936) hI hk1 hk2 (by omega) ?_
        intro M11_941 hM11_941
        exact ih _ _ _ hM11_941 (by omega) (by omega)
      · exact hX36 _ hI
end
section
theorem sX10_advance_L64 {k1 : Nat} {k2 : Nat}  {Q : Mem → Prop} (hk1 : isS k1) (hk2 : isL k2) (hQ : ∀ M' : Mem, IX M' → Q M') : ∀ (n : Nat) (v4 : Int) (M : Mem), IX M → (0 ≤ v4 ∧ v4 ≤ 8) → 8 - v4 < (n : Int) → qX10_advance_L64 k1 k2 Q n v4 M := by
  intro n
  induction n with
  | zero => intro v4 M hI hv hm; exact absurd hm (by omega)
  | succ n ih =>
    intro v4 M hI hv hm
    rw [qX10_advance_L64]
    have ek1 : 0 < k1 ∧ k1 < 155 ∧ (k1 - 1) % 7 = 0 := hk1
    have ek2 : k2 = 187 ∨ k2 = 192 := hk2
    intro x13_943 ex13_943 rx13_943
    have bx13_943 : 0 ≤ x13_943 ∧ x13_943 ≤ 8 := by rw [ex13_943]; exact (bx_s0_7 hk1).mp (hI.bx _ _)
    refine ⟨(by first | assumption | exact (by omega)), ?_⟩
    refine ⟨fun c => ?_, fun c => ?_⟩
    · intro x16_945 ex16_945 rx16_945
      have bx16_945 : -2147483648 ≤ x16_945 ∧ x16_945 ≤ 2147483647 := rx16_945
      intro x17_946 ex17_946 rx17_946
      first | (have fx17_946 : x17_946 = x16_945 + 1 := by rw [ex17_946]; exact w32_id (by omega)) | skip
      intro M18_947 h_M18_947
      have hM18_947 : IX M18_947 := by rw [h_M18_947]; exact hI.up (isS.nsp hk1 0 (by decide)) (bx_sf0 hk1 (by decide) (by decide))
      exact hQ _ hM18_947
    · refine sX6_hasEnded (p1 := v4) hI hk1 (by omega) ?_
      intro x19_949 q950 q951
      refine ⟨fun c => ?_, fun c => ?_⟩
      · exact ih _ _ hI (by omega) (by omega)
      · refine sX10_moveMourner (p2 := v4) hI hk1 (by omega) ?_
        intro M21_954 hM21_954
        exact ih _ _ hM21_954 (by omega) (by omega)
theorem sX10_advance {k1 : Nat} {k2 : Nat} {M : Mem} {Q : Mem → Prop} (hI : IX M) (hk1 : isS k1) (hk2 : isL k2) (hQ : ∀ M' : Mem, IX M' → Q M') : qX10_advance k1 k2 M Q := by
  unfold qX10_advance
  have ek1 : 0 < k1 ∧ k1 < 155 ∧ (k1 - 1) % 7 = 0 := hk1
  have ek2 : k2 = 187 ∨ k2 = 192 := hk2
  intro M1_955 h_M1_955
  have hM1_955 : IX M1_955 := by rw [h_M1_955]; exact hI.up (by decide) (by simp [BX])
  intro x2_956 ex2_956 rx2_956
  have bx2_956 : 4 ≤ x2_956 ∧ x2_956 ≤ 30 := by rw [ex2_956]; exact (bx_c158_1).mp (hM1_955.bx _ _)
  have fx2_956 : x2_956 = M 158 1 := by rw [ex2_956, h_M1_955, up2_n (by decide)]
  refine ⟨7, ?_⟩
  refine sX10_advance_L16 hk1 hk2 ?_ ?_ ?_ _ _ _ _ hM1_955 (by omega) (by omega)
  · exact hQ
  · intro M_957 hM_957
    refine ⟨9, ?_⟩
    refine sX10_advance_L64 hk1 hk2 ?_ _ _ _ hM_957 (by omega) (by omega)
    · exact hQ
  · intro M_958 hM_958
    refine ⟨9, ?_⟩
    refine sX10_advance_L64 hk1 hk2 ?_ _ _ _ hM_958 (by omega) (by omega)
    · exact hQ
theorem sX10_forgetTallies_L12  {X31 : Mem → Prop} {Q : Mem → Prop} (hQ : ∀ M' : Mem, IX M' → Q M') (hX31 : ∀ M' : Mem, IX M' → X31 M') : ∀ (n : Nat) (v1 : Int) (M : Mem), IX M → (0 ≤ v1 ∧ v1 ≤ 30) → 30 - v1 < (n : Int) → qX10_forgetTallies_L12 X31 Q n v1 M := by
  intro n
  induction n with
  | zero => intro v1 M hI hv hm; exact absurd hm (by omega)
  | succ n ih =>
    intro v1 M hI hv hm
    rw [qX10_forgetTallies_L12]
    refine ⟨(by first | assumption | exact (by omega)), ?_⟩
    refine ⟨fun c => ?_, fun c => ?_⟩
    · exact hX31 _ hI
    · refine ⟨by omega, ?_⟩
      refine ⟨by omega, ?_⟩
      intro M7_961 h_M7_961
      have hM7_961 : IX M7_961 := by rw [h_M7_961]; exact hI.up (by decide) (by simp [BX])
      exact ih _ _ hM7_961 (by omega) (by omega)
theorem sX10_forgetTallies_L33   {Q : Mem → Prop} (hQ : ∀ M' : Mem, IX M' → Q M') : ∀ (n : Nat) (v1 : Int) (M : Mem), IX M → (0 ≤ v1 ∧ v1 ≤ 8) → 8 - v1 < (n : Int) → qX10_forgetTallies_L33 Q n v1 M := by
  intro n
  induction n with
  | zero => intro v1 M hI hv hm; exact absurd hm (by omega)
  | succ n ih =>
    intro v1 M hI hv hm
    rw [qX10_forgetTallies_L33]
    refine ⟨(by first | assumption | exact (by omega)), ?_⟩
    refine ⟨fun c => ?_, fun c => ?_⟩
    · exact hQ _ hI
    · refine ⟨by omega, ?_⟩
      refine ⟨by omega, ?_⟩
      intro M13_964 h_M13_964
      have hM13_964 : IX M13_964 := by rw [h_M13_964]; exact hI.up (by decide) (by simp [BX])
      exact ih _ _ hM13_964 (by omega) (by omega)
theorem sX10_forgetTallies  {M : Mem} {Q : Mem → Prop} (hI : IX M) (hQ : ∀ M' : Mem, IX M' → Q M') : qX10_forgetTallies M Q := by
  unfold qX10_forgetTallies
  intro M1_965 h_M1_965
  have hM1_965 : IX M1_965 := by rw [h_M1_965]; exact hI.up (by decide) (by simp [BX])
  intro M2_966 h_M2_966
  have hM2_966 : IX M2_966 := by rw [h_M2_966]; exact hM1_965.up (by decide) (by simp [BX])
  refine ⟨31, ?_⟩
  refine sX10_forgetTallies_L12 ?_ ?_ _ _ _ hM2_966 (by omega) (by omega)
  · exact hQ
  · intro M_967 hM_967
    refine ⟨9, ?_⟩
    refine sX10_forgetTallies_L33 ?_ _ _ _ hM_967 (by omega) (by omega)
    · exact hQ
theorem sX10_walk_L7 {k1 : Nat} {k2 : Nat} {p3 : Int}  {Q : Mem → Prop} (hk1 : isS k1) (hk2 : isL k2) (hp : p3 ≤ 200) (hQ : ∀ M' : Mem, IX M' → Q M') : ∀ (n : Nat) (v4 : Int) (M : Mem), IX M → (0 ≤ v4 ∧ v4 ≤ 200) → 200 - v4 < (n : Int) → qX10_walk_L7 k1 k2 p3 Q n v4 M := by
  intro n
  induction n with
  | zero => intro v4 M hI hv hm; exact absurd hm (by omega)
  | succ n ih =>
    intro v4 M hI hv hm
    rw [qX10_walk_L7]
    have ek1 : 0 < k1 ∧ k1 < 155 ∧ (k1 - 1) % 7 = 0 := hk1
    have ek2 : k2 = 187 ∨ k2 = 192 := hk2
    refine ⟨(by first | assumption | exact (by omega)), ?_⟩
    refine ⟨fun c => ?_, fun c => ?_⟩
    · exact hQ _ hI
    · refine sX10_advance  hI hk1 hk2 ?_
      intro M4_970 hM4_970
      exact ih _ _ hM4_970 (by omega) (by omega)
theorem sX10_walk {k1 : Nat} {k2 : Nat} {p3 : Int} {M : Mem} {Q : Mem → Prop} (hI : IX M) (hk1 : isS k1) (hk2 : isL k2) (hp : p3 ≤ 200) (hQ : ∀ M' : Mem, IX M' → Q M') : qX10_walk k1 k2 p3 M Q := by
  unfold qX10_walk
  have ek1 : 0 < k1 ∧ k1 < 155 ∧ (k1 - 1) % 7 = 0 := hk1
  have ek2 : k2 = 187 ∨ k2 = 192 := hk2
  refine sX10_forgetTallies  hI  ?_
  intro M1_971 hM1_971
  refine ⟨201, ?_⟩
  refine sX10_walk_L7 hk1 hk2 hp ?_ _ _ _ hM1_971 (by omega) (by omega)
  · exact hQ
theorem sX11_isDone {p0 : Int} {M : Mem} {Q : Int → Mem → Prop} (hI : IX M) (hQ : ∀ z : Int, Q z M) : qX11_isDone p0 M Q := by
  unfold qX11_isDone
  refine ⟨fun c => ?_, fun c => ?_⟩
  · exact hQ _
  · refine ⟨fun c => ?_, fun c => ?_⟩
    · exact hQ _
    · exact hQ _
theorem sX4_add {p1 : Int} {M : Mem} {Q : Mem → Prop} (hI : IX M) (hQ : ∀ M' : Mem, IX M' → Q M') : qX4_add p1 M Q := by
  unfold qX4_add
  intro x1_994 ex1_994 rx1_994
  have bx1_994 : 0 ≤ x1_994 ∧ x1_994 ≤ 8 := by rw [ex1_994]; exact (bx_c167_1).mp (hI.bx _ _)
  refine ⟨fun c => ?_, fun c => ?_⟩
  · exact hQ _ hI
  · intro x3_997 ex3_997 rx3_997
    have bx3_997 : 0 ≤ x3_997 ∧ x3_997 ≤ 8 := by rw [ex3_997]; exact (bx_c167_1).mp (hI.bx _ _)
    refine ⟨by omega, ?_⟩
    refine ⟨by omega, ?_⟩
    intro M6_998 h_M6_998
    have hM6_998 : IX M6_998 := by rw [h_M6_998]; exact hI.up (by decide) (by simp [BX])
    intro x7_999 ex7_999 rx7_999
    have bx7_999 : 0 ≤ x7_999 ∧ x7_999 ≤ 8 := by rw [ex7_999]; exact (bx_c167_1).mp (hM6_998.bx _ _)
    have fx7_999 : x7_999 = M 167 1 := by rw [ex7_999, h_M6_998, up2_n (by decide)]
    refine ⟨(by first | assumption | exact (by omega)), ?_⟩
    intro M9_1000 h_M9_1000
    have hM9_1000 : IX M9_1000 := by rw [h_M9_1000]; exact hM6_998.up (by decide) ((bx_c167_1).mpr (by omega))
    exact hQ _ hM9_1000
theorem sX4_clear  {M : Mem} {Q : Mem → Prop} (hI : IX M) (hQ : ∀ M' : Mem, IX M' → Q M') : qX4_clear M Q := by
  unfold qX4_clear
  intro M1_1001 h_M1_1001
  have hM1_1001 : IX M1_1001 := by rw [h_M1_1001]; exact hI.up (by decide) ((bx_c167_1).mpr (by omega))
  exact hQ _ hM1_1001
theorem sX4_tellTwo {p1 : Int} {p3 : Int} {M : Mem} {Q : Mem → Prop} (hI : IX M) (hQ : ∀ M' : Mem, IX M' → Q M') : qX4_tellTwo p1 p3 M Q := by
  unfold qX4_tellTwo
  refine sX4_clear  hI  ?_
  intro M1_1002 hM1_1002
  refine sX4_add (p1 := p1) hM1_1002  ?_
  intro M2_1003 hM2_1003
  refine sX4_add (p1 := p3) hM2_1003  ?_
  intro M3_1004 hM3_1004
  exact hQ _ hM3_1004
theorem sX6_isMourner {k0 : Nat} {p1 : Int} {M : Mem} {Q : Int → Mem → Prop} (hI : IX M) (hk0 : isS k0) (hQ : ∀ z : Int, (¬ z = 0 → 0 ≤ p1 ∧ p1 ≤ 7) → Q z M) : qX6_isMourner k0 p1 M Q := by
  unfold qX6_isMourner
  have ek0 : 0 < k0 ∧ k0 < 155 ∧ (k0 - 1) % 7 = 0 := hk0
  refine ⟨fun c => ?_, fun c => ?_⟩
  · exact hQ _ (by omega)
  · intro x2_1020 ex2_1020 rx2_1020
    have bx2_1020 : 0 ≤ x2_1020 ∧ x2_1020 ≤ 8 := by rw [ex2_1020]; exact (bx_s0_7 hk0).mp (hI.bx _ _)
    refine ⟨fun c => ?_, fun c => ?_⟩
    · exact hQ _ (by omega)
    · exact hQ _ (by omega)
theorem sX6_turn {k0 : Nat} {p1 : Int} {M : Mem} {Q : Int → Mem → Prop} (hI : IX M) (hk0 : isS k0) (hQ : ∀ z : Int, ∀ M' : Mem, IX M' → Q z M') : qX6_turn k0 p1 M Q := by
  unfold qX6_turn
  have ek0 : 0 < k0 ∧ k0 < 155 ∧ (k0 - 1) % 7 = 0 := hk0
  refine sX6_isMourner (p1 := p1) hI hk0 ?_
  intro x1_1023 p1024 q1025 q1026
  refine ⟨fun c => ?_, fun c => ?_⟩
  · refine sX6_hasEnded (p1 := p1) hI hk0 (by omega) ?_
    intro x3_1028 q1029 q1030
    refine ⟨fun c => ?_, fun c => ?_⟩
    · refine ⟨by omega, ?_⟩
      refine ⟨by omega, ?_⟩
      intro x7_1032 ex7_1032 rx7_1032
      have bx7_1032 : -1 ≤ x7_1032 ∧ x7_1032 ≤ 5 := by rw [ex7_1032]; exact (bx_s5 hk0).mp (hI.bx _ _)
      intro x8_1033 ex8_1033 rx8_1033
      have bx8_1033 : 0 ≤ x8_1033 ∧ x8_1033 ≤ 5 := by rw [ex8_1033]; exact (bx_s4 hk0).mp (hI.bx _ _)
      refine sX6_hasArrived (p1 := x8_1033) hI hk0 (by omega) ?_
      intro x9_1034 q1035 q1036
      refine ⟨fun c => ?_, fun c => ?_⟩
      · exact hQ _ _ hI
      · intro x11_1039 ex11_1039 rx11_1039
        have bx11_1039 : 0 ≤ x11_1039 ∧ x11_1039 ≤ 5 := by rw [ex11_1039]; exact (bx_s4 hk0).mp (hI.bx _ _)
        refine ⟨fun c => ?_, fun c => ?_⟩
        · intro x13_1041 ex13_1041 rx13_1041
          have bx13_1041 : 0 ≤ x13_1041 ∧ x13_1041 ≤ 5 := by rw [ex13_1041]; exact (bx_s4 hk0).mp (hI.bx _ _)
          intro M14_1042 h_M14_1042
          have hM14_1042 : IX M14_1042 := by rw [h_M14_1042]; exact hI.up (isS.nsp hk0 5 (by decide)) ((bx_s5 hk0).mpr (by omega))
          refine ⟨fun c => ?_, fun c => ?_⟩
          · exact hQ _ _ hM14_1042
          · exact hQ _ _ hM14_1042
        · exact hQ _ _ hI
    · exact hQ _ _ hI
  · exact hQ _ _ hI
theorem sX6_shove {k0 : Nat} {p1 : Int} {p2 : Int} {M : Mem} {Q : Int → Mem → Prop} (hI : IX M) (hk0 : isS k0) (hQ : ∀ z : Int, ∀ M' : Mem, IX M' → Q z M') : qX6_shove k0 p1 p2 M Q := by
  unfold qX6_shove
  have ek0 : 0 < k0 ∧ k0 < 155 ∧ (k0 - 1) % 7 = 0 := hk0
  refine sX6_isMourner (p1 := p1) hI hk0 ?_
  intro x1_1055 p1056 q1057 q1058
  refine ⟨fun c => ?_, fun c => ?_⟩
  · exact hQ _ _ hI
  · refine ⟨fun c => ?_, fun c => ?_⟩
    · exact hQ _ _ hI
    · refine ⟨fun c => ?_, fun c => ?_⟩
      · exact hQ _ _ hI
      · refine ⟨fun c => ?_, fun c => ?_⟩
        · refine sX6_hasEnded (p1 := p1) hI hk0 (by omega) ?_
          intro x6_1066 q1067 q1068
          refine ⟨fun c => ?_, fun c => ?_⟩
          · refine ⟨by omega, ?_⟩
            refine ⟨by omega, ?_⟩
            intro x10_1070 ex10_1070 rx10_1070
            have bx10_1070 : -1 ≤ x10_1070 ∧ x10_1070 ≤ 29 := by rw [ex10_1070]; exact (bx_s3 hk0).mp (hI.bx _ _)
            refine ⟨(by first | assumption | exact (by omega)), ?_⟩
            refine sX8_putOnStreet (p1 := x10_1070 + p2) hI  ?_
            intro x12_1071 p1072 q1073
            intro M13_1074 h_M13_1074
            have hM13_1074 : IX M13_1074 := by rw [h_M13_1074]; exact hI.up (isS.nsp hk0 3 (by decide)) ((bx_s3 hk0).mpr (by omega))
            intro x14_1075 ex14_1075 rx14_1075
            have bx14_1075 : -1 ≤ x14_1075 ∧ x14_1075 ≤ 29 := by rw [ex14_1075]; exact (bx_s3 hk0).mp (hM13_1074.bx _ _)
            have fx14_1075 : x14_1075 = x12_1071 := by rw [ex14_1075, h_M13_1074, up2_s]
            exact hQ _ _ hM13_1074
          · exact hQ _ _ hI
        · exact hQ _ _ hI
theorem sX6_isHearse {k0 : Nat} {p1 : Int} {M : Mem} {Q : Int → Mem → Prop} (hI : IX M) (hk0 : isS k0) (hQ : ∀ z : Int, (¬ z = 0 → 0 ≤ p1 ∧ p1 ≤ 5) → Q z M) : qX6_isHearse k0 p1 M Q := by
  unfold qX6_isHearse
  have ek0 : 0 < k0 ∧ k0 < 155 ∧ (k0 - 1) % 7 = 0 := hk0
  refine ⟨fun c => ?_, fun c => ?_⟩
  · exact hQ _ (by omega)
  · intro x2_1087 ex2_1087 rx2_1087
    have bx2_1087 : 0 ≤ x2_1087 ∧ x2_1087 ≤ 6 := by rw [ex2_1087]; exact (bx_s0_6 hk0).mp (hI.bx _ _)
    refine ⟨fun c => ?_, fun c => ?_⟩
    · exact hQ _ (by omega)
    · exact hQ _ (by omega)
theorem sX11_line_L17   {Q : Int → Mem → Prop} (hQ : ∀ z : Int, ∀ M' : Mem, IX M' → Q z M') : ∀ (n : Nat) (v1 v2 : Int) (M : Mem), IX M → (-1 ≤ v1 ∧ v1 ≤ 30 ∧ 0 ≤ v2 ∧ v2 ≤ 6) → 6 - v2 < (n : Int) → qX11_line_L17 Q n v1 v2 M := by
  intro n
  induction n with
  | zero => intro v1 v2 M hI hv hm; exact absurd hm (by omega)
  | succ n ih =>
    intro v1 v2 M hI hv hm
    rw [qX11_line_L17]
    refine ⟨(by first | assumption | exact (by omega)), ?_⟩
    refine ⟨fun c => ?_, fun c => ?_⟩
    · intro x5_1841 ex5_1841 rx5_1841
      have bx5_1841 : 0 ≤ x5_1841 ∧ x5_1841 ≤ 8 := by rw [ex5_1841]; exact (bx_c167_1).mp (hI.bx _ _)
      exact hQ _ _ hI
    · refine ⟨(by first | assumption | exact (by omega)), ?_⟩
      refine sX6_foremostBelow (p1 := v1) hI (show isS 1 by decide) ?_
      intro x7_1843 p1844 q1845
      refine ⟨fun c => ?_, fun c => ?_⟩
      · refine ⟨by omega, ?_⟩
        refine ⟨by omega, ?_⟩
        intro x11_1847 ex11_1847 rx11_1847
        have bx11_1847 : -1 ≤ x11_1847 ∧ x11_1847 ≤ 29 := by rw [ex11_1847]; exact (bx_s1 (show isS 1 by decide)).mp (hI.bx _ _)
        refine sX4_add (p1 := x7_1843) hI  ?_
        intro M12_1848 hM12_1848
        exact ih _ _ _ hM12_1848 (by omega) (by omega)
      · intro x13_1850 ex13_1850 rx13_1850
        have bx13_1850 : 0 ≤ x13_1850 ∧ x13_1850 ≤ 8 := by rw [ex13_1850]; exact (bx_c167_1).mp (hI.bx _ _)
        exact hQ _ _ hI
theorem sX11_line  {M : Mem} {Q : Int → Mem → Prop} (hI : IX M) (hQ : ∀ z : Int, ∀ M' : Mem, IX M' → Q z M') : qX11_line M Q := by
  unfold qX11_line
  refine sX4_clear  hI  ?_
  intro M1_1851 hM1_1851
  intro x2_1852 ex2_1852 rx2_1852
  have bx2_1852 : 4 ≤ x2_1852 ∧ x2_1852 ≤ 30 := by rw [ex2_1852]; exact (bx_c158_1).mp (hM1_1851.bx _ _)
  refine ⟨7, ?_⟩
  refine sX11_line_L17 ?_ _ _ _ _ hM1_1851 (by omega) (by omega)
  · exact hQ
theorem sX11_ahead_L48 {p1 : Int}  {Q : Int → Mem → Prop} (hQ : ∀ z : Int, ∀ M' : Mem, IX M' → Q z M') : ∀ (n : Nat) (v2 : Int) (M : Mem), IX M → (0 ≤ v2 ∧ v2 ≤ 6) → 6 - v2 < (n : Int) → qX11_ahead_L48 p1 Q n v2 M := by
  intro n
  induction n with
  | zero => intro v2 M hI hv hm; exact absurd hm (by omega)
  | succ n ih =>
    intro v2 M hI hv hm
    rw [qX11_ahead_L48]
    intro x7_1853 ex7_1853 rx7_1853
    have bx7_1853 : 0 ≤ x7_1853 ∧ x7_1853 ≤ 6 := by rw [ex7_1853]; exact (bx_s0_6 (show isS 8 by decide)).mp (hI.bx _ _)
    refine ⟨(by first | assumption | exact (by omega)), ?_⟩
    refine ⟨fun c => ?_, fun c => ?_⟩
    · intro x10_1855 ex10_1855 rx10_1855
      have bx10_1855 : -2147483648 ≤ x10_1855 ∧ x10_1855 ≤ 2147483647 := rx10_1855
      exact hQ _ _ hI
    · refine ⟨by omega, ?_⟩
      refine ⟨by omega, ?_⟩
      intro x13_1857 ex13_1857 rx13_1857
      have bx13_1857 : -1 ≤ x13_1857 ∧ x13_1857 ≤ 29 := by rw [ex13_1857]; exact (bx_s1 (show isS 8 by decide)).mp (hI.bx _ _)
      refine sX4_add (p1 := x13_1857) hI  ?_
      intro M14_1858 hM14_1858
      exact ih _ _ hM14_1858 (by omega) (by omega)
theorem sX11_ahead {p1 : Int} {M : Mem} {Q : Int → Mem → Prop} (hI : IX M) (hQ : ∀ z : Int, ∀ M' : Mem, IX M' → Q z M') : qX11_ahead p1 M Q := by
  unfold qX11_ahead
  refine ⟨fun c => ?_, fun c => ?_⟩
  · exact hQ _ _ hI
  · refine ⟨fun c => ?_, fun c => ?_⟩
    · refine sX6_copyFrom  hI (show isS 8 by decide) (show isS 1 by decide) ?_
      intro M3_1862 hM3_1862 gM3_1862
      refine ⟨(hM3_1862).l16, ?_⟩
      refine sX10_walk (p3 := p1) hM3_1862 (show isS 8 by decide) (hM3_1862).l16 (by omega) ?_
      intro M5_1863 hM5_1863
      refine sX4_clear  hM5_1863  ?_
      intro M6_1864 hM6_1864
      refine ⟨7, ?_⟩
      refine sX11_ahead_L48 ?_ _ _ _ hM6_1864 (by omega) (by omega)
      · exact hQ
    · exact hQ _ _ hI
theorem sX4_tellOne {p1 : Int} {M : Mem} {Q : Mem → Prop} (hI : IX M) (hQ : ∀ M' : Mem, IX M' → Q M') : qX4_tellOne p1 M Q := by
  unfold qX4_tellOne
  refine sX4_clear  hI  ?_
  intro M1_1866 hM1_1866
  refine sX4_add (p1 := p1) hM1_1866  ?_
  intro M2_1867 hM2_1867
  exact hQ _ hM2_1867
theorem sX11_arrives_L26 {p1 : Int} {X65 : Int → Mem → Prop} {Q : Int → Mem → Prop} (hQ : ∀ z : Int, ∀ M' : Mem, IX M' → Q z M') (hX65 : ∀ w1 : Int, ∀ M' : Mem, IX M' → (0 ≤ w1 ∧ w1 ≤ 200 ∧ 0 ≤ p1 ∧ p1 ≤ 5) → X65 w1 M') : ∀ (n : Nat) (v2 : Int) (M : Mem), IX M → (0 ≤ v2 ∧ v2 ≤ 200 ∧ 0 ≤ p1 ∧ p1 ≤ 5) → 200 - v2 < (n : Int) → qX11_arrives_L26 p1 X65 Q n v2 M := by
  intro n
  induction n with
  | zero => intro v2 M hI hv hm; exact absurd hm (by omega)
  | succ n ih =>
    intro v2 M hI hv hm
    rw [qX11_arrives_L26]
    refine ⟨(by first | assumption | exact (by omega)), ?_⟩
    refine ⟨fun c => ?_, fun c => ?_⟩
    · exact hX65 _ _ hI (by omega)
    · refine sX6_hasArrived (p1 := p1) hI (show isS 8 by decide) (by omega) ?_
      intro x6_1870 q1871 q1872
      refine ⟨fun c => ?_, fun c => ?_⟩
      · exact hX65 _ _ hI (by omega)
      · refine ⟨(hI).l16, ?_⟩
        refine sX10_advance  hI (show isS 8 by decide) (hI).l16 ?_
        intro M9_1875 hM9_1875
        exact ih _ _ hM9_1875 (by omega) (by omega)
theorem sX11_arrives {p1 : Int} {M : Mem} {Q : Int → Mem → Prop} (hI : IX M) (hQ : ∀ z : Int, ∀ M' : Mem, IX M' → Q z M') : qX11_arrives p1 M Q := by
  unfold qX11_arrives
  refine sX6_isHearse (p1 := p1) hI (show isS 1 by decide) ?_
  intro x1_1876 p1877 q1878 q1879
  refine ⟨fun c => ?_, fun c => ?_⟩
  · refine sX6_copyFrom  hI (show isS 8 by decide) (show isS 1 by decide) ?_
    intro M3_1881 hM3_1881 gM3_1881
    refine ⟨201, ?_⟩
    refine sX11_arrives_L26 ?_ ?_ _ _ _ hM3_1881 (by omega) (by omega)
    · exact hQ
    · intro v2_1882 M_1883 hM_1883 p1884
      unfold qX11_arrives_J65
      refine sX6_hasArrived (p1 := p1) hM_1883 (show isS 8 by decide) (by omega) ?_
      intro x11_1885 q1886 q1887
      refine ⟨fun c => ?_, fun c => ?_⟩
      · refine ⟨by omega, ?_⟩
        refine ⟨by omega, ?_⟩
        intro x15_1889 ex15_1889 rx15_1889
        have bx15_1889 : -2147483648 ≤ x15_1889 ∧ x15_1889 ≤ 2147483647 := rx15_1889
        refine sX4_tellOne (p1 := x15_1889) hM_1883  ?_
        intro M16_1890 hM16_1890
        refine ⟨(by first | assumption | exact (by omega)), ?_⟩
        exact hQ _ _ hM16_1890
      · exact hQ _ _ hM_1883
  · exact hQ _ _ hI
theorem sX11_jam_L44 {p1 : Int} {X84 : Int → Mem → Prop} {Q : Int → Mem → Prop} (hQ : ∀ z : Int, ∀ M' : Mem, IX M' → Q z M') (hX84 : ∀ w1 : Int, ∀ M' : Mem, IX M' → (0 ≤ w1 ∧ w1 ≤ 29) → X84 w1 M') : ∀ (n : Nat) (v2 v3 : Int) (M : Mem), IX M → (0 ≤ v2 ∧ v2 ≤ 29 ∧ 1 ≤ v3 ∧ v3 ≤ 30) → 30 - v3 < (n : Int) → qX11_jam_L44 p1 X84 Q n v2 v3 M := by
  intro n
  induction n with
  | zero => intro v2 v3 M hI hv hm; exact absurd hm (by omega)
  | succ n ih =>
    intro v2 v3 M hI hv hm
    rw [qX11_jam_L44]
    intro x6_1893 ex6_1893 rx6_1893
    have bx6_1893 : 4 ≤ x6_1893 ∧ x6_1893 ≤ 30 := by rw [ex6_1893]; exact (bx_c158_1).mp (hI.bx _ _)
    refine ⟨(by first | assumption | exact (by omega)), ?_⟩
    refine ⟨fun c => ?_, fun c => ?_⟩
    · exact hX84 _ _ hI (by omega)
    · refine ⟨by omega, ?_⟩
      refine ⟨by omega, ?_⟩
      intro x11_1896 ex11_1896 rx11_1896
      have bx11_1896 : -2147483648 ≤ x11_1896 ∧ x11_1896 ≤ 2147483647 := rx11_1896
      refine ⟨by omega, ?_⟩
      refine ⟨by omega, ?_⟩
      intro x14_1897 ex14_1897 rx14_1897
      have bx14_1897 : -2147483648 ≤ x14_1897 ∧ x14_1897 ≤ 2147483647 := rx14_1897
      refine ⟨fun c => ?_, fun c => ?_⟩
      · exact ih _ _ _ hI (by omega) (by omega)
      · exact ih _ _ _ hI (by omega) (by omega)
theorem sX11_jam {p1 : Int} {M : Mem} {Q : Int → Mem → Prop} (hI : IX M) (hQ : ∀ z : Int, ∀ M' : Mem, IX M' → Q z M') : qX11_jam p1 M Q := by
  unfold qX11_jam
  refine ⟨fun c => ?_, fun c => ?_⟩
  · exact hQ _ _ hI
  · refine ⟨fun c => ?_, fun c => ?_⟩
    · refine sX6_copyFrom  hI (show isS 8 by decide) (show isS 1 by decide) ?_
      intro M3_1903 hM3_1903 gM3_1903
      refine ⟨(hM3_1903).l16, ?_⟩
      refine sX10_walk (p3 := p1) hM3_1903 (show isS 8 by decide) (hM3_1903).l16 (by omega) ?_
      intro M5_1904 hM5_1904
      refine ⟨31, ?_⟩
      refine sX11_jam_L44 ?_ ?_ _ _ _ _ hM5_1904 (by omega) (by omega)
      · exact hQ
      · intro v2_1905 M_1906 hM_1906 p1907
        refine ⟨by omega, ?_⟩
        refine ⟨by omega, ?_⟩
        intro x19_1908 ex19_1908 rx19_1908
        have bx19_1908 : -2147483648 ≤ x19_1908 ∧ x19_1908 ≤ 2147483647 := rx19_1908
        intro x20_1909 ex20_1909 rx20_1909
        have bx20_1909 : -2147483648 ≤ x20_1909 ∧ x20_1909 ≤ 2147483647 := rx20_1909
        refine sX4_tellTwo (p1 := x19_1908) (p3 := x20_1909) hM_1906  ?_
        intro M21_1910 hM21_1910
        refine ⟨(by first | assumption | exact (by omega)), ?_⟩
        exact hQ _ _ hM21_1910
    · exact hQ _ _ hI
theorem sX6_isAheadOf {k0 : Nat} {p1 : Int} {p2 : Int} {M : Mem} {Q : Int → Mem → Prop} (hI : IX M) (hk0 : isS k0) (hp : 0 ≤ p1 ∧ p1 ≤ 5 ∧ 0 ≤ p2 ∧ p2 ≤ 5) (hQ : ∀ z : Int, Q z M) : qX6_isAheadOf k0 p1 p2 M Q := by
  unfold qX6_isAheadOf
  have ek0 : 0 < k0 ∧ k0 < 155 ∧ (k0 - 1) % 7 = 0 := hk0
  refine sX6_hasArrived (p1 := p1) hI hk0 (by omega) ?_
  intro x1_1912 q1913 q1914
  refine ⟨fun c => ?_, fun c => ?_⟩
  · refine sX6_hasArrived (p1 := p2) hI hk0 (by omega) ?_
    intro x3_1916 q1917 q1918
    refine ⟨fun c => ?_, fun c => ?_⟩
    · exact hQ _
    · refine ⟨by omega, ?_⟩
      refine ⟨by omega, ?_⟩
      intro x7_1921 ex7_1921 rx7_1921
      have bx7_1921 : -1 ≤ x7_1921 ∧ x7_1921 ≤ 29 := by rw [ex7_1921]; exact (bx_s1 hk0).mp (hI.bx _ _)
      refine ⟨by omega, ?_⟩
      refine ⟨by omega, ?_⟩
      intro x10_1922 ex10_1922 rx10_1922
      have bx10_1922 : -1 ≤ x10_1922 ∧ x10_1922 ≤ 29 := by rw [ex10_1922]; exact (bx_s1 hk0).mp (hI.bx _ _)
      refine ⟨fun c => ?_, fun c => ?_⟩
      · exact hQ _
      · exact hQ _
  · refine sX6_hasArrived (p1 := p2) hI hk0 (by omega) ?_
    intro x12_1926 q1927 q1928
    refine ⟨fun c => ?_, fun c => ?_⟩
    · exact hQ _
    · refine ⟨by omega, ?_⟩
      refine ⟨by omega, ?_⟩
      intro x16_1931 ex16_1931 rx16_1931
      have bx16_1931 : -2147483648 ≤ x16_1931 ∧ x16_1931 ≤ 2147483647 := rx16_1931
      refine ⟨by omega, ?_⟩
      refine ⟨by omega, ?_⟩
      intro x19_1932 ex19_1932 rx19_1932
      have bx19_1932 : -2147483648 ≤ x19_1932 ∧ x19_1932 ≤ 2147483647 := rx19_1932
      refine ⟨fun c => ?_, fun c => ?_⟩
      · exact hQ _
      · exact hQ _
end
section
theorem sX11_passes_L88 {p1 : Int} {p2 : Int} {X121 : Int → Mem → Prop} {Q : Int → Mem → Prop} (hQ : ∀ z : Int, ∀ M' : Mem, IX M' → Q z M') (hX121 : ∀ w1 : Int, ∀ M' : Mem, IX M' → (1 ≤ w1 ∧ w1 ≤ 61 ∧ 0 ≤ p1 ∧ p1 ≤ 5) → X121 w1 M') : ∀ (n : Nat) (v3 : Int) (M : Mem), IX M → (1 ≤ v3 ∧ v3 ≤ 61 ∧ 0 ≤ p1 ∧ p1 ≤ 5 ∧ 0 ≤ p2 ∧ p2 ≤ 5) → 61 - v3 < (n : Int) → qX11_passes_L88 p1 p2 X121 Q n v3 M := by
  intro n
  induction n with
  | zero => intro v3 M hI hv hm; exact absurd hm (by omega)
  | succ n ih =>
    intro v3 M hI hv hm
    rw [qX11_passes_L88]
    refine ⟨(by first | assumption | exact (by omega)), ?_⟩
    refine ⟨fun c => ?_, fun c => ?_⟩
    · exact hQ _ _ hI
    · refine ⟨(hI).l16, ?_⟩
      refine sX10_advance  hI (show isS 8 by decide) (hI).l16 ?_
      intro M21_1937 hM21_1937
      refine sX6_isAheadOf (p1 := p1) (p2 := p2) hM21_1937 (show isS 8 by decide) (by omega) ?_
      intro x22_1938 q1939 q1940
      refine ⟨fun c => ?_, fun c => ?_⟩
      · exact ih _ _ hM21_1937 (by omega) (by omega)
      · exact hX121 _ _ hM21_1937 (by omega)
theorem sX11_passes {p1 : Int} {p2 : Int} {M : Mem} {Q : Int → Mem → Prop} (hI : IX M) (hQ : ∀ z : Int, ∀ M' : Mem, IX M' → Q z M') : qX11_passes p1 p2 M Q := by
  unfold qX11_passes
  refine sX6_isHearse (p1 := p1) hI (show isS 1 by decide) ?_
  intro x1_1943 p1944 q1945 q1946
  refine ⟨fun c => ?_, fun c => ?_⟩
  · exact hQ _ _ hI
  · refine sX6_isHearse (p1 := p2) hI (show isS 1 by decide) ?_
    intro x3_1949 p1950 q1951 q1952
    refine ⟨fun c => ?_, fun c => ?_⟩
    · exact hQ _ _ hI
    · refine ⟨fun c => ?_, fun c => ?_⟩
      · refine sX6_hasArrived (p1 := p1) hI (show isS 1 by decide) (by omega) ?_
        intro x6_1956 q1957 q1958
        refine ⟨fun c => ?_, fun c => ?_⟩
        · exact hQ _ _ hI
        · refine sX6_hasArrived (p1 := p2) hI (show isS 1 by decide) (by omega) ?_
          intro x8_1961 q1962 q1963
          refine ⟨fun c => ?_, fun c => ?_⟩
          · exact hQ _ _ hI
          · refine ⟨by omega, ?_⟩
            refine ⟨by omega, ?_⟩
            intro x12_1966 ex12_1966 rx12_1966
            have bx12_1966 : -1 ≤ x12_1966 ∧ x12_1966 ≤ 29 := by rw [ex12_1966]; exact (bx_s1 (show isS 1 by decide)).mp (hI.bx _ _)
            refine ⟨by omega, ?_⟩
            refine ⟨by omega, ?_⟩
            intro x15_1967 ex15_1967 rx15_1967
            have bx15_1967 : -1 ≤ x15_1967 ∧ x15_1967 ≤ 29 := by rw [ex15_1967]; exact (bx_s1 (show isS 1 by decide)).mp (hI.bx _ _)
            refine ⟨fun c => ?_, fun c => ?_⟩
            · refine sX6_copyFrom  hI (show isS 8 by decide) (show isS 1 by decide) ?_
              intro M17_1969 hM17_1969 gM17_1969
              refine ⟨62, ?_⟩
              refine sX11_passes_L88 ?_ ?_ _ _ _ hM17_1969 (by omega) (by omega)
              · exact hQ
              · intro v3_1970 M_1971 hM_1971 p1972
                refine ⟨by omega, ?_⟩
                refine ⟨by omega, ?_⟩
                intro x27_1973 ex27_1973 rx27_1973
                have bx27_1973 : -1 ≤ x27_1973 ∧ x27_1973 ≤ 29 := by rw [ex27_1973]; exact (bx_s1 (show isS 8 by decide)).mp (hM_1971.bx _ _)
                refine sX4_tellOne (p1 := x27_1973) hM_1971  ?_
                intro M28_1974 hM28_1974
                refine ⟨(by first | assumption | exact (by omega)), ?_⟩
                exact hQ _ _ hM28_1974
            · exact hQ _ _ hI
      · exact hQ _ _ hI
theorem sX11_ends_L33 {p1 : Int} {X72 : Int → Mem → Prop} {Q : Int → Mem → Prop} (hQ : ∀ z : Int, ∀ M' : Mem, IX M' → Q z M') (hX72 : ∀ w1 : Int, ∀ M' : Mem, IX M' → (0 ≤ w1 ∧ w1 ≤ 200 ∧ 0 ≤ p1 ∧ p1 ≤ 7) → X72 w1 M') : ∀ (n : Nat) (v2 : Int) (M : Mem), IX M → (0 ≤ v2 ∧ v2 ≤ 200 ∧ 0 ≤ p1 ∧ p1 ≤ 7) → 200 - v2 < (n : Int) → qX11_ends_L33 p1 X72 Q n v2 M := by
  intro n
  induction n with
  | zero => intro v2 M hI hv hm; exact absurd hm (by omega)
  | succ n ih =>
    intro v2 M hI hv hm
    rw [qX11_ends_L33]
    refine ⟨(by first | assumption | exact (by omega)), ?_⟩
    refine ⟨fun c => ?_, fun c => ?_⟩
    · exact hX72 _ _ hI (by omega)
    · refine sX6_hasEnded (p1 := p1) hI (show isS 8 by decide) (by omega) ?_
      intro x7_1979 q1980 q1981
      refine ⟨fun c => ?_, fun c => ?_⟩
      · exact hX72 _ _ hI (by omega)
      · refine ⟨(hI).l16, ?_⟩
        refine sX10_advance  hI (show isS 8 by decide) (hI).l16 ?_
        intro M10_1984 hM10_1984
        exact ih _ _ hM10_1984 (by omega) (by omega)
theorem sX11_ends {p1 : Int} {M : Mem} {Q : Int → Mem → Prop} (hI : IX M) (hQ : ∀ z : Int, ∀ M' : Mem, IX M' → Q z M') : qX11_ends p1 M Q := by
  unfold qX11_ends
  refine sX6_isMourner (p1 := p1) hI (show isS 1 by decide) ?_
  intro x1_1985 p1986 q1987 q1988
  refine ⟨fun c => ?_, fun c => ?_⟩
  · refine sX6_copyFrom  hI (show isS 8 by decide) (show isS 1 by decide) ?_
    intro M3_1990 hM3_1990 gM3_1990
    refine sX10_forgetTallies  hM3_1990  ?_
    intro M4_1991 hM4_1991
    refine ⟨201, ?_⟩
    refine sX11_ends_L33 ?_ ?_ _ _ _ hM4_1991 (by omega) (by omega)
    · exact hQ
    · intro v2_1992 M_1993 hM_1993 p1994
      unfold qX11_ends_J72
      refine sX6_hasEnded (p1 := p1) hM_1993 (show isS 8 by decide) (by omega) ?_
      intro x12_1995 q1996 q1997
      refine ⟨fun c => ?_, fun c => ?_⟩
      · refine ⟨(by first | assumption | exact (by omega)), ?_⟩
        refine ⟨by omega, ?_⟩
        refine ⟨by omega, ?_⟩
        intro x17_1999 ex17_1999 rx17_1999
        have bx17_1999 : -2147483648 ≤ x17_1999 ∧ x17_1999 ≤ 2147483647 := rx17_1999
        refine sX4_tellTwo (p1 := v2_1992) (p3 := x17_1999) hM_1993  ?_
        intro M18_2000 hM18_2000
        intro x19_2001 ex19_2001 rx19_2001
        have bx19_2001 : -2147483648 ≤ x19_2001 ∧ x19_2001 ≤ 2147483647 := rx19_2001
        exact hQ _ _ hM18_2000
      · exact hQ _ _ hM_1993
  · exact hQ _ _ hI
theorem sX2_period {k0 : Nat} {M : Mem} {Q : Int → Mem → Prop} (hI : IX M) (hk0 : isL k0) (hQ : ∀ z : Int, (0 ≤ z ∧ z ≤ 200) → Q z M) : qX2_period k0 M Q := by
  unfold qX2_period
  have ek0 : k0 = 187 ∨ k0 = 192 := hk0
  refine sX2_uses (p1 := 4) hI hk0 ?_
  intro x1_2004 q2005 q2006
  refine ⟨fun c => ?_, fun c => ?_⟩
  · unfold qX2_period_J14
    refine sX2_uses (p1 := 3) hI hk0 ?_
    intro x3_2008 q2009 q2010
    refine ⟨fun c => ?_, fun c => ?_⟩
    · refine ⟨(by first | assumption | exact (by omega)), ?_⟩
      exact hQ _ (by omega)
    · intro x6_2013 ex6_2013 rx6_2013
      have bx6_2013 : 0 ≤ x6_2013 ∧ x6_2013 ≤ 20 := by rw [ex6_2013]; exact (bx_c158_3).mp (hI.bx _ _)
      refine ⟨(by first | assumption | exact (by omega)), ?_⟩
      exact hQ _ (by omega)
  · unfold qX2_period_J14
    refine sX2_uses (p1 := 3) hI hk0 ?_
    intro x3_2015 q2016 q2017
    refine ⟨fun c => ?_, fun c => ?_⟩
    · refine ⟨(by first | assumption | exact (by omega)), ?_⟩
      exact hQ _ (by omega)
    · intro x6_2020 ex6_2020 rx6_2020
      have bx6_2020 : 0 ≤ x6_2020 ∧ x6_2020 ≤ 20 := by rw [ex6_2020]; exact (bx_c158_3).mp (hI.bx _ _)
      refine ⟨(by first | assumption | exact (by omega)), ?_⟩
      exact hQ _ (by omega)
theorem sX10_toEnd_L15 {k1 : Nat} {k2 : Nat}  {Q : Mem → Prop} (hk1 : isS k1) (hk2 : isL k2) (hQ : ∀ M' : Mem, IX M' → Q M') : ∀ (n : Nat) (v3 v4 v5 : Int) (M : Mem), IX M → (0 ≤ v3 ∧ v3 ≤ 200 ∧ 0 ≤ v4 ∧ v4 ≤ v5 ∧ 0 ≤ v5 ∧ v5 ≤ 200) → 200 - v5 < (n : Int) → qX10_toEnd_L15 k1 k2 Q n v3 v4 v5 M := by
  intro n
  induction n with
  | zero => intro v3 v4 v5 M hI hv hm; exact absurd hm (by omega)
  | succ n ih =>
    intro v3 v4 v5 M hI hv hm
    rw [qX10_toEnd_L15]
    have ek1 : 0 < k1 ∧ k1 < 155 ∧ (k1 - 1) % 7 = 0 := hk1
    have ek2 : k2 = 187 ∨ k2 = 192 := hk2
    refine ⟨(by first | assumption | exact (by omega)), ?_⟩
    refine ⟨fun c => ?_, fun c => ?_⟩
    · exact hQ _ hI
    · refine ⟨(by first | assumption | exact (by omega)), ?_⟩
      refine ⟨(by first | assumption | exact (by omega)), ?_⟩
      refine ⟨fun c => ?_, fun c => ?_⟩
      · exact hQ _ hI
      · intro x7_2025 ex7_2025 rx7_2025
        have bx7_2025 : -2147483648 ≤ x7_2025 ∧ x7_2025 ≤ 2147483647 := rx7_2025
        intro x8_2026 ex8_2026 rx8_2026
        have bx8_2026 : 0 ≤ x8_2026 ∧ x8_2026 ≤ 8 := by rw [ex8_2026]; exact (bx_s0_7 hk1).mp (hI.bx _ _)
        refine ⟨fun c => ?_, fun c => ?_⟩
        · exact hQ _ hI
        · intro x10_2029 ex10_2029 rx10_2029
          have bx10_2029 : -2147483648 ≤ x10_2029 ∧ x10_2029 ≤ 2147483647 := rx10_2029
          intro x11_2030 ex11_2030 rx11_2030
          have bx11_2030 : 0 ≤ x11_2030 ∧ x11_2030 ≤ 6 := by rw [ex11_2030]; exact (bx_s0_6 hk1).mp (hI.bx _ _)
          refine ⟨fun c => ?_, fun c => ?_⟩
          · refine sX10_advance  hI hk1 hk2 ?_
            intro M13_2032 hM13_2032
            intro x14_2033 ex14_2033 rx14_2033
            have bx14_2033 : -2147483648 ≤ x14_2033 ∧ x14_2033 ≤ 2147483647 := rx14_2033
            refine ⟨fun c => ?_, fun c => ?_⟩
            · exact ih _ _ _ _ hM13_2032 (by omega) (by omega)
            · exact ih _ _ _ _ hM13_2032 (by omega) (by omega)
          · exact hQ _ hI
theorem sX10_toEnd {k1 : Nat} {k2 : Nat} {M : Mem} {Q : Mem → Prop} (hI : IX M) (hk1 : isS k1) (hk2 : isL k2) (hQ : ∀ M' : Mem, IX M' → Q M') : qX10_toEnd k1 k2 M Q := by
  unfold qX10_toEnd
  have ek1 : 0 < k1 ∧ k1 < 155 ∧ (k1 - 1) % 7 = 0 := hk1
  have ek2 : k2 = 187 ∨ k2 = 192 := hk2
  refine sX2_period  hI hk2 ?_
  intro x1_2037 p2038 q2039
  refine ⟨201, ?_⟩
  refine sX10_toEnd_L15 hk1 hk2 ?_ _ _ _ _ _ hI (by omega) (by omega)
  · exact hQ
theorem sX6_isRight {k0 : Nat} {p1 : Int} {M : Mem} {Q : Int → Mem → Prop} (hI : IX M) (hk0 : isS k0) (hp : 0 ≤ p1 ∧ p1 ≤ 7) (hQ : ∀ z : Int, Q z M) : qX6_isRight k0 p1 M Q := by
  unfold qX6_isRight
  have ek0 : 0 < k0 ∧ k0 < 155 ∧ (k0 - 1) % 7 = 0 := hk0
  refine ⟨by omega, ?_⟩
  refine ⟨by omega, ?_⟩
  intro x3_2040 ex3_2040 rx3_2040
  have bx3_2040 : -2147483648 ≤ x3_2040 ∧ x3_2040 ≤ 2147483647 := rx3_2040
  intro x4_2041 ex4_2041 rx4_2041
  have bx4_2041 : 0 ≤ x4_2041 ∧ x4_2041 ≤ 5 := by rw [ex4_2041]; exact (bx_s4 hk0).mp (hI.bx _ _)
  refine ⟨fun c => ?_, fun c => ?_⟩
  · exact hQ _
  · exact hQ _
theorem sX6_rightBits_L4 {k0 : Nat}  {Q : Int → Mem → Prop} {M0 : Mem} (hk0 : isS k0) (hQ : ∀ z : Int, Q z M0) : ∀ (n : Nat) (v1 v2 : Int), IX M0 → (0 ≤ v2 ∧ v2 ≤ 8) → iR v1 → 8 - v2 < (n : Int) → qX6_rightBits_L4 k0 Q n v1 v2 M0 := by
  intro n
  induction n with
  | zero => intro v1 v2 hI hv hrv1 hm; exact absurd hm (by omega)
  | succ n ih =>
    intro v1 v2 hI hv hrv1 hm
    rw [qX6_rightBits_L4]
    have ek0 : 0 < k0 ∧ k0 < 155 ∧ (k0 - 1) % 7 = 0 := hk0
    intro x1_2044 ex1_2044 rx1_2044
    have bx1_2044 : 0 ≤ x1_2044 ∧ x1_2044 ≤ 8 := by rw [ex1_2044]; exact (bx_s0_7 hk0).mp (hI.bx _ _)
    refine ⟨(by first | assumption | exact (by omega)), ?_⟩
    refine ⟨fun c => ?_, fun c => ?_⟩
    · refine ⟨(by first | assumption | exact (by omega)), ?_⟩
      exact hQ _
    · refine sX6_isRight (p1 := v2) hI hk0 (by omega) ?_
      intro x5_2047 q2048 q2049
      refine ⟨fun c => ?_, fun c => ?_⟩
      · intro x7_2051 ex7_2051 rx7_2051
        first | (have fx7_2051 := oI_64 (a := v1) (b := 0) (by omega) (by omega); rw [← ex7_2051] at fx7_2051) | skip
        exact ih _ _ hI (by omega) (by first | assumption | exact (by omega)) (by omega)
      · intro x8_2053 ex8_2053 rx8_2053
        first | (have fx8_2053 := slI_1 (b := v2) (by omega); rw [← ex8_2053] at fx8_2053) | skip
        intro x9_2054 ex9_2054 rx9_2054
        first | (have fx9_2054 := oI_64 (a := v1) (b := x8_2053) (by omega) (by omega); rw [← ex9_2054] at fx9_2054) | skip
        exact ih _ _ hI (by omega) (by first | assumption | exact (by omega)) (by omega)
theorem sX6_rightBits {k0 : Nat} {M : Mem} {Q : Int → Mem → Prop} (hI : IX M) (hk0 : isS k0) (hQ : ∀ z : Int, Q z M) : qX6_rightBits k0 M Q := by
  unfold qX6_rightBits
  have ek0 : 0 < k0 ∧ k0 < 155 ∧ (k0 - 1) % 7 = 0 := hk0
  refine ⟨9, ?_⟩
  refine sX6_rightBits_L4 hk0 ?_ _ _ _ hI (by omega) (by first | assumption | exact (by omega)) (by omega)
  · exact hQ
theorem sX11_rightOnesOfTrial {k1 : Nat} {M : Mem} {Q : Int → Mem → Prop} (hI : IX M) (hk1 : isL k1) (hQ : ∀ z : Int, ∀ M' : Mem, IX M' → Q z M') : qX11_rightOnesOfTrial k1 M Q := by
  unfold qX11_rightOnesOfTrial
  have ek1 : k1 = 187 ∨ k1 = 192 := hk1
  refine sX10_toEnd  hI (show isS 8 by decide) hk1 ?_
  intro M1_2055 hM1_2055
  refine sX6_rightBits  hM1_2055 (show isS 8 by decide) ?_
  intro x2_2056 q2057
  exact hQ _ _ hM1_2055
theorem sX6_wrongBits_L4 {k0 : Nat}  {Q : Int → Mem → Prop} {M0 : Mem} (hk0 : isS k0) (hQ : ∀ z : Int, Q z M0) : ∀ (n : Nat) (v1 v2 : Int), IX M0 → (0 ≤ v2 ∧ v2 ≤ 8) → iR v1 → 8 - v2 < (n : Int) → qX6_wrongBits_L4 k0 Q n v1 v2 M0 := by
  intro n
  induction n with
  | zero => intro v1 v2 hI hv hrv1 hm; exact absurd hm (by omega)
  | succ n ih =>
    intro v1 v2 hI hv hrv1 hm
    rw [qX6_wrongBits_L4]
    have ek0 : 0 < k0 ∧ k0 < 155 ∧ (k0 - 1) % 7 = 0 := hk0
    intro x1_2058 ex1_2058 rx1_2058
    have bx1_2058 : 0 ≤ x1_2058 ∧ x1_2058 ≤ 8 := by rw [ex1_2058]; exact (bx_s0_7 hk0).mp (hI.bx _ _)
    refine ⟨(by first | assumption | exact (by omega)), ?_⟩
    refine ⟨fun c => ?_, fun c => ?_⟩
    · refine ⟨(by first | assumption | exact (by omega)), ?_⟩
      exact hQ _
    · refine sX6_hasEnded (p1 := v2) hI hk0 (by omega) ?_
      intro x5_2061 q2062 q2063
      refine ⟨fun c => ?_, fun c => ?_⟩
      · intro x7_2065 ex7_2065 rx7_2065
        first | (have fx7_2065 := oI_64 (a := v1) (b := 0) (by omega) (by omega); rw [← ex7_2065] at fx7_2065) | skip
        exact ih _ _ hI (by omega) (by first | assumption | exact (by omega)) (by omega)
      · refine sX6_isRight (p1 := v2) hI hk0 (by omega) ?_
        intro x8_2067 q2068 q2069
        refine ⟨fun c => ?_, fun c => ?_⟩
        · intro x10_2071 ex10_2071 rx10_2071
          first | (have fx10_2071 := oI_64 (a := v1) (b := 0) (by omega) (by omega); rw [← ex10_2071] at fx10_2071) | skip
          exact ih _ _ hI (by omega) (by first | assumption | exact (by omega)) (by omega)
        · intro x11_2073 ex11_2073 rx11_2073
          first | (have fx11_2073 := slI_1 (b := v2) (by omega); rw [← ex11_2073] at fx11_2073) | skip
          intro x12_2074 ex12_2074 rx12_2074
          first | (have fx12_2074 := oI_64 (a := v1) (b := x11_2073) (by omega) (by omega); rw [← ex12_2074] at fx12_2074) | skip
          exact ih _ _ hI (by omega) (by first | assumption | exact (by omega)) (by omega)
theorem sX6_wrongBits {k0 : Nat} {M : Mem} {Q : Int → Mem → Prop} (hI : IX M) (hk0 : isS k0) (hQ : ∀ z : Int, Q z M) : qX6_wrongBits k0 M Q := by
  unfold qX6_wrongBits
  have ek0 : 0 < k0 ∧ k0 < 155 ∧ (k0 - 1) % 7 = 0 := hk0
  refine ⟨9, ?_⟩
  refine sX6_wrongBits_L4 hk0 ?_ _ _ _ hI (by omega) (by first | assumption | exact (by omega)) (by omega)
  · exact hQ
theorem sX11_right  {M : Mem} {Q : Int → Mem → Prop} (hI : IX M) (hQ : ∀ z : Int, ∀ M' : Mem, IX M' → Q z M') : qX11_right M Q := by
  unfold qX11_right
  refine sX6_copyFrom  hI (show isS 8 by decide) (show isS 1 by decide) ?_
  intro M1_2075 hM1_2075 gM1_2075
  refine ⟨(hM1_2075).l16, ?_⟩
  refine sX11_rightOnesOfTrial  hM1_2075 (hM1_2075).l16 ?_
  intro x3_2076 M3_2077 hM3_2077 q2078
  refine sX6_wrongBits  hM3_2077 (show isS 8 by decide) ?_
  intro x4_2079 q2080
  refine sX4_tellTwo (p1 := x3_2076) (p3 := x4_2079) hM3_2077  ?_
  intro M5_2081 hM5_2081
  refine sJ6_bitCount_0f7a4 (p0 := x3_2076) hM5_2081  ?_
  intro x6_2082 p2083 q2084
  exact hQ _ _ hM5_2081
theorem sX3_begin_L7 {k1 : Nat}  {Q : Mem → Prop} (hk1 : isS k1) (hQ : ∀ M' : Mem, IX M' → Q M') : ∀ (n : Nat) (v3 : Int) (M : Mem), IX M → (0 ≤ v3 ∧ v3 ≤ 30) → 30 - v3 < (n : Int) → qX3_begin_L7 k1 Q n v3 M := by
  intro n
  induction n with
  | zero => intro v3 M hI hv hm; exact absurd hm (by omega)
  | succ n ih =>
    intro v3 M hI hv hm
    rw [qX3_begin_L7]
    have ek1 : 0 < k1 ∧ k1 < 155 ∧ (k1 - 1) % 7 = 0 := hk1
    intro x2_2085 ex2_2085 rx2_2085
    have bx2_2085 : 4 ≤ x2_2085 ∧ x2_2085 ≤ 30 := by rw [ex2_2085]; exact (bx_c158_1).mp (hI.bx _ _)
    refine ⟨(by first | assumption | exact (by omega)), ?_⟩
    refine ⟨fun c => ?_, fun c => ?_⟩
    · exact hQ _ hI
    · intro x5_2088 ex5_2088 rx5_2088
      have bx5_2088 : 0 ≤ x5_2088 ∧ x5_2088 ≤ 6 := by rw [ex5_2088]; exact (bx_c179_2).mp (hI.bx _ _)
      refine ⟨fun c => ?_, fun c => ?_⟩
      · exact hQ _ hI
      · refine sX6_hearseOn (p1 := v3) hI hk1 ?_
        intro x7_2091 p2092 q2093
        refine ⟨fun c => ?_, fun c => ?_⟩
        · exact ih _ _ hI (by omega) (by omega)
        · intro x9_2096 ex9_2096 rx9_2096
          have bx9_2096 : 0 ≤ x9_2096 ∧ x9_2096 ≤ 6 := by rw [ex9_2096]; exact (bx_c179_2).mp (hI.bx _ _)
          refine ⟨by omega, ?_⟩
          refine ⟨by omega, ?_⟩
          intro M12_2097 h_M12_2097
          have hM12_2097 : IX M12_2097 := by rw [h_M12_2097]; exact hI.up (by decide) ((bx_c180).mpr (by omega))
          intro x13_2098 ex13_2098 rx13_2098
          have bx13_2098 : 0 ≤ x13_2098 ∧ x13_2098 ≤ 6 := by rw [ex13_2098]; exact (bx_c179_2).mp (hM12_2097.bx _ _)
          have fx13_2098 : x13_2098 = M 179 2 := by rw [ex13_2098, h_M12_2097, up2_n (by decide)]
          refine ⟨(by first | assumption | exact (by omega)), ?_⟩
          intro M15_2099 h_M15_2099
          have hM15_2099 : IX M15_2099 := by rw [h_M15_2099]; exact hM12_2097.up (by decide) ((bx_c179_2).mpr (by omega))
          exact ih _ _ hM15_2099 (by omega) (by omega)
theorem sX3_begin {k1 : Nat} {M : Mem} {Q : Mem → Prop} (hI : IX M) (hk1 : isS k1) (hQ : ∀ M' : Mem, IX M' → Q M') : qX3_begin k1 M Q := by
  unfold qX3_begin
  have ek1 : 0 < k1 ∧ k1 < 155 ∧ (k1 - 1) % 7 = 0 := hk1
  intro M1_2100 h_M1_2100
  have hM1_2100 : IX M1_2100 := by rw [h_M1_2100]; exact hI.up (by decide) ((bx_c179_2).mpr (by omega))
  refine ⟨31, ?_⟩
  refine sX3_begin_L7 hk1 ?_ _ _ _ hM1_2100 (by omega) (by omega)
  · exact hQ
theorem sX3_markBest  {M : Mem} {Q : Mem → Prop} (hI : IX M) (hQ : ∀ M' : Mem, IX M' → Q M') : qX3_markBest M Q := by
  unfold qX3_markBest
  intro M1_2101 h_M1_2101
  have hM1_2101 : IX M1_2101 := by rw [h_M1_2101]; exact hI.cp180_181
  exact hQ _ hM1_2101
theorem sX3_exchangeCells {p1 : Int} {p2 : Int} {M : Mem} {Q : Mem → Prop} (hI : IX M) (hp : 0 ≤ p1 ∧ p1 ≤ 5 ∧ 0 ≤ p2 ∧ p2 ≤ 5) (hQ : ∀ M' : Mem, IX M' → Q M') : qX3_exchangeCells p1 p2 M Q := by
  unfold qX3_exchangeCells
  refine ⟨by omega, ?_⟩
  refine ⟨by omega, ?_⟩
  intro x3_2102 ex3_2102 rx3_2102
  have bx3_2102 : 0 ≤ x3_2102 ∧ x3_2102 ≤ 29 := by rw [ex3_2102]; exact (bx_c180).mp (hI.bx _ _)
  refine ⟨by omega, ?_⟩
  refine ⟨by omega, ?_⟩
  intro x6_2103 ex6_2103 rx6_2103
  have bx6_2103 : 0 ≤ x6_2103 ∧ x6_2103 ≤ 29 := by rw [ex6_2103]; exact (bx_c180).mp (hI.bx _ _)
  intro M7_2104 h_M7_2104
  have hM7_2104 : IX M7_2104 := by rw [h_M7_2104]; exact hI.up (by decide) ((bx_c180).mpr (by omega))
  intro M8_2105 h_M8_2105
  have hM8_2105 : IX M8_2105 := by rw [h_M8_2105]; exact hM7_2104.up (by decide) ((bx_c180).mpr (by omega))
  exact hQ _ hM8_2105
theorem sX3_toNext_L7  {X34 : Int → Mem → Prop} {Q : Int → Mem → Prop} (hQ : ∀ z : Int, ∀ M' : Mem, IX M' → Q z M') (hX34 : ∀ w1 : Int, ∀ M' : Mem, IX M' → (-2 ≤ w1 ∧ w1 ≤ 4 ∧ w1 + 2 ≤ M' 179 2) → X34 w1 M') : ∀ (n : Nat) (v1 : Int) (M : Mem), IX M → (-2 ≤ v1 ∧ v1 ≤ 4 ∧ v1 + 2 ≤ M 179 2) → v1 + 2 < (n : Int) → qX3_toNext_L7 X34 Q n v1 M := by
  intro n
  induction n with
  | zero => intro v1 M hI hv hm; exact absurd hm (by omega)
  | succ n ih =>
    intro v1 M hI hv hm
    rw [qX3_toNext_L7]
    refine ⟨(by first | assumption | exact (by omega)), ?_⟩
    refine ⟨fun c => ?_, fun c => ?_⟩
    · exact hX34 _ _ hI (by omega)
    · refine ⟨by omega, ?_⟩
      refine ⟨by omega, ?_⟩
      intro x6_2108 ex6_2108 rx6_2108
      have bx6_2108 : 0 ≤ x6_2108 ∧ x6_2108 ≤ 29 := by rw [ex6_2108]; exact (bx_c180).mp (hI.bx _ _)
      refine ⟨by omega, ?_⟩
      refine ⟨by omega, ?_⟩
      intro x9_2109 ex9_2109 rx9_2109
      have bx9_2109 : 0 ≤ x9_2109 ∧ x9_2109 ≤ 29 := by rw [ex9_2109]; exact (bx_c180).mp (hI.bx _ _)
      refine ⟨fun c => ?_, fun c => ?_⟩
      · exact hX34 _ _ hI (by omega)
      · exact ih _ _ hI (by omega) (by omega)
theorem sX3_toNext_L47  {X73 : Int → Int → Mem → Prop} {Q : Int → Mem → Prop} (hQ : ∀ z : Int, ∀ M' : Mem, IX M' → Q z M') (hX73 : ∀ w1 w2 : Int, ∀ M' : Mem, IX M' → (0 ≤ w1 ∧ w1 ≤ 4 ∧ w1 ≤ w2 ∧ w2 ≤ 5) → X73 w1 w2 M') : ∀ (n : Nat) (v1 v2 : Int) (M : Mem), IX M → (0 ≤ v1 ∧ v1 ≤ 4 ∧ v1 ≤ v2 ∧ v2 ≤ 5) → v2 < (n : Int) → qX3_toNext_L47 X73 Q n v1 v2 M := by
  intro n
  induction n with
  | zero => intro v1 v2 M hI hv hm; exact absurd hm (by omega)
  | succ n ih =>
    intro v1 v2 M hI hv hm
    rw [qX3_toNext_L47]
    refine ⟨(by first | assumption | exact (by omega)), ?_⟩
    refine ⟨(by first | assumption | exact (by omega)), ?_⟩
    refine ⟨fun c => ?_, fun c => ?_⟩
    · exact hX73 _ _ _ hI (by omega)
    · refine ⟨by omega, ?_⟩
      refine ⟨by omega, ?_⟩
      intro x20_2114 ex20_2114 rx20_2114
      have bx20_2114 : 0 ≤ x20_2114 ∧ x20_2114 ≤ 29 := by rw [ex20_2114]; exact (bx_c180).mp (hI.bx _ _)
      refine ⟨by omega, ?_⟩
      refine ⟨by omega, ?_⟩
      intro x23_2115 ex23_2115 rx23_2115
      have bx23_2115 : 0 ≤ x23_2115 ∧ x23_2115 ≤ 29 := by rw [ex23_2115]; exact (bx_c180).mp (hI.bx _ _)
      refine ⟨fun c => ?_, fun c => ?_⟩
      · exact hX73 _ _ _ hI (by omega)
      · exact ih _ _ _ hI (by omega) (by omega)
theorem sX3_toNext_L91   {Q : Int → Mem → Prop} (hQ : ∀ z : Int, ∀ M' : Mem, IX M' → Q z M') : ∀ (n : Nat) (v3 v4 : Int) (M : Mem), IX M → (0 ≤ v3 ∧ v3 ≤ 6 ∧ -1 ≤ v4 ∧ v4 ≤ 5) → 6 - v3 < (n : Int) → qX3_toNext_L91 Q n v3 v4 M := by
  intro n
  induction n with
  | zero => intro v3 v4 M hI hv hm; exact absurd hm (by omega)
  | succ n ih =>
    intro v3 v4 M hI hv hm
    rw [qX3_toNext_L91]
    refine ⟨(by first | assumption | exact (by omega)), ?_⟩
    refine ⟨(by first | assumption | exact (by omega)), ?_⟩
    refine ⟨fun c => ?_, fun c => ?_⟩
    · exact hQ _ _ hI
    · refine sX3_exchangeCells (p1 := v3) (p2 := v4) hI (by omega) ?_
      intro M33_2120 hM33_2120
      exact ih _ _ _ hM33_2120 (by omega) (by omega)
theorem sX3_toNext  {M : Mem} {Q : Int → Mem → Prop} (hI : IX M) (hQ : ∀ z : Int, ∀ M' : Mem, IX M' → Q z M') : qX3_toNext M Q := by
  unfold qX3_toNext
  intro x1_2121 ex1_2121 rx1_2121
  have bx1_2121 : 0 ≤ x1_2121 ∧ x1_2121 ≤ 6 := by rw [ex1_2121]; exact (bx_c179_2).mp (hI.bx _ _)
  refine ⟨7, ?_⟩
  refine sX3_toNext_L7 ?_ ?_ _ _ _ hI (by omega) (by omega)
  · exact hQ
  · intro v1_2122 M_2123 hM_2123 p2124
    unfold qX3_toNext_J34
    refine ⟨(by first | assumption | exact (by omega)), ?_⟩
    refine ⟨fun c => ?_, fun c => ?_⟩
    · intro x14_2126 ex14_2126 rx14_2126
      have bx14_2126 : 0 ≤ x14_2126 ∧ x14_2126 ≤ 6 := by rw [ex14_2126]; exact (bx_c179_2).mp (hM_2123.bx _ _)
      refine ⟨6, ?_⟩
      refine sX3_toNext_L47 ?_ ?_ _ _ _ _ hM_2123 (by omega) (by omega)
      · exact hQ
      · intro v1_2127 v2_2128 M_2129 hM_2129 p2130
        unfold qX3_toNext_J73
        refine ⟨(by first | assumption | exact (by omega)), ?_⟩
        refine ⟨(by first | assumption | exact (by omega)), ?_⟩
        refine sX3_exchangeCells (p1 := v1_2127) (p2 := v2_2128) hM_2129 (by omega) ?_
        intro M28_2131 hM28_2131
        intro x29_2132 ex29_2132 rx29_2132
        have bx29_2132 : 0 ≤ x29_2132 ∧ x29_2132 ≤ 6 := by rw [ex29_2132]; exact (bx_c179_2).mp (hM28_2131.bx _ _)
        refine ⟨7, ?_⟩
        refine sX3_toNext_L91 ?_ _ _ _ _ hM28_2131 (by omega) (by omega)
        · exact hQ
    · exact hQ _ _ hM_2123
theorem sX6_placeHearses_L4 {k0 : Nat}  {Q : Mem → Prop} (hk0 : isS k0) (hQ : ∀ M' : Mem, IX M' → Q M') : ∀ (n : Nat) (v2 v3 : Int) (M : Mem), IX M → (0 ≤ v2 ∧ v2 ≤ v3 ∧ v3 ≤ 6) → 6 - v3 < (n : Int) → qX6_placeHearses_L4 k0 180 Q n v2 v3 M := by
  intro n
  induction n with
  | zero => intro v2 v3 M hI hv hm; exact absurd hm (by omega)
  | succ n ih =>
    intro v2 v3 M hI hv hm
    rw [qX6_placeHearses_L4]
    have ek0 : 0 < k0 ∧ k0 < 155 ∧ (k0 - 1) % 7 = 0 := hk0
    intro x1_2134 ex1_2134 rx1_2134
    have bx1_2134 : 0 ≤ x1_2134 ∧ x1_2134 ≤ 6 := by rw [ex1_2134]; exact (bx_s0_6 hk0).mp (hI.bx _ _)
    refine ⟨(by first | assumption | exact (by omega)), ?_⟩
    refine ⟨fun c => ?_, fun c => ?_⟩
    · exact hQ _ hI
    · refine sX6_hasArrived (p1 := v3) hI hk0 (by omega) ?_
      intro x4_2137 q2138 q2139
      refine ⟨fun c => ?_, fun c => ?_⟩
      · exact ih _ _ _ hI (by omega) (by omega)
      · refine ⟨by omega, ?_⟩
        refine ⟨by omega, ?_⟩
        intro x8_2142 ex8_2142 rx8_2142
        have bx8_2142 : 0 ≤ x8_2142 ∧ x8_2142 ≤ 29 := by rw [ex8_2142]; exact (bx_c180).mp (hI.bx _ _)
        refine ⟨by omega, ?_⟩
        refine ⟨by omega, ?_⟩
        intro M11_2143 h_M11_2143
        have hM11_2143 : IX M11_2143 := by rw [h_M11_2143]; exact hI.up (isS.nsp hk0 1 (by decide)) ((bx_s1 hk0).mpr (by omega))
        exact ih _ _ _ hM11_2143 (by omega) (by omega)
theorem sX6_placeHearses {k0 : Nat} {M : Mem} {Q : Mem → Prop} (hI : IX M) (hk0 : isS k0) (hQ : ∀ M' : Mem, IX M' → Q M') : qX6_placeHearses k0 180 M Q := by
  unfold qX6_placeHearses
  have ek0 : 0 < k0 ∧ k0 < 155 ∧ (k0 - 1) % 7 = 0 := hk0
  refine ⟨7, ?_⟩
  refine sX6_placeHearses_L4 hk0 ?_ _ _ _ _ hI (by omega) (by omega)
  · exact hQ
theorem sX11_order_L21  {X111 : Int → Mem → Prop} {Q : Int → Mem → Prop} (hQ : ∀ z : Int, ∀ M' : Mem, IX M' → Q z M') (hX111 : ∀ w1 : Int, ∀ M' : Mem, IX M' → (-1 ≤ w1 ∧ w1 ≤ 63) → X111 w1 M') : ∀ (n : Nat) (v1 v2 v3 : Int) (M : Mem), IX M → (-1 ≤ v1 ∧ v1 ≤ 63 ∧ 0 ≤ v2 ∧ v2 ≤ 1 ∧ 0 ≤ v3 ∧ v3 ≤ 720) → 720 - v3 < (n : Int) → qX11_order_L21 X111 Q n v1 v2 v3 M := by
  intro n
  induction n with
  | zero => intro v1 v2 v3 M hI hv hm; exact absurd hm (by omega)
  | succ n ih =>
    intro v1 v2 v3 M hI hv hm
    rw [qX11_order_L21]
    refine ⟨(by first | assumption | exact (by omega)), ?_⟩
    refine ⟨fun c => ?_, fun c => ?_⟩
    · exact hX111 _ _ hI (by omega)
    · refine ⟨(by first | assumption | exact (by omega)), ?_⟩
      refine ⟨fun c => ?_, fun c => ?_⟩
      · exact hX111 _ _ hI (by omega)
      · intro x6_2148 ex6_2148 rx6_2148
        have bx6_2148 : 0 ≤ x6_2148 ∧ x6_2148 ≤ 8 := by rw [ex6_2148]; exact (bx_s0_7 (show isS 1 by decide)).mp (hI.bx _ _)
        refine ⟨(by first | assumption | exact (by omega)), ?_⟩
        refine ⟨fun c => ?_, fun c => ?_⟩
        · exact hX111 _ _ hI (by omega)
        · refine sX6_copyFrom  hI (show isS 8 by decide) (show isS 1 by decide) ?_
          intro M9_2151 hM9_2151 gM9_2151
          refine sX6_placeHearses  hM9_2151 (show isS 8 by decide) ?_
          intro M10_2152 hM10_2152
          refine ⟨(hM10_2152).l16, ?_⟩
          refine sX11_rightOnesOfTrial  hM10_2152 (hM10_2152).l16 ?_
          intro x12_2153 M12_2154 hM12_2154 q2155
          refine sJ6_bitCount_0f7a4 (p0 := x12_2153) hM12_2154  ?_
          intro x13_2156 p2157 q2158
          refine ⟨fun c => ?_, fun c => ?_⟩
          · unfold qX11_order_J97
            refine sX3_toNext  hM12_2154  ?_
            intro x15_2160 M15_2161 hM15_2161 q2162 q2163
            exact ih _ _ _ _ hM15_2161 (by omega) (by omega)
          · refine sX3_markBest  hM12_2154  ?_
            intro M16_2165 hM16_2165
            unfold qX11_order_J97
            refine sX3_toNext  hM16_2165  ?_
            intro x15_2166 M15_2167 hM15_2167 q2168 q2169
            exact ih _ _ _ _ hM15_2167 (by omega) (by omega)
theorem sX11_order_L120   {Q : Int → Mem → Prop} (hQ : ∀ z : Int, ∀ M' : Mem, IX M' → Q z M') : ∀ (n : Nat) (v1 v3 : Int) (M : Mem), IX M → (-1 ≤ v1 ∧ v1 ≤ 63 ∧ 0 ≤ v3 ∧ v3 ≤ 6) → 6 - v3 < (n : Int) → qX11_order_L120 Q n v1 v3 M := by
  intro n
  induction n with
  | zero => intro v1 v3 M hI hv hm; exact absurd hm (by omega)
  | succ n ih =>
    intro v1 v3 M hI hv hm
    rw [qX11_order_L120]
    intro x19_2170 ex19_2170 rx19_2170
    have bx19_2170 : 0 ≤ x19_2170 ∧ x19_2170 ≤ 6 := by rw [ex19_2170]; exact (bx_c179_2).mp (hI.bx _ _)
    refine ⟨(by first | assumption | exact (by omega)), ?_⟩
    refine ⟨fun c => ?_, fun c => ?_⟩
    · refine ⟨(by first | assumption | exact (by omega)), ?_⟩
      exact hQ _ _ hI
    · refine ⟨by omega, ?_⟩
      refine ⟨by omega, ?_⟩
      intro x25_2173 ex25_2173 rx25_2173
      have bx25_2173 : -2147483648 ≤ x25_2173 ∧ x25_2173 ≤ 2147483647 := rx25_2173
      refine sX4_add (p1 := x25_2173) hI  ?_
      intro M26_2174 hM26_2174
      exact ih _ _ _ hM26_2174 (by omega) (by omega)
theorem sX11_order  {M : Mem} {Q : Int → Mem → Prop} (hI : IX M) (hQ : ∀ z : Int, ∀ M' : Mem, IX M' → Q z M') : qX11_order M Q := by
  unfold qX11_order
  refine sX3_begin  hI (show isS 1 by decide) ?_
  intro M1_2175 hM1_2175
  refine ⟨721, ?_⟩
  refine sX11_order_L21 ?_ ?_ _ _ _ _ _ hM1_2175 (by omega) (by omega)
  · exact hQ
  · intro v1_2176 M_2177 hM_2177 p2178
    unfold qX11_order_J111
    refine sX4_clear  hM_2177  ?_
    intro M18_2179 hM18_2179
    refine ⟨7, ?_⟩
    refine sX11_order_L120 ?_ _ _ _ _ hM18_2179 (by omega) (by omega)
    · exact hQ
theorem sX11_stands_L42 {p1 : Int} {X117 : Int → Int → Mem → Prop} {Q : Int → Mem → Prop} (hQ : ∀ z : Int, ∀ M' : Mem, IX M' → Q z M') (hX117 : ∀ w1 w2 : Int, ∀ M' : Mem, IX M' → (-1 ≤ w1 ∧ w1 ≤ 29 ∧ 0 ≤ w2 ∧ w2 ≤ 29) → X117 w1 w2 M') : ∀ (n : Nat) (v2 v3 v4 : Int) (M : Mem), IX M → (-1 ≤ v2 ∧ v2 ≤ 29 ∧ 0 ≤ v3 ∧ v3 + v4 ≤ 28 ∧ -1 ≤ v4 ∧ v4 ≤ 28 ∧ 0 ≤ p1 ∧ p1 ≤ 7) → v4 + 1 < (n : Int) → qX11_stands_L42 p1 X117 Q n v2 v3 v4 M := by
  intro n
  induction n with
  | zero => intro v2 v3 v4 M hI hv hm; exact absurd hm (by omega)
  | succ n ih =>
    intro v2 v3 v4 M hI hv hm
    rw [qX11_stands_L42]
    refine ⟨(by first | assumption | exact (by omega)), ?_⟩
    refine ⟨fun c => ?_, fun c => ?_⟩
    · exact hX117 _ _ _ hI (by omega)
    · refine sX6_copyFrom  hI (show isS 8 by decide) (show isS 1 by decide) ?_
      intro M8_2182 hM8_2182 gM8_2182
      refine ⟨by omega, ?_⟩
      refine ⟨by omega, ?_⟩
      intro M11_2183 h_M11_2183
      have hM11_2183 : IX M11_2183 := by rw [h_M11_2183]; exact hM8_2182.up (isS.nsp (show isS 8 by decide) 3 (by decide)) ((bx_s3 (show isS 8 by decide)).mpr (by omega))
      intro M12_2184 h_M12_2184
      have hM12_2184 : IX M12_2184 := by rw [h_M12_2184]; exact hM11_2183.up (isS.nsp (show isS 8 by decide) 5 (by decide)) ((bx_s5 (show isS 8 by decide)).mpr (by omega))
      refine ⟨(hM12_2184).l16, ?_⟩
      refine sX10_toEnd  hM12_2184 (show isS 8 by decide) (hM12_2184).l16 ?_
      intro M14_2185 hM14_2185
      refine sX6_isRight (p1 := p1) hM14_2185 (show isS 8 by decide) (by omega) ?_
      intro x15_2186 q2187 q2188
      refine ⟨fun c => ?_, fun c => ?_⟩
      · exact ih _ _ _ _ hM14_2185 (by omega) (by omega)
      · exact ih _ _ _ _ hM14_2185 (by omega) (by omega)
theorem sX11_stands {p1 : Int} {M : Mem} {Q : Int → Mem → Prop} (hI : IX M) (hQ : ∀ z : Int, ∀ M' : Mem, IX M' → Q z M') : qX11_stands p1 M Q := by
  unfold qX11_stands
  refine sX6_isMourner (p1 := p1) hI (show isS 1 by decide) ?_
  intro x1_2191 p2192 q2193 q2194
  refine ⟨fun c => ?_, fun c => ?_⟩
  · refine sX6_hasEnded (p1 := p1) hI (show isS 1 by decide) (by omega) ?_
    intro x3_2196 q2197 q2198
    refine ⟨fun c => ?_, fun c => ?_⟩
    · refine sX8_gate  hI  ?_
      intro x5_2200 p2201 q2202
      refine ⟨30, ?_⟩
      refine sX11_stands_L42 ?_ ?_ _ _ _ _ _ hI (by omega) (by omega)
      · exact hQ
      · intro v2_2203 v3_2204 M_2205 hM_2205 p2206
        refine ⟨(by first | assumption | exact (by omega)), ?_⟩
        refine ⟨fun c => ?_, fun c => ?_⟩
        · refine sX4_tellOne (p1 := v3_2204) hM_2205  ?_
          intro M20_2208 hM20_2208
          refine ⟨(by first | assumption | exact (by omega)), ?_⟩
          exact hQ _ _ hM20_2208
        · exact hQ _ _ hM_2205
    · exact hQ _ _ hI
  · exact hQ _ _ hI
theorem sX11_isTurned {p1 : Int} {M : Mem} {Q : Int → Mem → Prop} (hI : IX M) (hp : 0 ≤ p1 ∧ p1 ≤ 7) (hQ : ∀ z : Int, ∀ M' : Mem, IX M' → Q z M') : qX11_isTurned p1 M Q := by
  unfold qX11_isTurned
  refine sX6_hasEnded (p1 := p1) hI (show isS 8 by decide) (by omega) ?_
  intro x1_2212 q2213 q2214
  refine ⟨fun c => ?_, fun c => ?_⟩
  · unfold qX11_isTurned_J36
    unfold qX11_isTurned_J37
    refine ⟨(by first | assumption | exact (by omega)), ?_⟩
    refine ⟨fun c => ?_, fun c => ?_⟩
    · exact hQ _ _ hI
    · refine sX6_turn (p1 := p1) hI (show isS 8 by decide) ?_
      intro x5_2218 M5_2219 hM5_2219 q2220
      refine sX11_isDone (p0 := x5_2218) hM5_2219  ?_
      intro x6_2221 q2222 q2223
      refine ⟨fun c => ?_, fun c => ?_⟩
      · exact hQ _ _ hM5_2219
      · exact hQ _ _ hM5_2219
  · refine ⟨by omega, ?_⟩
    refine ⟨by omega, ?_⟩
    intro x10_2227 ex10_2227 rx10_2227
    have bx10_2227 : -1 ≤ x10_2227 ∧ x10_2227 ≤ 5 := by rw [ex10_2227]; exact (bx_s5 (show isS 8 by decide)).mp (hI.bx _ _)
    intro x11_2228 ex11_2228 rx11_2228
    have bx11_2228 : 0 ≤ x11_2228 ∧ x11_2228 ≤ 5 := by rw [ex11_2228]; exact (bx_s4 (show isS 8 by decide)).mp (hI.bx _ _)
    refine ⟨fun c => ?_, fun c => ?_⟩
    · unfold qX11_isTurned_J36
      unfold qX11_isTurned_J37
      refine ⟨(by first | assumption | exact (by omega)), ?_⟩
      refine ⟨fun c => ?_, fun c => ?_⟩
      · exact hQ _ _ hI
      · refine sX6_turn (p1 := p1) hI (show isS 8 by decide) ?_
        intro x5_2232 M5_2233 hM5_2233 q2234
        refine sX11_isDone (p0 := x5_2232) hM5_2233  ?_
        intro x6_2235 q2236 q2237
        refine ⟨fun c => ?_, fun c => ?_⟩
        · exact hQ _ _ hM5_2233
        · exact hQ _ _ hM5_2233
    · unfold qX11_isTurned_J37
      refine ⟨(by first | assumption | exact (by omega)), ?_⟩
      refine ⟨fun c => ?_, fun c => ?_⟩
      · exact hQ _ _ hI
      · refine sX6_turn (p1 := p1) hI (show isS 8 by decide) ?_
        intro x5_2243 M5_2244 hM5_2244 q2245
        refine sX11_isDone (p0 := x5_2243) hM5_2244  ?_
        intro x6_2246 q2247 q2248
        refine ⟨fun c => ?_, fun c => ?_⟩
        · exact hQ _ _ hM5_2244
        · exact hQ _ _ hM5_2244
theorem sX11_when_L31 {p1 : Int} {X119 : Int → Int → Mem → Prop} {Q : Int → Mem → Prop} (hQ : ∀ z : Int, ∀ M' : Mem, IX M' → Q z M') (hX119 : ∀ w1 w2 : Int, ∀ M' : Mem, IX M' → (-1 ≤ w1 ∧ w1 ≤ 60 ∧ -1 ≤ w2 ∧ w2 ≤ 60) → X119 w1 w2 M') : ∀ (n : Nat) (v2 v3 v4 : Int) (M : Mem), IX M → (-1 ≤ v2 ∧ v2 ≤ 60 ∧ -1 ≤ v3 ∧ v3 ≤ 60 ∧ 0 ≤ v4 ∧ v4 ≤ 61 ∧ 0 ≤ p1 ∧ p1 ≤ 7) → 61 - v4 < (n : Int) → qX11_when_L31 p1 X119 Q n v2 v3 v4 M := by
  intro n
  induction n with
  | zero => intro v2 v3 v4 M hI hv hm; exact absurd hm (by omega)
  | succ n ih =>
    intro v2 v3 v4 M hI hv hm
    rw [qX11_when_L31]
    refine ⟨(by first | assumption | exact (by omega)), ?_⟩
    refine ⟨fun c => ?_, fun c => ?_⟩
    · exact hX119 _ _ _ hI (by omega)
    · refine sX6_copyFrom  hI (show isS 8 by decide) (show isS 15 by decide) ?_
      intro M6_2253 hM6_2253 gM6_2253
      refine sX11_isTurned (p1 := p1) hM6_2253 (by omega) ?_
      intro x7_2254 M7_2255 hM7_2255 q2256 q2257
      refine ⟨fun c => ?_, fun c => ?_⟩
      · unfold qX11_when_J98
        refine ⟨(hM7_2255).l16, ?_⟩
        refine sX10_advance  hM7_2255 (show isS 15 by decide) (hM7_2255).l16 ?_
        intro M10_2259 hM10_2259
        exact ih _ _ _ _ hM10_2259 (by omega) (by omega)
      · refine ⟨(hM7_2255).l16, ?_⟩
        refine sX10_toEnd  hM7_2255 (show isS 8 by decide) (hM7_2255).l16 ?_
        intro M12_2261 hM12_2261
        refine sX6_isRight (p1 := p1) hM12_2261 (show isS 8 by decide) (by omega) ?_
        intro x13_2262 q2263 q2264
        refine ⟨fun c => ?_, fun c => ?_⟩
        · unfold qX11_when_J98
          refine ⟨(hM12_2261).l16, ?_⟩
          refine sX10_advance  hM12_2261 (show isS 15 by decide) (hM12_2261).l16 ?_
          intro M10_2266 hM10_2266
          exact ih _ _ _ _ hM10_2266 (by omega) (by omega)
        · refine ⟨(by first | assumption | exact (by omega)), ?_⟩
          refine ⟨fun c => ?_, fun c => ?_⟩
          · unfold qX11_when_J94
            unfold qX11_when_J98
            refine ⟨(hM12_2261).l16, ?_⟩
            refine sX10_advance  hM12_2261 (show isS 15 by decide) (hM12_2261).l16 ?_
            intro M10_2269 hM10_2269
            exact ih _ _ _ _ hM10_2269 (by omega) (by omega)
          · unfold qX11_when_J94
            unfold qX11_when_J98
            refine ⟨(hM12_2261).l16, ?_⟩
            refine sX10_advance  hM12_2261 (show isS 15 by decide) (hM12_2261).l16 ?_
            intro M10_2271 hM10_2271
            exact ih _ _ _ _ hM10_2271 (by omega) (by omega)
theorem sX11_when {p1 : Int} {M : Mem} {Q : Int → Mem → Prop} (hI : IX M) (hQ : ∀ z : Int, ∀ M' : Mem, IX M' → Q z M') : qX11_when p1 M Q := by
  unfold qX11_when
  refine sX6_isMourner (p1 := p1) hI (show isS 1 by decide) ?_
  intro x1_2272 p2273 q2274 q2275
  refine ⟨fun c => ?_, fun c => ?_⟩
  · refine sX6_copyFrom  hI (show isS 15 by decide) (show isS 1 by decide) ?_
    intro M3_2277 hM3_2277 gM3_2277
    refine ⟨62, ?_⟩
    refine sX11_when_L31 ?_ ?_ _ _ _ _ _ hM3_2277 (by omega) (by omega)
    · exact hQ
    · intro v2_2278 v3_2279 M_2280 hM_2280 p2281
      refine ⟨(by first | assumption | exact (by omega)), ?_⟩
      refine ⟨fun c => ?_, fun c => ?_⟩
      · refine ⟨(by first | assumption | exact (by omega)), ?_⟩
        refine sX4_tellOne (p1 := v3_2279) hM_2280  ?_
        intro M21_2283 hM21_2283
        exact hQ _ _ hM21_2283
      · exact hQ _ _ hM_2280
  · exact hQ _ _ hI
theorem sX11_ableToTurn_L15   {Q : Int → Mem → Prop} (hQ : ∀ z : Int, ∀ M' : Mem, IX M' → Q z M') : ∀ (n : Nat) (v1 v2 : Int) (M : Mem), IX M → (0 ≤ v2 ∧ v2 ≤ 8) → iR v1 → 8 - v2 < (n : Int) → qX11_ableToTurn_L15 Q n v1 v2 M := by
  intro n
  induction n with
  | zero => intro v1 v2 M hI hv hrv1 hm; exact absurd hm (by omega)
  | succ n ih =>
    intro v1 v2 M hI hv hrv1 hm
    rw [qX11_ableToTurn_L15]
    intro x2_2286 ex2_2286 rx2_2286
    have bx2_2286 : 0 ≤ x2_2286 ∧ x2_2286 ≤ 8 := by rw [ex2_2286]; exact (bx_s0_7 (show isS 1 by decide)).mp (hI.bx _ _)
    refine ⟨(by first | assumption | exact (by omega)), ?_⟩
    refine ⟨fun c => ?_, fun c => ?_⟩
    · refine ⟨(by first | assumption | exact (by omega)), ?_⟩
      exact hQ _ _ hI
    · refine sX6_turn (p1 := v2) hI (show isS 8 by decide) ?_
      intro x6_2289 M6_2290 hM6_2290 q2291
      refine sX11_isDone (p0 := x6_2289) hM6_2290  ?_
      intro x7_2292 q2293 q2294
      refine ⟨fun c => ?_, fun c => ?_⟩
      · intro x9_2296 ex9_2296 rx9_2296
        first | (have fx9_2296 := oI_64 (a := v1) (b := 0) (by omega) (by omega); rw [← ex9_2296] at fx9_2296) | skip
        exact ih _ _ _ hM6_2290 (by omega) (by first | assumption | exact (by omega)) (by omega)
      · intro x10_2298 ex10_2298 rx10_2298
        first | (have fx10_2298 := slI_1 (b := v2) (by omega); rw [← ex10_2298] at fx10_2298) | skip
        intro x11_2299 ex11_2299 rx11_2299
        first | (have fx11_2299 := oI_64 (a := v1) (b := x10_2298) (by omega) (by omega); rw [← ex11_2299] at fx11_2299) | skip
        exact ih _ _ _ hM6_2290 (by omega) (by first | assumption | exact (by omega)) (by omega)
theorem sX11_ableToTurn  {M : Mem} {Q : Int → Mem → Prop} (hI : IX M) (hQ : ∀ z : Int, ∀ M' : Mem, IX M' → Q z M') : qX11_ableToTurn M Q := by
  unfold qX11_ableToTurn
  refine sX6_copyFrom  hI (show isS 8 by decide) (show isS 1 by decide) ?_
  intro M1_2300 hM1_2300 gM1_2300
  refine ⟨9, ?_⟩
  refine sX11_ableToTurn_L15 ?_ _ _ _ _ hM1_2300 (by omega) (by first | assumption | exact (by omega)) (by omega)
  · exact hQ
theorem sX11_turnInTrial_L13 {p1 : Int}  {Q : Mem → Prop} (hQ : ∀ M' : Mem, IX M' → Q M') : ∀ (n : Nat) (v2 : Int) (M : Mem), IX M → (0 ≤ v2 ∧ v2 ≤ 8) → 8 - v2 < (n : Int) → qX11_turnInTrial_L13 p1 Q n v2 M := by
  intro n
  induction n with
  | zero => intro v2 M hI hv hm; exact absurd hm (by omega)
  | succ n ih =>
    intro v2 M hI hv hm
    rw [qX11_turnInTrial_L13]
    intro x2_2301 ex2_2301 rx2_2301
    have bx2_2301 : 0 ≤ x2_2301 ∧ x2_2301 ≤ 8 := by rw [ex2_2301]; exact (bx_s0_7 (show isS 1 by decide)).mp (hI.bx _ _)
    refine ⟨(by first | assumption | exact (by omega)), ?_⟩
    refine ⟨fun c => ?_, fun c => ?_⟩
    · exact hQ _ hI
    · intro x5_2304 ex5_2304 rx5_2304
      intro x6_2305 ex6_2305 rx6_2305
      have fx6_2305 := aI_1 x5_2304; rw [← ex6_2305] at fx6_2305
      refine ⟨fun c => ?_, fun c => ?_⟩
      · exact ih _ _ hI (by omega) (by omega)
      · refine sX6_turn (p1 := v2) hI (show isS 8 by decide) ?_
        intro x8_2308 M8_2309 hM8_2309 q2310
        exact ih _ _ hM8_2309 (by omega) (by omega)
theorem sX11_turnInTrial {p1 : Int} {M : Mem} {Q : Mem → Prop} (hI : IX M) (hQ : ∀ M' : Mem, IX M' → Q M') : qX11_turnInTrial p1 M Q := by
  unfold qX11_turnInTrial
  refine sX6_copyFrom  hI (show isS 8 by decide) (show isS 1 by decide) ?_
  intro M1_2311 hM1_2311 gM1_2311
  refine ⟨9, ?_⟩
  refine sX11_turnInTrial_L13 ?_ _ _ _ hM1_2311 (by omega) (by omega)
  · exact hQ
theorem sX11_mends_L33 {p1 : Int} {X98 : Int → Int → Mem → Prop} {X116 : Int → Int → Mem → Prop} {Q : Int → Mem → Prop} {g0 : Int} (hQ : ∀ z : Int, ∀ M' : Mem, IX M' → Q z M') (hX98 : ∀ w1 w2 : Int, ∀ M' : Mem, IX M' → (0 ≤ w1 ∧ w1 ≤ 8 ∧ 0 ≤ w2 ∧ w2 ≤ 256) → X98 w1 w2 M') (hX116 : ∀ w1 w2 : Int, ∀ M' : Mem, IX M' → (w2 = g0 ∧ 0 ≤ w2 ∧ w2 ≤ 8) → X116 w1 w2 M') : ∀ (n : Nat) (v2 v3 v4 : Int) (M : Mem), IX M → (v3 = g0 ∧ 0 ≤ v3 ∧ v3 ≤ 8 ∧ 0 ≤ v4 ∧ v4 ≤ 256) → 256 - v4 < (n : Int) → qX11_mends_L33 p1 X98 X116 Q n v2 v3 v4 M := by
  intro n
  induction n with
  | zero => intro v2 v3 v4 M hI hv hm; exact absurd hm (by omega)
  | succ n ih =>
    intro v2 v3 v4 M hI hv hm
    rw [qX11_mends_L33]
    intro x7_2312 ex7_2312 rx7_2312
    have bx7_2312 : 0 ≤ x7_2312 ∧ x7_2312 ≤ 8 := by rw [ex7_2312]; exact (bx_s0_7 (show isS 1 by decide)).mp (hI.bx _ _)
    intro x8_2313 ex8_2313 rx8_2313
    first | (have fx8_2313 := slI_1 (b := x7_2312) (by omega); rw [← ex8_2313] at fx8_2313) | skip
    refine ⟨(by first | assumption | exact (by omega)), ?_⟩
    refine ⟨fun c => ?_, fun c => ?_⟩
    · exact hX116 _ _ _ hI (by omega)
    · intro x11_2316 ex11_2316 rx11_2316
      intro x12_2317 ex12_2317 rx12_2317
      refine ⟨fun c => ?_, fun c => ?_⟩
      · unfold qX11_mends_J69
        unfold qX11_mends_J70
        refine ⟨(by first | assumption | exact (by omega)), ?_⟩
        refine ⟨fun c => ?_, fun c => ?_⟩
        · exact ih _ _ _ _ hI (by omega) (by omega)
        · refine ⟨(by first | assumption | exact (by omega)), ?_⟩
          refine sX11_turnInTrial (p1 := v4) hI  ?_
          intro M17_2321 hM17_2321
          refine ⟨(hM17_2321).l16, ?_⟩
          refine sX11_rightOnesOfTrial  hM17_2321 (hM17_2321).l16 ?_
          intro x19_2322 M19_2323 hM19_2323 q2324
          refine sJ6_bitCount_0f7a4 (p0 := x19_2322) hM19_2323  ?_
          intro x20_2325 p2326 q2327
          refine ⟨fun c => ?_, fun c => ?_⟩
          · exact ih _ _ _ _ hM19_2323 (by omega) (by omega)
          · exact hX98 _ _ _ hM19_2323 (by omega)
      · refine sJ6_bitCount_0f7a4 (p0 := v4) hI  ?_
        intro x22_2331 p2332 q2333
        refine ⟨(by first | assumption | exact (by omega)), ?_⟩
        refine ⟨fun c => ?_, fun c => ?_⟩
        · unfold qX11_mends_J69
          unfold qX11_mends_J70
          refine ⟨(by first | assumption | exact (by omega)), ?_⟩
          refine ⟨fun c => ?_, fun c => ?_⟩
          · exact ih _ _ _ _ hI (by omega) (by omega)
          · refine ⟨(by first | assumption | exact (by omega)), ?_⟩
            refine sX11_turnInTrial (p1 := v4) hI  ?_
            intro M17_2337 hM17_2337
            refine ⟨(hM17_2337).l16, ?_⟩
            refine sX11_rightOnesOfTrial  hM17_2337 (hM17_2337).l16 ?_
            intro x19_2338 M19_2339 hM19_2339 q2340
            refine sJ6_bitCount_0f7a4 (p0 := x19_2338) hM19_2339  ?_
            intro x20_2341 p2342 q2343
            refine ⟨fun c => ?_, fun c => ?_⟩
            · exact ih _ _ _ _ hM19_2339 (by omega) (by omega)
            · exact hX98 _ _ _ hM19_2339 (by omega)
        · unfold qX11_mends_J70
          refine ⟨(by first | assumption | exact (by omega)), ?_⟩
          refine ⟨fun c => ?_, fun c => ?_⟩
          · exact ih _ _ _ _ hI (by omega) (by omega)
          · refine ⟨(by first | assumption | exact (by omega)), ?_⟩
            refine sX11_turnInTrial (p1 := v4) hI  ?_
            intro M17_2349 hM17_2349
            refine ⟨(hM17_2349).l16, ?_⟩
            refine sX11_rightOnesOfTrial  hM17_2349 (hM17_2349).l16 ?_
            intro x19_2350 M19_2351 hM19_2351 q2352
            refine sJ6_bitCount_0f7a4 (p0 := x19_2350) hM19_2351  ?_
            intro x20_2353 p2354 q2355
            refine ⟨fun c => ?_, fun c => ?_⟩
            · exact ih _ _ _ _ hM19_2351 (by omega) (by omega)
            · exact hX98 _ _ _ hM19_2351 (by omega)
theorem sX11_mends_L19 {p1 : Int} {X98 : Int → Int → Mem → Prop} {Q : Int → Mem → Prop} (hQ : ∀ z : Int, ∀ M' : Mem, IX M' → Q z M') (hX98 : ∀ w1 w2 : Int, ∀ M' : Mem, IX M' → (0 ≤ w1 ∧ w1 ≤ 8 ∧ 0 ≤ w2 ∧ w2 ≤ 256) → X98 w1 w2 M') : ∀ (n : Nat) (v2 v3 : Int) (M : Mem), IX M → (0 ≤ v3 ∧ v3 ≤ 9) → 9 - v3 < (n : Int) → qX11_mends_L19 p1 X98 Q n v2 v3 M := by
  intro n
  induction n with
  | zero => intro v2 v3 M hI hv hm; exact absurd hm (by omega)
  | succ n ih =>
    intro v2 v3 M hI hv hm
    rw [qX11_mends_L19]
    intro x4_2358 ex4_2358 rx4_2358
    have bx4_2358 : 0 ≤ x4_2358 ∧ x4_2358 ≤ 8 := by rw [ex4_2358]; exact (bx_s0_7 (show isS 1 by decide)).mp (hI.bx _ _)
    refine ⟨(by first | assumption | exact (by omega)), ?_⟩
    refine ⟨fun c => ?_, fun c => ?_⟩
    · exact hQ _ _ hI
    · refine ⟨257, ?_⟩
      refine sX11_mends_L33 (g0 := v3) ?_ ?_ ?_ _ _ _ _ _ hI (by omega) (by omega)
      · exact hQ
      · intro v3_2361 v4_2362 M_2363 hM_2363 p2364
        exact hX98 _ _ _ hM_2363 (by omega)
      · intro v2_2365 v3_2366 M_2367 hM_2367 p2368
        exact ih _ _ _ hM_2367 (by omega) (by omega)
theorem sX11_mends {p1 : Int} {M : Mem} {Q : Int → Mem → Prop} (hI : IX M) (hQ : ∀ z : Int, ∀ M' : Mem, IX M' → Q z M') : qX11_mends p1 M Q := by
  unfold qX11_mends
  refine ⟨fun c => ?_, fun c => ?_⟩
  · exact hQ _ _ hI
  · refine ⟨fun c => ?_, fun c => ?_⟩
    · refine sX11_ableToTurn  hI  ?_
      intro x3_2372 M3_2373 hM3_2373 q2374
      refine ⟨10, ?_⟩
      refine sX11_mends_L19 ?_ ?_ _ _ _ _ hM3_2373 (by omega) (by omega)
      · exact hQ
      · intro v3_2375 v4_2376 M_2377 hM_2377 p2378
        refine ⟨(by first | assumption | exact (by omega)), ?_⟩
        refine sX4_tellOne (p1 := v4_2376) hM_2377  ?_
        intro M28_2379 hM28_2379
        refine ⟨(by first | assumption | exact (by omega)), ?_⟩
        exact hQ _ _ hM28_2379
    · exact hQ _ _ hI
theorem sX6_takeAway_L7 {k0 : Nat} {p1 : Int}  {Q : Mem → Prop} (hk0 : isS k0) (hp : 0 ≤ p1 ∧ p1 ≤ 5) (hQ : ∀ M' : Mem, IX M' → Q M') : ∀ (n : Nat) (v2 : Int) (M : Mem), IX M → (0 ≤ v2 ∧ v2 ≤ 8) → 8 - v2 < (n : Int) → qX6_takeAway_L7 k0 p1 Q n v2 M := by
  intro n
  induction n with
  | zero => intro v2 M hI hv hm; exact absurd hm (by omega)
  | succ n ih =>
    intro v2 M hI hv hm
    rw [qX6_takeAway_L7]
    have ek0 : 0 < k0 ∧ k0 < 155 ∧ (k0 - 1) % 7 = 0 := hk0
    intro x2_2381 ex2_2381 rx2_2381
    have bx2_2381 : 0 ≤ x2_2381 ∧ x2_2381 ≤ 8 := by rw [ex2_2381]; exact (bx_s0_7 hk0).mp (hI.bx _ _)
    refine ⟨(by first | assumption | exact (by omega)), ?_⟩
    refine ⟨fun c => ?_, fun c => ?_⟩
    · exact hQ _ hI
    · refine ⟨by omega, ?_⟩
      refine ⟨by omega, ?_⟩
      intro x7_2384 ex7_2384 rx7_2384
      have bx7_2384 : -1 ≤ x7_2384 ∧ x7_2384 ≤ 5 := by rw [ex7_2384]; exact (bx_s5 hk0).mp (hI.bx _ _)
      refine ⟨fun c => ?_, fun c => ?_⟩
      · exact ih _ _ hI (by omega) (by omega)
      · intro M9_2387 h_M9_2387
        have hM9_2387 : IX M9_2387 := by rw [h_M9_2387]; exact hI.up (isS.nsp hk0 5 (by decide)) ((bx_s5 hk0).mpr (by omega))
        exact ih _ _ hM9_2387 (by omega) (by omega)
end
section
theorem sX6_takeAway {k0 : Nat} {p1 : Int} {M : Mem} {Q : Mem → Prop} (hI : IX M) (hk0 : isS k0) (hp : 0 ≤ p1 ∧ p1 ≤ 5) (hQ : ∀ M' : Mem, IX M' → Q M') : qX6_takeAway k0 p1 M Q := by
  unfold qX6_takeAway
  have ek0 : 0 < k0 ∧ k0 < 155 ∧ (k0 - 1) % 7 = 0 := hk0
  refine sX6_arrive (p1 := p1) hI hk0 (by omega) ?_
  intro M1_2388 hM1_2388
  refine ⟨9, ?_⟩
  refine sX6_takeAway_L7 hk0 hp ?_ _ _ _ hM1_2388 (by omega) (by omega)
  · exact hQ
theorem sX11_misleads_L27  {X129 : Int → Int → Int → Mem → Prop} {Q : Int → Mem → Prop} (hQ : ∀ z : Int, ∀ M' : Mem, IX M' → Q z M') (hX129 : ∀ w1 w2 w3 : Int, ∀ M' : Mem, IX M' → (-1 ≤ w2 ∧ w2 ≤ 5 ∧ -1 ≤ w3 ∧ w3 ≤ 63) → X129 w1 w2 w3 M') : ∀ (n : Nat) (v1 v2 v3 v4 : Int) (M : Mem), IX M → (-1 ≤ v2 ∧ v2 ≤ 5 ∧ -1 ≤ v3 ∧ v3 ≤ 63 ∧ 0 ≤ v4 ∧ v4 ≤ 6) → 6 - v4 < (n : Int) → qX11_misleads_L27 X129 Q n v1 v2 v3 v4 M := by
  intro n
  induction n with
  | zero => intro v1 v2 v3 v4 M hI hv hm; exact absurd hm (by omega)
  | succ n ih =>
    intro v1 v2 v3 v4 M hI hv hm
    rw [qX11_misleads_L27]
    intro x4_2389 ex4_2389 rx4_2389
    have bx4_2389 : 0 ≤ x4_2389 ∧ x4_2389 ≤ 6 := by rw [ex4_2389]; exact (bx_s0_6 (show isS 1 by decide)).mp (hI.bx _ _)
    refine ⟨(by first | assumption | exact (by omega)), ?_⟩
    refine ⟨fun c => ?_, fun c => ?_⟩
    · exact hX129 _ _ _ _ hI (by omega)
    · refine sX6_hasArrived (p1 := v4) hI (show isS 1 by decide) (by omega) ?_
      intro x7_2392 q2393 q2394
      refine ⟨fun c => ?_, fun c => ?_⟩
      · exact ih _ _ _ _ _ hI (by omega) (by omega)
      · refine sX6_copyFrom  hI (show isS 8 by decide) (show isS 1 by decide) ?_
        intro M9_2397 hM9_2397 gM9_2397
        refine sX6_takeAway (p1 := v4) hM9_2397 (show isS 8 by decide) (by omega) ?_
        intro M10_2398 hM10_2398
        refine ⟨(hM10_2398).l16, ?_⟩
        refine sX11_rightOnesOfTrial  hM10_2398 (hM10_2398).l16 ?_
        intro x12_2399 M12_2400 hM12_2400 q2401
        refine sX6_bitsOf (p2 := v4) hM12_2400 (show isS 1 by decide) ?_
        intro x13_2402 q2403
        intro x14_2404 ex14_2404 rx14_2404
        intro x15_2405 ex15_2405 rx15_2405
        refine sJ6_bitCount_0f7a4 (p0 := x15_2405) hM12_2400  ?_
        intro x16_2406 p2407 q2408
        refine ⟨(by first | assumption | exact (by omega)), ?_⟩
        refine ⟨fun c => ?_, fun c => ?_⟩
        · unfold qX11_misleads_J115
          refine ⟨(by first | assumption | exact (by omega)), ?_⟩
          refine ⟨(by first | assumption | exact (by omega)), ?_⟩
          intro x21_2410 ex21_2410 rx21_2410
          exact ih _ _ _ _ _ hM12_2400 (by omega) (by omega)
        · unfold qX11_misleads_J115
          refine ⟨(by first | assumption | exact (by omega)), ?_⟩
          refine ⟨(by first | assumption | exact (by omega)), ?_⟩
          intro x21_2412 ex21_2412 rx21_2412
          exact ih _ _ _ _ _ hM12_2400 (by omega) (by omega)
theorem sX11_misleads  {M : Mem} {Q : Int → Mem → Prop} (hI : IX M) (hQ : ∀ z : Int, ∀ M' : Mem, IX M' → Q z M') : qX11_misleads M Q := by
  unfold qX11_misleads
  refine sX6_copyFrom  hI (show isS 8 by decide) (show isS 1 by decide) ?_
  intro M1_2413 hM1_2413 gM1_2413
  refine ⟨(hM1_2413).l16, ?_⟩
  refine sX11_rightOnesOfTrial  hM1_2413 (hM1_2413).l16 ?_
  intro x3_2414 M3_2415 hM3_2415 q2416
  refine ⟨7, ?_⟩
  refine sX11_misleads_L27 ?_ ?_ _ _ _ _ _ _ hM3_2415 (by omega) (by omega)
  · exact hQ
  · intro v1_2417 v2_2418 v3_2419 M_2420 hM_2420 p2421
    refine ⟨(by first | assumption | exact (by omega)), ?_⟩
    refine ⟨fun c => ?_, fun c => ?_⟩
    · refine ⟨(by first | assumption | exact (by omega)), ?_⟩
      refine sX6_bitsOf (p2 := v2_2418) hM_2420 (show isS 1 by decide) ?_
      intro x26_2423 q2424
      intro x27_2425 ex27_2425 rx27_2425
      intro x28_2426 ex28_2426 rx28_2426
      refine sJ6_bitCount_0f7a4 (p0 := x28_2426) hM_2420  ?_
      intro x29_2427 p2428 q2429
      refine sX4_tellTwo (p1 := v3_2419) (p3 := x29_2427) hM_2420  ?_
      intro M30_2430 hM30_2430
      exact hQ _ _ hM30_2430
    · exact hQ _ _ hM_2420
theorem sX11_crowd_L45  {X101 : Int → Int → Mem → Prop} {Q : Int → Mem → Prop} (hQ : ∀ z : Int, ∀ M' : Mem, IX M' → Q z M') (hX101 : ∀ w1 w2 : Int, ∀ M' : Mem, IX M' → (0 ≤ w1 ∧ w1 ≤ 5 ∧ -1 ≤ w2 ∧ w2 ≤ 63) → X101 w1 w2 M') : ∀ (n : Nat) (v1 v2 v3 : Int) (M : Mem), IX M → (0 ≤ v1 ∧ v1 ≤ 5 ∧ -1 ≤ v2 ∧ v2 ≤ 63 ∧ 0 ≤ v3 ∧ v3 ≤ 6) → 6 - v3 < (n : Int) → qX11_crowd_L45 X101 Q n v1 v2 v3 M := by
  intro n
  induction n with
  | zero => intro v1 v2 v3 M hI hv hm; exact absurd hm (by omega)
  | succ n ih =>
    intro v1 v2 v3 M hI hv hm
    rw [qX11_crowd_L45]
    intro x6_2432 ex6_2432 rx6_2432
    have bx6_2432 : 0 ≤ x6_2432 ∧ x6_2432 ≤ 6 := by rw [ex6_2432]; exact (bx_s0_6 (show isS 8 by decide)).mp (hI.bx _ _)
    refine ⟨(by first | assumption | exact (by omega)), ?_⟩
    refine ⟨fun c => ?_, fun c => ?_⟩
    · exact hX101 _ _ _ hI (by omega)
    · refine sX6_bitsOf (p2 := v3) hI (show isS 8 by decide) ?_
      intro x9_2435 q2436
      refine sJ6_bitCount_0f7a4 (p0 := x9_2435) hI  ?_
      intro x10_2437 p2438 q2439
      refine ⟨(by first | assumption | exact (by omega)), ?_⟩
      refine ⟨fun c => ?_, fun c => ?_⟩
      · unfold qX11_crowd_J87
        refine ⟨(by first | assumption | exact (by omega)), ?_⟩
        refine ⟨(by first | assumption | exact (by omega)), ?_⟩
        intro x15_2441 ex15_2441 rx15_2441
        exact ih _ _ _ _ hI (by omega) (by omega)
      · unfold qX11_crowd_J87
        refine ⟨(by first | assumption | exact (by omega)), ?_⟩
        refine ⟨(by first | assumption | exact (by omega)), ?_⟩
        intro x15_2443 ex15_2443 rx15_2443
        exact ih _ _ _ _ hI (by omega) (by omega)
theorem sX11_crowd  {M : Mem} {Q : Int → Mem → Prop} (hI : IX M) (hQ : ∀ z : Int, ∀ M' : Mem, IX M' → Q z M') : qX11_crowd M Q := by
  unfold qX11_crowd
  intro x1_2444 ex1_2444 rx1_2444
  have bx1_2444 : 0 ≤ x1_2444 ∧ x1_2444 ≤ 6 := by rw [ex1_2444]; exact (bx_s0_6 (show isS 1 by decide)).mp (hI.bx _ _)
  refine ⟨fun c => ?_, fun c => ?_⟩
  · refine sX6_copyFrom  hI (show isS 8 by decide) (show isS 1 by decide) ?_
    intro M3_2446 hM3_2446 gM3_2446
    refine ⟨(hM3_2446).l16, ?_⟩
    refine sX10_toEnd  hM3_2446 (show isS 8 by decide) (hM3_2446).l16 ?_
    intro M5_2447 hM5_2447
    refine ⟨7, ?_⟩
    refine sX11_crowd_L45 ?_ ?_ _ _ _ _ _ hM5_2447 (by omega) (by omega)
    · exact hQ
    · intro v1_2448 v2_2449 M_2450 hM_2450 p2451
      refine ⟨(by first | assumption | exact (by omega)), ?_⟩
      refine sX6_rightBits  hM_2450 (show isS 8 by decide) ?_
      intro x18_2452 q2453
      refine ⟨(by first | assumption | exact (by omega)), ?_⟩
      refine sX6_bitsOf (p2 := v1_2448) hM_2450 (show isS 8 by decide) ?_
      intro x20_2454 q2455
      intro x21_2456 ex21_2456 rx21_2456
      refine sJ6_bitCount_0f7a4 (p0 := x21_2456) hM_2450  ?_
      intro x22_2457 p2458 q2459
      refine sX4_tellTwo (p1 := v2_2449) (p3 := x22_2457) hM_2450  ?_
      intro M23_2460 hM23_2460
      exact hQ _ _ hM23_2460
  · exact hQ _ _ hI
theorem sX7_canHave {k1 : Nat} {p2 : Int} {p3 : Int} {p4 : Int} {M : Mem} {Q : Int → Mem → Prop} (hI : IX M) (hk1 : isS k1) (hp : 0 ≤ p2 ∧ p2 ≤ 7 ∧ 0 ≤ p3 ∧ p3 ≤ 5) (hQ : ∀ z : Int, Q z M) : qX7_canHave k1 p2 p3 p4 M Q := by
  unfold qX7_canHave
  have ek1 : 0 < k1 ∧ k1 < 155 ∧ (k1 - 1) % 7 = 0 := hk1
  intro x1_2462 ex1_2462 rx1_2462
  intro x2_2463 ex2_2463 rx2_2463
  have fx2_2463 := aI_1 x1_2462; rw [← ex2_2463] at fx2_2463
  refine ⟨fun c => ?_, fun c => ?_⟩
  · exact hQ _
  · refine sX6_hasEnded (p1 := p2) hI hk1 (by omega) ?_
    intro x4_2466 q2467 q2468
    refine ⟨fun c => ?_, fun c => ?_⟩
    · exact hQ _
    · refine sX6_hasArrived (p1 := p3) hI hk1 (by omega) ?_
      intro x6_2471 q2472 q2473
      refine ⟨fun c => ?_, fun c => ?_⟩
      · exact hQ _
      · refine ⟨by omega, ?_⟩
        refine ⟨by omega, ?_⟩
        intro x10_2476 ex10_2476 rx10_2476
        have bx10_2476 : -1 ≤ x10_2476 ∧ x10_2476 ≤ 29 := by rw [ex10_2476]; exact (bx_s1 hk1).mp (hI.bx _ _)
        refine ⟨by omega, ?_⟩
        refine ⟨by omega, ?_⟩
        intro x13_2477 ex13_2477 rx13_2477
        have bx13_2477 : -1 ≤ x13_2477 ∧ x13_2477 ≤ 29 := by rw [ex13_2477]; exact (bx_s3 hk1).mp (hI.bx _ _)
        refine ⟨(by first | assumption | exact (by omega)), ?_⟩
        intro x15_2478 px15_2478 nx15_2478
        have bx15_2478 : 0 ≤ x15_2478 ∧ (x10_2476 - x13_2477 = x15_2478 ∨ x10_2476 - x13_2477 = -x15_2478) := by omega
        intro x16_2479 ex16_2479 rx16_2479
        have bx16_2479 : 0 ≤ x16_2479 ∧ x16_2479 ≤ 30 := by rw [ex16_2479]; exact (bx_c168_1).mp (hI.bx _ _)
        refine ⟨(by first | assumption | exact (by omega)), ?_⟩
        refine ⟨fun c => ?_, fun c => ?_⟩
        · exact hQ _
        · exact hQ _
theorem sX7_choice_L30 {k1 : Nat} {p2 : Int} {p3 : Int}  {Q : Int → Mem → Prop} {M0 : Mem} (hk1 : isS k1) (hp : 0 ≤ p2 ∧ p2 ≤ 7 ∧ 0 ≤ p3 ∧ p3 ≤ 63) (hQ : ∀ z : Int, (-1 ≤ z ∧ z ≤ 5) → Q z M0) : ∀ (n : Nat) (v4 v5 : Int), IX M0 → (0 ≤ v5 ∧ v5 ≤ 6) → iR v4 → 6 - v5 < (n : Int) → qX7_choice_L30 k1 p2 p3 Q n v4 v5 M0 := by
  intro n
  induction n with
  | zero => intro v4 v5 hI hv hrv4 hm; exact absurd hm (by omega)
  | succ n ih =>
    intro v4 v5 hI hv hrv4 hm
    rw [qX7_choice_L30]
    have ek1 : 0 < k1 ∧ k1 < 155 ∧ (k1 - 1) % 7 = 0 := hk1
    intro x10_2482 ex10_2482 rx10_2482
    have bx10_2482 : 0 ≤ x10_2482 ∧ x10_2482 ≤ 6 := by rw [ex10_2482]; exact (bx_s0_6 hk1).mp (hI.bx _ _)
    refine ⟨(by first | assumption | exact (by omega)), ?_⟩
    refine ⟨fun c => ?_, fun c => ?_⟩
    · exact hQ _ (by omega)
    · refine sX7_canHave (p2 := p2) (p3 := v5) (p4 := p3) hI hk1 (by omega) ?_
      intro x13_2485 q2486 q2487
      refine ⟨fun c => ?_, fun c => ?_⟩
      · exact ih _ _ hI (by omega) (by first | assumption | exact (by omega)) (by omega)
      · refine ⟨by omega, ?_⟩
        refine ⟨by omega, ?_⟩
        intro x17_2490 ex17_2490 rx17_2490
        first | (have fx17_2490 := slI_1 (b := v5) (by omega); rw [← ex17_2490] at fx17_2490) | skip
        intro x18_2491 ex18_2491 rx18_2491
        first | (have fx18_2491 := oI_64 (a := p3) (b := x17_2490) (by omega) (by omega); rw [← ex18_2491] at fx18_2491) | skip
        refine ⟨by omega, ?_⟩
        refine ⟨by omega, ?_⟩
        intro x21_2492 ex21_2492 rx21_2492
        have bx21_2492 : 0 ≤ x21_2492 ∧ x21_2492 ≤ 8 - (p2 + 1) := by rw [ex21_2492]; exact (bx_sh (e := p2 + 1) (by omega) (by omega)).mp (hI.bx _ _)
        refine ⟨(by first | assumption | exact (by omega)), ?_⟩
        refine ⟨(by first | assumption | exact (by omega)), ?_⟩
        refine ⟨fun c => ?_, fun c => ?_⟩
        · exact ih _ _ hI (by omega) (by first | assumption | exact (by omega)) (by omega)
        · exact hQ _ (by omega)
theorem sX7_choice {k1 : Nat} {p2 : Int} {p3 : Int} {M : Mem} {Q : Int → Mem → Prop} (hI : IX M) (hk1 : isS k1) (hp : 0 ≤ p2 ∧ p2 ≤ 7 ∧ 0 ≤ p3 ∧ p3 ≤ 63) (hQ : ∀ z : Int, (-1 ≤ z ∧ z ≤ 5) → Q z M) : qX7_choice k1 p2 p3 M Q := by
  unfold qX7_choice
  have ek1 : 0 < k1 ∧ k1 < 155 ∧ (k1 - 1) % 7 = 0 := hk1
  refine ⟨by omega, ?_⟩
  refine ⟨by omega, ?_⟩
  refine ⟨by omega, ?_⟩
  refine ⟨by omega, ?_⟩
  intro x5_2495 ex5_2495 rx5_2495
  have bx5_2495 : 0 ≤ x5_2495 ∧ x5_2495 ≤ 8 - (p2) := by rw [ex5_2495]; exact (bx_sh (e := p2) (by omega) (by omega)).mp (hI.bx _ _)
  refine ⟨by omega, ?_⟩
  refine ⟨by omega, ?_⟩
  intro x8_2496 ex8_2496 rx8_2496
  have bx8_2496 : 0 ≤ x8_2496 ∧ x8_2496 ≤ 8 - (p2 + 1) := by rw [ex8_2496]; exact (bx_sh (e := p2 + 1) (by omega) (by omega)).mp (hI.bx _ _)
  refine ⟨fun c => ?_, fun c => ?_⟩
  · refine ⟨7, ?_⟩
    refine sX7_choice_L30 hk1 hp ?_ _ _ _ hI (by omega) (by first | assumption | exact (by omega)) (by omega)
    · exact hQ
  · exact hQ _ (by omega)
theorem sX7_mostFrom_L15 {k1 : Nat} {p2 : Int} {p3 : Int}  {Q : Int → Mem → Prop} {M0 : Mem} (hk1 : isS k1) (hp : 0 ≤ p2 ∧ p2 ≤ 7 ∧ 0 ≤ p3 ∧ p3 ≤ 63) (hQ : ∀ z : Int, (0 ≤ z ∧ z ≤ 8 - p2) → Q z M0) : ∀ (n : Nat) (v4 v5 : Int), IX M0 → (0 ≤ v4 ∧ v4 ≤ 8 - p2 ∧ 0 ≤ v5 ∧ v5 ≤ 6) → 6 - v5 < (n : Int) → qX7_mostFrom_L15 k1 p2 p3 Q n v4 v5 M0 := by
  intro n
  induction n with
  | zero => intro v4 v5 hI hv hm; exact absurd hm (by omega)
  | succ n ih =>
    intro v4 v5 hI hv hm
    rw [qX7_mostFrom_L15]
    have ek1 : 0 < k1 ∧ k1 < 155 ∧ (k1 - 1) % 7 = 0 := hk1
    intro x6_2499 ex6_2499 rx6_2499
    have bx6_2499 : 0 ≤ x6_2499 ∧ x6_2499 ≤ 6 := by rw [ex6_2499]; exact (bx_s0_6 hk1).mp (hI.bx _ _)
    refine ⟨(by first | assumption | exact (by omega)), ?_⟩
    refine ⟨fun c => ?_, fun c => ?_⟩
    · refine ⟨(by first | assumption | exact (by omega)), ?_⟩
      exact hQ _ (by omega)
    · refine sX7_canHave (p2 := p2) (p3 := v5) (p4 := p3) hI hk1 (by omega) ?_
      intro x10_2502 q2503 q2504
      refine ⟨fun c => ?_, fun c => ?_⟩
      · exact ih _ _ hI (by omega) (by omega)
      · refine ⟨by omega, ?_⟩
        refine ⟨by omega, ?_⟩
        intro x14_2507 ex14_2507 rx14_2507
        first | (have fx14_2507 := slI_1 (b := v5) (by omega); rw [← ex14_2507] at fx14_2507) | skip
        intro x15_2508 ex15_2508 rx15_2508
        first | (have fx15_2508 := oI_64 (a := p3) (b := x14_2507) (by omega) (by omega); rw [← ex15_2508] at fx15_2508) | skip
        refine ⟨by omega, ?_⟩
        refine ⟨by omega, ?_⟩
        intro x18_2509 ex18_2509 rx18_2509
        have bx18_2509 : 0 ≤ x18_2509 ∧ x18_2509 ≤ 8 - (p2 + 1) := by rw [ex18_2509]; exact (bx_sh (e := p2 + 1) (by omega) (by omega)).mp (hI.bx _ _)
        refine ⟨(by first | assumption | exact (by omega)), ?_⟩
        refine ⟨(by first | assumption | exact (by omega)), ?_⟩
        intro x21_2510 ex21_2510 rx21_2510
        exact ih _ _ hI (by omega) (by omega)
theorem sX7_mostFrom {k1 : Nat} {p2 : Int} {p3 : Int} {M : Mem} {Q : Int → Mem → Prop} (hI : IX M) (hk1 : isS k1) (hp : 0 ≤ p2 ∧ p2 ≤ 7 ∧ 0 ≤ p3 ∧ p3 ≤ 63) (hQ : ∀ z : Int, (0 ≤ z ∧ z ≤ 8 - p2) → Q z M) : qX7_mostFrom k1 p2 p3 M Q := by
  unfold qX7_mostFrom
  have ek1 : 0 < k1 ∧ k1 < 155 ∧ (k1 - 1) % 7 = 0 := hk1
  refine ⟨by omega, ?_⟩
  refine ⟨by omega, ?_⟩
  refine ⟨by omega, ?_⟩
  refine ⟨by omega, ?_⟩
  intro x5_2511 ex5_2511 rx5_2511
  have bx5_2511 : 0 ≤ x5_2511 ∧ x5_2511 ≤ 8 - (p2 + 1) := by rw [ex5_2511]; exact (bx_sh (e := p2 + 1) (by omega) (by omega)).mp (hI.bx _ _)
  refine ⟨7, ?_⟩
  refine sX7_mostFrom_L15 hk1 hp ?_ _ _ _ hI (by omega) (by omega)
  · exact hQ
theorem sX7_weigh_L15 {k1 : Nat} {p2 : Int} {X40 : Int → Mem → Prop} {Q : Int → Mem → Prop} (hk1 : isS k1) (hp : 0 ≤ p2 ∧ p2 ≤ 30) (hQ : ∀ z : Int, ∀ M' : Mem, IX M' → (0 ≤ z ∧ z ≤ 8) → Q z M') (hX40 : ∀ w1 : Int, ∀ M' : Mem, IX M' → (1 ≤ w1 ∧ w1 ≤ 64) → X40 w1 M') : ∀ (n : Nat) (v3 v4 : Int) (M : Mem), IX M → (1 ≤ v3 ∧ v3 ≤ 64 ∧ 0 ≤ v4 ∧ v4 ≤ 64) → 64 - v4 < (n : Int) → qX7_weigh_L15 k1 p2 X40 Q n v3 v4 M := by
  intro n
  induction n with
  | zero => intro v3 v4 M hI hv hm; exact absurd hm (by omega)
  | succ n ih =>
    intro v3 v4 M hI hv hm
    rw [qX7_weigh_L15]
    have ek1 : 0 < k1 ∧ k1 < 155 ∧ (k1 - 1) % 7 = 0 := hk1
    refine ⟨(by first | assumption | exact (by omega)), ?_⟩
    refine ⟨(by first | assumption | exact (by omega)), ?_⟩
    refine ⟨fun c => ?_, fun c => ?_⟩
    · exact hX40 _ _ hI (by omega)
    · intro x7_2514 ex7_2514 rx7_2514
      have bx7_2514 : 0 ≤ x7_2514 ∧ x7_2514 ≤ 8 := by rw [ex7_2514]; exact (bx_s0_7 hk1).mp (hI.bx _ _)
      refine ⟨by omega, ?_⟩
      refine ⟨by omega, ?_⟩
      refine ⟨by omega, ?_⟩
      refine ⟨by omega, ?_⟩
      intro M12_2515 h_M12_2515
      have hM12_2515 : IX M12_2515 := by rw [h_M12_2515]; exact hI.up (sh_nsp (e := x7_2514) (by omega) (by omega)) ((bx_sh (e := x7_2514) (by omega) (by omega)).mpr (by omega))
      exact ih _ _ _ hM12_2515 (by omega) (by omega)
theorem sX7_weigh_L56 {k1 : Nat} {p2 : Int} {X87 : Int → Int → Mem → Prop} {Q : Int → Mem → Prop} {g0 : Int} (hk1 : isS k1) (hp : 0 ≤ p2 ∧ p2 ≤ 30) (hQ : ∀ z : Int, ∀ M' : Mem, IX M' → (0 ≤ z ∧ z ≤ 8) → Q z M') (hX87 : ∀ w1 w2 : Int, ∀ M' : Mem, IX M' → (w2 = g0 ∧ 1 ≤ w1 ∧ w1 ≤ 64 ∧ 0 ≤ w2 ∧ w2 ≤ 7) → X87 w1 w2 M') : ∀ (n : Nat) (v3 v4 v5 : Int) (M : Mem), IX M → (v4 = g0 ∧ 1 ≤ v3 ∧ v3 ≤ 64 ∧ 0 ≤ v4 ∧ v4 ≤ 7 ∧ 0 ≤ v5 ∧ v5 ≤ 64) → 64 - v5 < (n : Int) → qX7_weigh_L56 k1 p2 X87 Q n v3 v4 v5 M := by
  intro n
  induction n with
  | zero => intro v3 v4 v5 M hI hv hm; exact absurd hm (by omega)
  | succ n ih =>
    intro v3 v4 v5 M hI hv hm
    rw [qX7_weigh_L56]
    have ek1 : 0 < k1 ∧ k1 < 155 ∧ (k1 - 1) % 7 = 0 := hk1
    refine ⟨(by first | assumption | exact (by omega)), ?_⟩
    refine ⟨(by first | assumption | exact (by omega)), ?_⟩
    refine ⟨fun c => ?_, fun c => ?_⟩
    · exact hX87 _ _ _ hI (by omega)
    · refine ⟨by omega, ?_⟩
      refine ⟨by omega, ?_⟩
      refine ⟨(by first | assumption | exact (by omega)), ?_⟩
      refine sX7_mostFrom (p2 := v4) (p3 := v5) hI hk1 (by omega) ?_
      intro x24_2518 p2519 q2520
      refine ⟨by omega, ?_⟩
      refine ⟨by omega, ?_⟩
      intro M27_2521 h_M27_2521
      have hM27_2521 : IX M27_2521 := by rw [h_M27_2521]; exact hI.up (sh_nsp (e := v4) (by omega) (by omega)) ((bx_sh (e := v4) (by omega) (by omega)).mpr (by omega))
      exact ih _ _ _ _ hM27_2521 (by omega) (by omega)
theorem sX7_weigh_L48 {k1 : Nat} {p2 : Int}  {Q : Int → Mem → Prop} (hk1 : isS k1) (hp : 0 ≤ p2 ∧ p2 ≤ 30) (hQ : ∀ z : Int, ∀ M' : Mem, IX M' → (0 ≤ z ∧ z ≤ 8) → Q z M') : ∀ (n : Nat) (v3 v4 : Int) (M : Mem), IX M → (1 ≤ v3 ∧ v3 ≤ 64 ∧ -1 ≤ v4 ∧ v4 ≤ 7) → v4 + 1 < (n : Int) → qX7_weigh_L48 k1 p2 Q n v3 v4 M := by
  intro n
  induction n with
  | zero => intro v3 v4 M hI hv hm; exact absurd hm (by omega)
  | succ n ih =>
    intro v3 v4 M hI hv hm
    rw [qX7_weigh_L48]
    have ek1 : 0 < k1 ∧ k1 < 155 ∧ (k1 - 1) % 7 = 0 := hk1
    refine ⟨(by first | assumption | exact (by omega)), ?_⟩
    refine ⟨fun c => ?_, fun c => ?_⟩
    · intro x17_2523 ex17_2523 rx17_2523
      have bx17_2523 : 0 ≤ x17_2523 ∧ x17_2523 ≤ 8 - (0) := by rw [ex17_2523]; exact (bx_sh (e := 0) (by omega) (by omega)).mp (hI.bx _ _)
      exact hQ _ _ hI (by omega)
    · refine ⟨65, ?_⟩
      refine sX7_weigh_L56 (g0 := v4) hk1 hp ?_ ?_ _ _ _ _ _ hI (by omega) (by omega)
      · exact hQ
      · intro v3_2525 v4_2526 M_2527 hM_2527 p2528
        exact ih _ _ _ hM_2527 (by omega) (by omega)
theorem sX7_weigh {k1 : Nat} {p2 : Int} {M : Mem} {Q : Int → Mem → Prop} (hI : IX M) (hk1 : isS k1) (hp : 0 ≤ p2 ∧ p2 ≤ 30) (hQ : ∀ z : Int, ∀ M' : Mem, IX M' → (0 ≤ z ∧ z ≤ 8) → Q z M') : qX7_weigh k1 p2 M Q := by
  unfold qX7_weigh
  have ek1 : 0 < k1 ∧ k1 < 155 ∧ (k1 - 1) % 7 = 0 := hk1
  intro M1_2529 h_M1_2529
  have hM1_2529 : IX M1_2529 := by rw [h_M1_2529]; exact hI.up (by decide) ((bx_c168_1).mpr (by omega))
  intro x2_2530 ex2_2530 rx2_2530
  have bx2_2530 : 0 ≤ x2_2530 ∧ x2_2530 ≤ 6 := by rw [ex2_2530]; exact (bx_s0_6 hk1).mp (hM1_2529.bx _ _)
  have fx2_2530 : x2_2530 = M k1 6 := by rw [ex2_2530, h_M1_2529, up2_n (by omega)]
  intro x3_2531 ex3_2531 rx3_2531
  first | (have fx3_2531 := slI_1 (b := x2_2530) (by omega); rw [← ex3_2531] at fx3_2531) | skip
  refine ⟨65, ?_⟩
  refine sX7_weigh_L15 hk1 hp ?_ ?_ _ _ _ _ hM1_2529 (by omega) (by omega)
  · exact hQ
  · intro v3_2532 M_2533 hM_2533 p2534
    intro x14_2535 ex14_2535 rx14_2535
    have bx14_2535 : 0 ≤ x14_2535 ∧ x14_2535 ≤ 8 := by rw [ex14_2535]; exact (bx_s0_7 hk1).mp (hM_2533.bx _ _)
    refine ⟨10, ?_⟩
    refine sX7_weigh_L48 hk1 hp ?_ _ _ _ _ hM_2533 (by omega) (by omega)
    · exact hQ
theorem sX11_shares_L37 {p1 : Int}  {Q : Int → Mem → Prop} (hQ : ∀ z : Int, ∀ M' : Mem, IX M' → Q z M') : ∀ (n : Nat) (v2 v3 v4 : Int) (M : Mem), IX M → (0 ≤ v2 ∧ v2 ≤ 8 ∧ 0 ≤ v3 ∧ v3 ≤ 63 ∧ 0 ≤ v4 ∧ v4 ≤ 8) → 8 - v4 < (n : Int) → qX11_shares_L37 p1 Q n v2 v3 v4 M := by
  intro n
  induction n with
  | zero => intro v2 v3 v4 M hI hv hm; exact absurd hm (by omega)
  | succ n ih =>
    intro v2 v3 v4 M hI hv hm
    rw [qX11_shares_L37]
    intro x5_2536 ex5_2536 rx5_2536
    have bx5_2536 : 0 ≤ x5_2536 ∧ x5_2536 ≤ 8 := by rw [ex5_2536]; exact (bx_s0_7 (show isS 1 by decide)).mp (hI.bx _ _)
    refine ⟨(by first | assumption | exact (by omega)), ?_⟩
    refine ⟨fun c => ?_, fun c => ?_⟩
    · refine ⟨(by first | assumption | exact (by omega)), ?_⟩
      exact hQ _ _ hI
    · refine ⟨(by first | assumption | exact (by omega)), ?_⟩
      refine sX7_choice (p2 := v4) (p3 := v3) hI (show isS 1 by decide) (by omega) ?_
      intro x10_2539 p2540 q2541
      refine ⟨fun c => ?_, fun c => ?_⟩
      · intro x12_2543 ex12_2543 rx12_2543
        first | (have fx12_2543 := slI_1 (b := x10_2539) (by omega); rw [← ex12_2543] at fx12_2543) | skip
        unfold qX11_shares_J80
        intro x13_2544 ex13_2544 rx13_2544
        first | (have fx13_2544 := oI_64 (a := v3) (b := x12_2543) (by omega) (by omega); rw [← ex13_2544] at fx13_2544) | skip
        refine ⟨(by first | assumption | exact (by omega)), ?_⟩
        refine sX4_add (p1 := x10_2539) hI  ?_
        intro M15_2545 hM15_2545
        exact ih _ _ _ _ hM15_2545 (by omega) (by omega)
      · unfold qX11_shares_J80
        intro x13_2547 ex13_2547 rx13_2547
        first | (have fx13_2547 := oI_64 (a := v3) (b := 0) (by omega) (by omega); rw [← ex13_2547] at fx13_2547) | skip
        refine ⟨(by first | assumption | exact (by omega)), ?_⟩
        refine sX4_add (p1 := x10_2539) hI  ?_
        intro M15_2548 hM15_2548
        exact ih _ _ _ _ hM15_2548 (by omega) (by omega)
theorem sX11_shares {p1 : Int} {M : Mem} {Q : Int → Mem → Prop} (hI : IX M) (hQ : ∀ z : Int, ∀ M' : Mem, IX M' → Q z M') : qX11_shares p1 M Q := by
  unfold qX11_shares
  refine ⟨fun c => ?_, fun c => ?_⟩
  · exact hQ _ _ hI
  · refine ⟨fun c => ?_, fun c => ?_⟩
    · refine sX7_weigh (p2 := p1) hI (show isS 1 by decide) (by omega) ?_
      intro x3_2552 M3_2553 hM3_2553 p2554 q2555
      refine sX4_clear  hM3_2553  ?_
      intro M4_2556 hM4_2556
      refine ⟨9, ?_⟩
      refine sX11_shares_L37 ?_ _ _ _ _ _ hM4_2556 (by omega) (by omega)
      · exact hQ
    · exact hQ _ _ hI
theorem sX11_strangers_L20  {X136 : Int → Int → Mem → Prop} {Q : Int → Mem → Prop} {g0 : Int} (hQ : ∀ z : Int, ∀ M' : Mem, IX M' → Q z M') (hX136 : ∀ w1 w2 : Int, ∀ M' : Mem, IX M' → (w2 = g0 ∧ 0 ≤ w1 ∧ w1 ≤ 30 ∧ 0 ≤ w2 ∧ w2 ≤ 7) → X136 w1 w2 M') : ∀ (n : Nat) (v1 v2 v3 : Int) (M : Mem), IX M → (v2 = g0 ∧ 0 ≤ v1 ∧ v1 ≤ 30 ∧ 0 ≤ v2 ∧ v2 ≤ 7 ∧ 0 ≤ v3 ∧ v3 ≤ 8) → 8 - v3 < (n : Int) → qX11_strangers_L20 X136 Q n v1 v2 v3 M := by
  intro n
  induction n with
  | zero => intro v1 v2 v3 M hI hv hm; exact absurd hm (by omega)
  | succ n ih =>
    intro v1 v2 v3 M hI hv hm
    rw [qX11_strangers_L20]
    intro x4_2558 ex4_2558 rx4_2558
    have bx4_2558 : 0 ≤ x4_2558 ∧ x4_2558 ≤ 8 := by rw [ex4_2558]; exact (bx_s0_7 (show isS 1 by decide)).mp (hI.bx _ _)
    refine ⟨(by first | assumption | exact (by omega)), ?_⟩
    refine ⟨fun c => ?_, fun c => ?_⟩
    · exact hX136 _ _ _ hI (by omega)
    · refine ⟨(by first | assumption | exact (by omega)), ?_⟩
      refine sX6_hasEnded (p1 := v2) hI (show isS 1 by decide) (by omega) ?_
      intro x8_2561 q2562 q2563
      refine ⟨fun c => ?_, fun c => ?_⟩
      · unfold qX11_strangers_J78
        unfold qX11_strangers_J79
        refine ⟨by omega, ?_⟩
        refine ⟨by omega, ?_⟩
        intro x12_2565 ex12_2565 rx12_2565
        have bx12_2565 : -1 ≤ x12_2565 ∧ x12_2565 ≤ 29 := by rw [ex12_2565]; exact (bx_s3 (show isS 1 by decide)).mp (hI.bx _ _)
        refine ⟨by omega, ?_⟩
        refine ⟨by omega, ?_⟩
        intro x15_2566 ex15_2566 rx15_2566
        have bx15_2566 : -1 ≤ x15_2566 ∧ x15_2566 ≤ 29 := by rw [ex15_2566]; exact (bx_s3 (show isS 1 by decide)).mp (hI.bx _ _)
        refine ⟨(by first | assumption | exact (by omega)), ?_⟩
        intro x17_2567 px17_2567 nx17_2567
        have bx17_2567 : 0 ≤ x17_2567 ∧ (x12_2565 - x15_2566 = x17_2567 ∨ x12_2565 - x15_2566 = -x17_2567) := by omega
        refine ⟨(by first | assumption | exact (by omega)), ?_⟩
        refine ⟨fun c => ?_, fun c => ?_⟩
        · exact ih _ _ _ _ hI (by omega) (by omega)
        · refine ⟨(by first | assumption | exact (by omega)), ?_⟩
          refine ⟨(by first | assumption | exact (by omega)), ?_⟩
          refine ⟨fun c => ?_, fun c => ?_⟩
          · exact ih _ _ _ _ hI (by omega) (by omega)
          · refine ⟨(by first | assumption | exact (by omega)), ?_⟩
            refine ⟨(by first | assumption | exact (by omega)), ?_⟩
            refine sX4_tellTwo (p1 := v2) (p3 := v3) hI  ?_
            intro M25_2572 hM25_2572
            exact ih _ _ _ _ hM25_2572 (by omega) (by omega)
      · refine sX6_hasEnded (p1 := v3) hI (show isS 1 by decide) (by omega) ?_
        intro x26_2574 q2575 q2576
        refine ⟨fun c => ?_, fun c => ?_⟩
        · unfold qX11_strangers_J78
          unfold qX11_strangers_J79
          refine ⟨by omega, ?_⟩
          refine ⟨by omega, ?_⟩
          intro x12_2578 ex12_2578 rx12_2578
          have bx12_2578 : -1 ≤ x12_2578 ∧ x12_2578 ≤ 29 := by rw [ex12_2578]; exact (bx_s3 (show isS 1 by decide)).mp (hI.bx _ _)
          refine ⟨by omega, ?_⟩
          refine ⟨by omega, ?_⟩
          intro x15_2579 ex15_2579 rx15_2579
          have bx15_2579 : -1 ≤ x15_2579 ∧ x15_2579 ≤ 29 := by rw [ex15_2579]; exact (bx_s3 (show isS 1 by decide)).mp (hI.bx _ _)
          refine ⟨(by first | assumption | exact (by omega)), ?_⟩
          intro x17_2580 px17_2580 nx17_2580
          have bx17_2580 : 0 ≤ x17_2580 ∧ (x12_2578 - x15_2579 = x17_2580 ∨ x12_2578 - x15_2579 = -x17_2580) := by omega
          refine ⟨(by first | assumption | exact (by omega)), ?_⟩
          refine ⟨fun c => ?_, fun c => ?_⟩
          · exact ih _ _ _ _ hI (by omega) (by omega)
          · refine ⟨(by first | assumption | exact (by omega)), ?_⟩
            refine ⟨(by first | assumption | exact (by omega)), ?_⟩
            refine ⟨fun c => ?_, fun c => ?_⟩
            · exact ih _ _ _ _ hI (by omega) (by omega)
            · refine ⟨(by first | assumption | exact (by omega)), ?_⟩
              refine ⟨(by first | assumption | exact (by omega)), ?_⟩
              refine sX4_tellTwo (p1 := v2) (p3 := v3) hI  ?_
              intro M25_2585 hM25_2585
              exact ih _ _ _ _ hM25_2585 (by omega) (by omega)
        · refine ⟨by omega, ?_⟩
          refine ⟨by omega, ?_⟩
          intro x30_2587 ex30_2587 rx30_2587
          have bx30_2587 : 0 ≤ x30_2587 ∧ x30_2587 ≤ 5 := by rw [ex30_2587]; exact (bx_s4 (show isS 1 by decide)).mp (hI.bx _ _)
          refine ⟨by omega, ?_⟩
          refine ⟨by omega, ?_⟩
          intro x33_2588 ex33_2588 rx33_2588
          have bx33_2588 : 0 ≤ x33_2588 ∧ x33_2588 ≤ 5 := by rw [ex33_2588]; exact (bx_s4 (show isS 1 by decide)).mp (hI.bx _ _)
          refine ⟨fun c => ?_, fun c => ?_⟩
          · unfold qX11_strangers_J78
            unfold qX11_strangers_J79
            refine ⟨by omega, ?_⟩
            refine ⟨by omega, ?_⟩
            intro x12_2590 ex12_2590 rx12_2590
            have bx12_2590 : -1 ≤ x12_2590 ∧ x12_2590 ≤ 29 := by rw [ex12_2590]; exact (bx_s3 (show isS 1 by decide)).mp (hI.bx _ _)
            refine ⟨by omega, ?_⟩
            refine ⟨by omega, ?_⟩
            intro x15_2591 ex15_2591 rx15_2591
            have bx15_2591 : -1 ≤ x15_2591 ∧ x15_2591 ≤ 29 := by rw [ex15_2591]; exact (bx_s3 (show isS 1 by decide)).mp (hI.bx _ _)
            refine ⟨(by first | assumption | exact (by omega)), ?_⟩
            intro x17_2592 px17_2592 nx17_2592
            have bx17_2592 : 0 ≤ x17_2592 ∧ (x12_2590 - x15_2591 = x17_2592 ∨ x12_2590 - x15_2591 = -x17_2592) := by omega
            refine ⟨(by first | assumption | exact (by omega)), ?_⟩
            refine ⟨fun c => ?_, fun c => ?_⟩
            · exact ih _ _ _ _ hI (by omega) (by omega)
            · refine ⟨(by first | assumption | exact (by omega)), ?_⟩
              refine ⟨(by first | assumption | exact (by omega)), ?_⟩
              refine ⟨fun c => ?_, fun c => ?_⟩
              · exact ih _ _ _ _ hI (by omega) (by omega)
              · refine ⟨(by first | assumption | exact (by omega)), ?_⟩
                refine ⟨(by first | assumption | exact (by omega)), ?_⟩
                refine sX4_tellTwo (p1 := v2) (p3 := v3) hI  ?_
                intro M25_2597 hM25_2597
                exact ih _ _ _ _ hM25_2597 (by omega) (by omega)
          · unfold qX11_strangers_J79
            refine ⟨by omega, ?_⟩
            refine ⟨by omega, ?_⟩
            intro x12_2599 ex12_2599 rx12_2599
            have bx12_2599 : -1 ≤ x12_2599 ∧ x12_2599 ≤ 29 := by rw [ex12_2599]; exact (bx_s3 (show isS 1 by decide)).mp (hI.bx _ _)
            refine ⟨by omega, ?_⟩
            refine ⟨by omega, ?_⟩
            intro x15_2600 ex15_2600 rx15_2600
            have bx15_2600 : -1 ≤ x15_2600 ∧ x15_2600 ≤ 29 := by rw [ex15_2600]; exact (bx_s3 (show isS 1 by decide)).mp (hI.bx _ _)
            refine ⟨(by first | assumption | exact (by omega)), ?_⟩
            intro x17_2601 px17_2601 nx17_2601
            have bx17_2601 : 0 ≤ x17_2601 ∧ (x12_2599 - x15_2600 = x17_2601 ∨ x12_2599 - x15_2600 = -x17_2601) := by omega
            refine ⟨(by first | assumption | exact (by omega)), ?_⟩
            refine ⟨fun c => ?_, fun c => ?_⟩
            · exact ih _ _ _ _ hI (by omega) (by omega)
            · refine ⟨(by first | assumption | exact (by omega)), ?_⟩
              refine ⟨(by first | assumption | exact (by omega)), ?_⟩
              refine ⟨fun c => ?_, fun c => ?_⟩
              · exact ih _ _ _ _ hI (by omega) (by omega)
              · refine ⟨(by first | assumption | exact (by omega)), ?_⟩
                refine ⟨(by first | assumption | exact (by omega)), ?_⟩
                refine sX4_tellTwo (p1 := v2) (p3 := v3) hI  ?_
                intro M25_2606 hM25_2606
                exact ih _ _ _ _ hM25_2606 (by omega) (by omega)
theorem sX11_strangers_L5  {X142 : Int → Mem → Prop} {Q : Int → Mem → Prop} (hQ : ∀ z : Int, ∀ M' : Mem, IX M' → Q z M') (hX142 : ∀ w1 : Int, ∀ M' : Mem, IX M' → (0 ≤ w1 ∧ w1 ≤ 30) → X142 w1 M') : ∀ (n : Nat) (v1 v2 : Int) (M : Mem), IX M → (0 ≤ v1 ∧ v1 ≤ 30 ∧ 0 ≤ v2 ∧ v2 ≤ 8) → 8 - v2 < (n : Int) → qX11_strangers_L5 X142 Q n v1 v2 M := by
  intro n
  induction n with
  | zero => intro v1 v2 M hI hv hm; exact absurd hm (by omega)
  | succ n ih =>
    intro v1 v2 M hI hv hm
    rw [qX11_strangers_L5]
    intro x1_2607 ex1_2607 rx1_2607
    have bx1_2607 : 0 ≤ x1_2607 ∧ x1_2607 ≤ 8 := by rw [ex1_2607]; exact (bx_s0_7 (show isS 1 by decide)).mp (hI.bx _ _)
    refine ⟨(by first | assumption | exact (by omega)), ?_⟩
    refine ⟨fun c => ?_, fun c => ?_⟩
    · exact hX142 _ _ hI (by omega)
    · refine ⟨9, ?_⟩
      refine sX11_strangers_L20 (g0 := v2) ?_ ?_ _ _ _ _ _ hI (by omega) (by omega)
      · exact hQ
      · intro v1_2610 v2_2611 M_2612 hM_2612 p2613
        exact ih _ _ _ hM_2612 (by omega) (by omega)
theorem sX11_strangers  {M : Mem} {Q : Int → Mem → Prop} (hI : IX M) (hQ : ∀ z : Int, ∀ M' : Mem, IX M' → Q z M') : qX11_strangers M Q := by
  unfold qX11_strangers
  refine ⟨9, ?_⟩
  refine sX11_strangers_L5 ?_ ?_ _ _ _ _ hI (by omega) (by omega)
  · exact hQ
  · intro v1_2614 M_2615 hM_2615 p2616
    refine ⟨(by first | assumption | exact (by omega)), ?_⟩
    refine ⟨fun c => ?_, fun c => ?_⟩
    · exact hQ _ _ hM_2615
    · exact hQ _ _ hM_2615
theorem sX6_isInDoubt {k0 : Nat} {p1 : Int} {M : Mem} {Q : Int → Mem → Prop} (hI : IX M) (hk0 : isS k0) (hp : 0 ≤ p1 ∧ p1 ≤ 7) (hQ : ∀ z : Int, Q z M) : qX6_isInDoubt k0 p1 M Q := by
  unfold qX6_isInDoubt
  have ek0 : 0 < k0 ∧ k0 < 155 ∧ (k0 - 1) % 7 = 0 := hk0
  refine ⟨by omega, ?_⟩
  refine ⟨by omega, ?_⟩
  intro x3_2619 ex3_2619 rx3_2619
  have bx3_2619 : -1 ≤ x3_2619 ∧ x3_2619 ≤ 29 := by rw [ex3_2619]; exact (bx_s3 hk0).mp (hI.bx _ _)
  refine sX6_nearestTo (p1 := x3_2619) hI hk0 (by omega) ?_
  intro x4_2620 p2621 q2622
  refine ⟨fun c => ?_, fun c => ?_⟩
  · refine ⟨by omega, ?_⟩
    refine ⟨by omega, ?_⟩
    intro x8_2624 ex8_2624 rx8_2624
    have bx8_2624 : -1 ≤ x8_2624 ∧ x8_2624 ≤ 29 := by rw [ex8_2624]; exact (bx_s1 hk0).mp (hI.bx _ _)
    refine ⟨(by first | assumption | exact (by omega)), ?_⟩
    refine ⟨fun c => ?_, fun c => ?_⟩
    · exact hQ _
    · intro x11_2627 ex11_2627 rx11_2627
      have bx11_2627 : -1 ≤ x11_2627 ∧ x11_2627 ≤ 29 := by rw [ex11_2627]; exact (bx_s1 hk0).mp (hI.bx _ _)
      refine ⟨fun c => ?_, fun c => ?_⟩
      · exact hQ _
      · refine sX6_hearseOn (p1 := 2 * x3_2619 - x8_2624) hI hk0 ?_
        intro x13_2630 p2631 q2632
        refine ⟨fun c => ?_, fun c => ?_⟩
        · exact hQ _
        · exact hQ _
  · exact hQ _
theorem sX11_doubts_L4  {X42 : Int → Mem → Prop} {Q : Int → Mem → Prop} (hQ : ∀ z : Int, ∀ M' : Mem, IX M' → Q z M') (hX42 : ∀ w1 : Int, ∀ M' : Mem, IX M' → iR w1 → X42 w1 M') : ∀ (n : Nat) (v1 v2 : Int) (M : Mem), IX M → (0 ≤ v2 ∧ v2 ≤ 8) → iR v1 → 8 - v2 < (n : Int) → qX11_doubts_L4 X42 Q n v1 v2 M := by
  intro n
  induction n with
  | zero => intro v1 v2 M hI hv hrv1 hm; exact absurd hm (by omega)
  | succ n ih =>
    intro v1 v2 M hI hv hrv1 hm
    rw [qX11_doubts_L4]
    intro x1_2636 ex1_2636 rx1_2636
    have bx1_2636 : 0 ≤ x1_2636 ∧ x1_2636 ≤ 8 := by rw [ex1_2636]; exact (bx_s0_7 (show isS 1 by decide)).mp (hI.bx _ _)
    refine ⟨(by first | assumption | exact (by omega)), ?_⟩
    refine ⟨fun c => ?_, fun c => ?_⟩
    · exact hX42 _ _ hI (by first | assumption | exact (by omega))
    · refine sX6_isInDoubt (p1 := v2) hI (show isS 1 by decide) (by omega) ?_
      intro x4_2639 q2640 q2641
      refine ⟨fun c => ?_, fun c => ?_⟩
      · intro x6_2643 ex6_2643 rx6_2643
        first | (have fx6_2643 := oI_64 (a := v1) (b := 0) (by omega) (by omega); rw [← ex6_2643] at fx6_2643) | skip
        exact ih _ _ _ hI (by omega) (by first | assumption | exact (by omega)) (by omega)
      · intro x7_2645 ex7_2645 rx7_2645
        first | (have fx7_2645 := slI_1 (b := v2) (by omega); rw [← ex7_2645] at fx7_2645) | skip
        intro x8_2646 ex8_2646 rx8_2646
        first | (have fx8_2646 := oI_64 (a := v1) (b := x7_2645) (by omega) (by omega); rw [← ex8_2646] at fx8_2646) | skip
        exact ih _ _ _ hI (by omega) (by first | assumption | exact (by omega)) (by omega)
theorem sX11_doubts  {M : Mem} {Q : Int → Mem → Prop} (hI : IX M) (hQ : ∀ z : Int, ∀ M' : Mem, IX M' → Q z M') : qX11_doubts M Q := by
  unfold qX11_doubts
  refine ⟨9, ?_⟩
  refine sX11_doubts_L4 ?_ ?_ _ _ _ _ hI (by omega) (by first | assumption | exact (by omega)) (by omega)
  · exact hQ
  · intro v1_2647 M_2648 hM_2648 r2649
    refine ⟨(by first | assumption | exact (by omega)), ?_⟩
    refine sJ6_bitCount_0f7a4 (p0 := v1_2647) hM_2648  ?_
    intro x11_2650 p2651 q2652
    refine sX4_tellOne (p1 := x11_2650) hM_2648  ?_
    intro M12_2653 hM12_2653
    exact hQ _ _ hM12_2653
theorem sX0_isOneTrueOf {k1 : Nat} {p2 : Int} {p3 : Int} {M : Mem} {Q : Int → Mem → Prop} (hI : IX M) (hk1 : isS k1) (hp : 0 ≤ p3 ∧ p3 ≤ 7 ∧ 0 ≤ p2 ∧ p2 ≤ 5) (hQ : ∀ z : Int, Q z M) : qX0_isOneTrueOf k1 p2 p3 M Q := by
  unfold qX0_isOneTrueOf
  have ek1 : 0 < k1 ∧ k1 < 155 ∧ (k1 - 1) % 7 = 0 := hk1
  refine ⟨by omega, ?_⟩
  refine ⟨by omega, ?_⟩
  intro x3_2698 ex3_2698 rx3_2698
  have bx3_2698 : -2147483648 ≤ x3_2698 ∧ x3_2698 ≤ 2147483647 := rx3_2698
  refine ⟨fun c => ?_, fun c => ?_, fun c => ?_, fun c => ?_⟩
  · refine sX6_bitsOf (p2 := p2) hI hk1 ?_
    intro x5_2700 q2701
    refine sJ6_bitCount_0f7a4 (p0 := x5_2700) hI  ?_
    intro x6_2702 p2703 q2704
    intro x7_2705 ex7_2705 rx7_2705
    have bx7_2705 : -2147483648 ≤ x7_2705 ∧ x7_2705 ≤ 2147483647 := rx7_2705
    refine ⟨fun c => ?_, fun c => ?_⟩
    · exact hQ _
    · exact hQ _
  · refine ⟨by omega, ?_⟩
    refine ⟨by omega, ?_⟩
    intro x11_2709 ex11_2709 rx11_2709
    have bx11_2709 : -2147483648 ≤ x11_2709 ∧ x11_2709 ≤ 2147483647 := rx11_2709
    intro x12_2710 ex12_2710 rx12_2710
    have bx12_2710 : -2147483648 ≤ x12_2710 ∧ x12_2710 ≤ 2147483647 := rx12_2710
    refine ⟨fun c => ?_, fun c => ?_⟩
    · exact hQ _
    · exact hQ _
  · refine sX6_bitsOf (p2 := p2) hI hk1 ?_
    intro x14_2714 q2715
    refine sJ6_bitCount_0f7a4 (p0 := x14_2714) hI  ?_
    intro x15_2716 p2717 q2718
    intro x16_2719 ex16_2719 rx16_2719
    have bx16_2719 : -2147483648 ≤ x16_2719 ∧ x16_2719 ≤ 2147483647 := rx16_2719
    refine ⟨fun c => ?_, fun c => ?_⟩
    · exact hQ _
    · exact hQ _
  · intro x18_2723 ex18_2723 rx18_2723
    first | (have fx18_2723 := rmI_b (a := p2) (b := 2) (by omega) (by omega); rw [← ex18_2723] at fx18_2723) | skip
    intro x19_2724 ex19_2724 rx19_2724
    have bx19_2724 : -2147483648 ≤ x19_2724 ∧ x19_2724 ≤ 2147483647 := rx19_2724
    refine ⟨fun c => ?_, fun c => ?_⟩
    · exact hQ _
    · exact hQ _
theorem sX0_isTrueOf_L2 {k1 : Nat} {p2 : Int}  {Q : Int → Mem → Prop} {M0 : Mem} (hk1 : isS k1) (hp : 0 ≤ p2 ∧ p2 ≤ 5) (hQ : ∀ z : Int, Q z M0) : ∀ (n : Nat) (v3 : Int), IX M0 → (0 ≤ v3 ∧ v3 ≤ 8) → 8 - v3 < (n : Int) → qX0_isTrueOf_L2 k1 p2 Q n v3 M0 := by
  intro n
  induction n with
  | zero => intro v3 hI hv hm; exact absurd hm (by omega)
  | succ n ih =>
    intro v3 hI hv hm
    rw [qX0_isTrueOf_L2]
    have ek1 : 0 < k1 ∧ k1 < 155 ∧ (k1 - 1) % 7 = 0 := hk1
    intro x1_2727 ex1_2727 rx1_2727
    have bx1_2727 : 0 ≤ x1_2727 ∧ x1_2727 ≤ 8 := by rw [ex1_2727]; exact (bx_c182_2).mp (hI.bx _ _)
    refine ⟨(by first | assumption | exact (by omega)), ?_⟩
    refine ⟨fun c => ?_, fun c => ?_⟩
    · exact hQ _
    · refine sX0_isOneTrueOf (p2 := p2) (p3 := v3) hI hk1 (by omega) ?_
      intro x4_2730 q2731 q2732
      refine ⟨fun c => ?_, fun c => ?_⟩
      · exact ih _ hI (by omega) (by omega)
      · exact hQ _
theorem sX0_isTrueOf {k1 : Nat} {p2 : Int} {M : Mem} {Q : Int → Mem → Prop} (hI : IX M) (hk1 : isS k1) (hp : 0 ≤ p2 ∧ p2 ≤ 5) (hQ : ∀ z : Int, Q z M) : qX0_isTrueOf k1 p2 M Q := by
  unfold qX0_isTrueOf
  have ek1 : 0 < k1 ∧ k1 < 155 ∧ (k1 - 1) % 7 = 0 := hk1
  refine ⟨9, ?_⟩
  refine sX0_isTrueOf_L2 hk1 hp ?_ _ _ hI (by omega) (by omega)
  · exact hQ
theorem sX11_fits_L33  {X75 : Int → Mem → Prop} {Q : Int → Mem → Prop} (hQ : ∀ z : Int, ∀ M' : Mem, IX M' → Q z M') (hX75 : ∀ w1 : Int, ∀ M' : Mem, IX M' → iR w1 → X75 w1 M') : ∀ (n : Nat) (v1 v2 : Int) (M : Mem), IX M → (0 ≤ v2 ∧ v2 ≤ 6) → iR v1 → 6 - v2 < (n : Int) → qX11_fits_L33 X75 Q n v1 v2 M := by
  intro n
  induction n with
  | zero => intro v1 v2 M hI hv hrv1 hm; exact absurd hm (by omega)
  | succ n ih =>
    intro v1 v2 M hI hv hrv1 hm
    rw [qX11_fits_L33]
    intro x4_2735 ex4_2735 rx4_2735
    have bx4_2735 : 0 ≤ x4_2735 ∧ x4_2735 ≤ 6 := by rw [ex4_2735]; exact (bx_s0_6 (show isS 8 by decide)).mp (hI.bx _ _)
    refine ⟨(by first | assumption | exact (by omega)), ?_⟩
    refine ⟨fun c => ?_, fun c => ?_⟩
    · exact hX75 _ _ hI (by first | assumption | exact (by omega))
    · refine sX0_isTrueOf (p2 := v2) hI (show isS 8 by decide) (by omega) ?_
      intro x7_2738 q2739 q2740
      refine ⟨fun c => ?_, fun c => ?_⟩
      · intro x9_2742 ex9_2742 rx9_2742
        first | (have fx9_2742 := oI_64 (a := v1) (b := 0) (by omega) (by omega); rw [← ex9_2742] at fx9_2742) | skip
        exact ih _ _ _ hI (by omega) (by first | assumption | exact (by omega)) (by omega)
      · intro x10_2744 ex10_2744 rx10_2744
        first | (have fx10_2744 := slI_1 (b := v2) (by omega); rw [← ex10_2744] at fx10_2744) | skip
        intro x11_2745 ex11_2745 rx11_2745
        first | (have fx11_2745 := oI_64 (a := v1) (b := x10_2744) (by omega) (by omega); rw [← ex11_2745] at fx11_2745) | skip
        exact ih _ _ _ hI (by omega) (by first | assumption | exact (by omega)) (by omega)
theorem sX11_fits  {M : Mem} {Q : Int → Mem → Prop} (hI : IX M) (hQ : ∀ z : Int, ∀ M' : Mem, IX M' → Q z M') : qX11_fits M Q := by
  unfold qX11_fits
  refine sX6_copyFrom  hI (show isS 8 by decide) (show isS 1 by decide) ?_
  intro M1_2746 hM1_2746 gM1_2746
  refine ⟨(hM1_2746).l16, ?_⟩
  refine sX10_walk (p3 := 200) hM1_2746 (show isS 8 by decide) (hM1_2746).l16 (by omega) ?_
  intro M3_2747 hM3_2747
  refine ⟨7, ?_⟩
  refine sX11_fits_L33 ?_ ?_ _ _ _ _ hM3_2747 (by omega) (by first | assumption | exact (by omega)) (by omega)
  · exact hQ
  · intro v1_2748 M_2749 hM_2749 r2750
    refine ⟨(by first | assumption | exact (by omega)), ?_⟩
    refine sJ6_bitCount_0f7a4 (p0 := v1_2748) hM_2749  ?_
    intro x14_2751 p2752 q2753
    refine sX4_tellOne (p1 := x14_2751) hM_2749  ?_
    intro M15_2754 hM15_2754
    exact hQ _ _ hM15_2754
theorem sX11_power_L5 {p0 : Int} {p2 : Int}  {Q : Int → Mem → Prop} {M0 : Mem} (hp : p2 ≤ 12) (hQ : ∀ z : Int, Q z M0) : ∀ (n : Nat) (v3 v5 : Int), IX M0 → (0 ≤ v5 ∧ v5 ≤ 12) → lR v3 → 12 - v5 < (n : Int) → qX11_power_L5 p0 p2 Q n v3 v5 M0 := by
  intro n
  induction n with
  | zero => intro v3 v5 hI hv hrv3 hm; exact absurd hm (by omega)
  | succ n ih =>
    intro v3 v5 hI hv hrv3 hm
    rw [qX11_power_L5]
    refine ⟨(by first | assumption | exact (by omega)), ?_⟩
    refine ⟨fun c => ?_, fun c => ?_⟩
    · refine ⟨(by first | assumption | exact (by omega) | exact iR_lR (by first | assumption | exact (by omega))), ?_⟩
      exact hQ _
    · intro x4_2763 ex4_2763 rx4_2763
      exact ih _ _ hI (by omega) (by first | assumption | exact (by omega) | exact iR_lR (by assumption)) (by omega)
theorem sX11_power {p0 : Int} {p2 : Int} {M : Mem} {Q : Int → Mem → Prop} (hI : IX M) (hp : p2 ≤ 12) (hQ : ∀ z : Int, Q z M) : qX11_power p0 p2 M Q := by
  unfold qX11_power
  refine ⟨13, ?_⟩
  refine sX11_power_L5 hp ?_ _ _ _ hI (by omega) (by first | assumption | exact (by omega) | exact iR_lR (by assumption)) (by omega)
  · exact hQ
theorem sX11_rains_L42 {p1 : Int} {p2 : Int} {p3 : Int} {X112 : Int → Mem → Prop} {Q : Int → Mem → Prop} (hQ : ∀ z : Int, ∀ M' : Mem, IX M' → Q z M') (hX112 : ∀ w1 : Int, ∀ M' : Mem, IX M' → lR w1 → X112 w1 M') : ∀ (n : Nat) (v4 v6 v8 : Int) (M : Mem), IX M → (0 ≤ v8 ∧ v8 ≤ 12 ∧ 1 ≤ p1 ∧ p1 ≤ 12) → lR v4 → lR v6 → 12 - v8 < (n : Int) → qX11_rains_L42 p1 p2 p3 X112 Q n v4 v6 v8 M := by
  intro n
  induction n with
  | zero => intro v4 v6 v8 M hI hv hrv4 hrv6 hm; exact absurd hm (by omega)
  | succ n ih =>
    intro v4 v6 v8 M hI hv hrv4 hrv6 hm
    rw [qX11_rains_L42]
    refine ⟨(by first | assumption | exact (by omega)), ?_⟩
    refine ⟨fun c => ?_, fun c => ?_⟩
    · exact hX112 _ _ hI (by first | assumption | exact (by omega) | exact iR_lR (by assumption))
    · refine ⟨(by first | assumption | exact (by omega)), ?_⟩
      refine ⟨fun c => ?_, fun c => ?_⟩
      · unfold qX11_rains_J88
        intro x11_2767 ex11_2767 rx11_2767
        first | (have fx11_2767 : x11_2767 = p1 - 1 := by rw [ex11_2767]; exact w32_id (by omega)) | skip
        intro x12_2768 ex12_2768 rx12_2768
        first | (have fx12_2768 : x12_2768 = x11_2767 - v8 := by rw [ex12_2768]; exact w32_id (by omega)) | skip
        intro x13_2769 ex13_2769 rx13_2769
        refine ⟨(by first | assumption | exact (by omega)), ?_⟩
        refine ⟨by omega, ?_⟩
        intro x16_2770 ex16_2770 rx16_2770
        exact ih _ _ _ _ hI (by omega) (by first | assumption | exact (by omega) | exact iR_lR (by assumption)) (by first | assumption | exact (by omega) | exact iR_lR (by assumption)) (by omega)
      · refine sX11_power (p0 := p3) (p2 := v8 + 1) hI (by omega) ?_
        intro x17_2772 q2773
        intro x18_2774 ex18_2774 rx18_2774
        intro x19_2775 ex19_2775 rx19_2775
        first | (have fx19_2775 : x19_2775 = 10 - p3 := by rw [ex19_2775]; exact w32_id (by omega)) | skip
        intro x20_2776 ex20_2776 rx20_2776
        first | (have fx20_2776 : x20_2776 = p1 - 1 := by rw [ex20_2776]; exact w32_id (by omega)) | skip
        intro x21_2777 ex21_2777 rx21_2777
        first | (have fx21_2777 : x21_2777 = x20_2776 - v8 := by rw [ex21_2777]; exact w32_id (by omega)) | skip
        refine sX11_power (p0 := x19_2775) (p2 := x21_2777) hI (by omega) ?_
        intro x22_2778 q2779
        intro x23_2780 ex23_2780 rx23_2780
        intro x24_2781 ex24_2781 rx24_2781
        unfold qX11_rains_J88
        intro x11_2782 ex11_2782 rx11_2782
        first | (have fx11_2782 : x11_2782 = p1 - 1 := by rw [ex11_2782]; exact w32_id (by omega)) | skip
        intro x12_2783 ex12_2783 rx12_2783
        first | (have fx12_2783 : x12_2783 = x11_2782 - v8 := by rw [ex12_2783]; exact w32_id (by omega)) | skip
        intro x13_2784 ex13_2784 rx13_2784
        refine ⟨(by first | assumption | exact (by omega)), ?_⟩
        refine ⟨by omega, ?_⟩
        intro x16_2785 ex16_2785 rx16_2785
        exact ih _ _ _ _ hI (by omega) (by first | assumption | exact (by omega) | exact iR_lR (by assumption)) (by first | assumption | exact (by omega) | exact iR_lR (by assumption)) (by omega)
end
section
/-! SPECS of the class: the reader of rules -/
def prn (f : Int → Int) : Nat → Int
  | 0 => 0
  | n + 1 => prn f n + (if f n = 40 then 1 else 0)
theorem prn_nn (f : Int → Int) (n : Nat) : 0 ≤ prn f n ∧ prn f n ≤ n := by
  induction n with
  | zero => exact ⟨Int.le_refl _, Int.le_refl _⟩
  | succ n ih =>
    unfold prn
    split <;> omega
theorem prn_cg {f g : Int → Int} (n : Nat) (h : ∀ j : Int, 0 ≤ j → j < n → f j = g j) : prn f n = prn g n := by
  induction n with
  | zero => rfl
  | succ n ih =>
    unfold prn
    rw [ih (fun j a b => h j a (by omega)), h n (by omega) (by omega)]
/-- what is held: no more than v, the open ones among it -/
def RI (M : Mem) (v : Int) : Prop := M 185 1 ≤ v ∧ M 185 2 ≤ prn (M 186) (M 185 1).toNat
theorem RI.fr {M M' : Mem} {v : Int} (h : RI M v) (h1 : M' 185 = M 185) (h2 : M' 186 = M 186) : RI M' v := by
  unfold RI
  rw [h1, h2]
  exact h
theorem RI.mono {M : Mem} {v w : Int} (h : RI M v) (hw : v ≤ w) : RI M w := ⟨by have := h.1; omega, h.2⟩
theorem RI.fl {M : Mem} {v z : Int} (h : RI M v) : RI (up2 M 185 3 z) v := by
  unfold RI
  rw [up2_j (by decide), up2_j (by decide), up2_n (by decide)]
  exact h
theorem sX5_release_L0 {k1 : Nat} {p2 v : Int} {M0 : Mem} {Q : Mem → Prop} (hk1 : isL k1) (hp : 1 ≤ p2) (hQ : ∀ M' : Mem, IX M' → RI M' v → M' 185 2 = M0 185 2 → Q M') : ∀ (n : Nat) (M : Mem), IX M → RI M v → M 185 2 = M0 185 2 → M 185 1 < n → qX5_release_L0 k1 p2 Q n M := by
  intro n
  induction n with
  | zero =>
    intro M hI hR hd hm
    have := (bx_c185_1).mp (hI.bx 185 1)
    exact absurd hm (by omega)
  | succ n ih =>
    intro M hI hR hd hm
    rw [qX5_release_L0]
    intro x1 e1 r1
    have b1 : 0 ≤ x1 ∧ x1 ≤ 40 := by rw [e1]; exact bx_c185_1.mp (hI.bx _ _)
    refine ⟨fun c => hQ _ hI hR hd, fun c => ?_⟩
    unfold qX5_latestBinding
    intro y1 f1 _
    refine ⟨fun c => by omega, fun _ => ?_⟩
    intro y3 f3 _
    refine ⟨by omega, by omega, ?_⟩
    intro y6 f6 _
    refine sX5_bindingOf (p0 := y6) hI ?_
    intro z hz _
    intro _
    refine ⟨fun c => hQ _ hI hR hd, fun c2 => ?_⟩
    intro x5 e5 _
    refine ⟨(by omega), ?_⟩
    intro M7 h7
    have hM7 : IX M7 := by rw [h7]; exact hI.up (by decide) (bx_c185_1.mpr (by omega))
    intro x8 e8 _
    have f8 : x8 = x1 - 1 := by rw [e8, h7, up2_s]; omega
    refine ⟨by omega, by omega, ?_⟩
    intro x11 e11 _
    refine sX2_add (p1 := x11) (p2 := 0) hM7 hk1 (by omega) ?_
    intro M12 hM12 g
    have g5 : M12 185 = M7 185 := g 185 (by rcases hk1 with rfl | rfl <;> omega)
    have g6 : M12 186 = M7 186 := g 186 (by rcases hk1 with rfl | rfl <;> omega)
    have hd7 : M7 185 2 = M 185 2 := by rw [h7, up2_j (by decide)]
    have hR7 : RI M7 v := by
      have hn : (M 185 1).toNat = (x8).toNat + 1 := by omega
      have hr2 := hR.2
      rw [hn] at hr2
      unfold prn at hr2
      rw [if_neg (by
        have e : ((x8.toNat : Nat) : Int) = y3 - 1 := by omega
        rw [e, ← f6]
        exact (hz.2.2 (by omega)).1)] at hr2
      refine ⟨by have := hR.1; rw [← e8]; omega, ?_⟩
      rw [hd7, ← e8]
      have : M7 186 = M 186 := by rw [h7, up2_n (by decide)]
      rw [this]
      omega
    exact ih M12 hM12 (hR7.fr g5 g6) (by rw [g5, hd7, hd]) (by rw [g5, ← e8]; omega)
theorem sX5_release {k1 : Nat} {p2 v : Int} {M : Mem} {Q : Mem → Prop} (hI : IX M) (hk1 : isL k1) (hp : 1 ≤ p2) (hR : RI M v) (hQ : ∀ M' : Mem, IX M' → RI M' v → M' 185 2 = M 185 2 → Q M') : qX5_release k1 p2 M Q := by
  have h := sX5_release_L0 (M0 := M) hk1 hp hQ 42 M hI hR rfl (by have := bx_c185_1.mp (hI.bx 185 1); omega)
  rw [qX5_release_L0] at h
  unfold qX5_release
  intro x1 e1 r1
  obtain ⟨h1, h2⟩ := h x1 e1 r1
  refine ⟨h1, fun c => ?_⟩
  have h3 := h2 c
  unfold qX5_latestBinding at h3 ⊢
  intro y1 f1 s1
  obtain ⟨h4, h5⟩ := h3 y1 f1 s1
  refine ⟨fun c => by omega, fun c4 => ?_⟩
  have h6 := h5 c4
  intro y3 f3 s3
  obtain ⟨q1, q2, h7⟩ := h6 y3 f3 s3
  refine ⟨q1, q2, ?_⟩
  intro y6 f6 s6
  have h8 := h7 y6 f6 s6
  have key : ∀ {Q1 Q2 : Int → Mem → Prop}, (∀ z, Q1 z M → Q2 z M) → qX5_bindingOf y6 M Q1 → qX5_bindingOf y6 M Q2 := by
    intro Q1 Q2 hq hb
    unfold qX5_bindingOf at hb ⊢
    obtain ⟨a1, a2, a3, a4, a5, a6, a7, a8, a9⟩ := hb
    exact ⟨fun c => hq _ (a1 c), fun c => hq _ (a2 c), fun c => hq _ (a3 c), fun c => hq _ (a4 c), fun c => hq _ (a5 c), fun c => hq _ (a6 c), fun c => hq _ (a7 c), fun c => hq _ (a8 c), fun c => hq _ (a9 c)⟩
  refine key ?_ h8
  intro z hz rz rz2
  obtain ⟨h9, h10⟩ := hz rz rz2
  refine ⟨h9, fun c5 => ?_⟩
  have h11 := h10 c5
  intro x5 e5 s5
  obtain ⟨q3, h12⟩ := h11 x5 e5 s5
  refine ⟨q3, ?_⟩
  intro M7 hm7 x8 e8 s8
  obtain ⟨q4, q5, h13⟩ := h12 M7 hm7 x8 e8 s8
  refine ⟨q4, q5, ?_⟩
  intro x11 e11 s11
  have h14 := h13 x11 e11 s11
  have kadd : ∀ {Q1 Q2 : Mem → Prop}, (∀ M', Q1 M' → Q2 M') → qX2_add k1 x11 0 M7 Q1 → qX2_add k1 x11 0 M7 Q2 := by
    intro Q1 Q2 hq hb
    unfold qX2_add at hb ⊢
    intro a1 b1 c1
    obtain ⟨u1, u2⟩ := hb a1 b1 c1
    refine ⟨fun c => hq _ (u1 c), fun c => ?_⟩
    intro a3 b3 c3
    obtain ⟨u3, u4, u5⟩ := u2 c a3 b3 c3
    refine ⟨u3, u4, ?_⟩
    intro a6 b6 a7 b7 c7
    obtain ⟨u6, u7, u8⟩ := u5 a6 b6 a7 b7 c7
    refine ⟨u6, u7, ?_⟩
    intro a10 b10 a11 b11 c11
    obtain ⟨u9, u10⟩ := u8 a10 b10 a11 b11 c11
    exact ⟨u9, fun a13 b13 => hq _ (u10 a13 b13)⟩
  exact kadd (fun M' hq => ⟨41, hq⟩) h14
theorem sX5_hold {p1 v : Int} {M : Mem} {Q : Mem → Prop} (hI : IX M) (hv : v < 40) (hR : RI M v) (hQ : ∀ M' : Mem, IX M' → M' 185 1 ≤ v + 1 → M' 185 2 = M 185 2 → prn (M 186) (M 185 1).toNat + (if p1 = 40 then 1 else 0) ≤ prn (M' 186) (M' 185 1).toNat → Q M') : qX5_hold p1 M Q := by
  have hR1 := hR.1
  unfold qX5_hold
  intro x1 e1 _
  have b1 : 0 ≤ x1 ∧ x1 ≤ 40 := by rw [e1]; exact bx_c185_1.mp (hI.bx _ _)
  refine ⟨fun c => by omega, fun c => ?_⟩
  intro x3 e3 _
  refine ⟨by omega, by omega, ?_⟩
  intro M6 h6 x7 e7 _
  have f7 : x7 = x3 := by rw [e7, h6, up2_n (by decide), e3]
  have hM6 : IX M6 := by rw [h6]; exact hI.up (by decide) (by simp [BX])
  refine ⟨(by omega), ?_⟩
  intro M9 h9
  have hM9 : IX M9 := by rw [h9]; exact hM6.up (by decide) (bx_c185_1.mpr (by omega))
  have k1 : M9 185 1 = x3 + 1 := by rw [h9, up2_s, f7]
  refine hQ _ hM9 (by omega) (by rw [h9, up2_j (by decide), h6, up2_n (by decide)]) ?_
  have k2 : M9 186 = M6 186 := by rw [h9, up2_n (by decide)]
  have k3 : (x3 + 1).toNat = x3.toNat + 1 := by omega
  have k4 : ((x3.toNat : Nat) : Int) = x3 := by omega
  rw [k1, k2, k3, ← e3]
  show _ ≤ prn (M6 186) x3.toNat + (if M6 186 (x3.toNat : Nat) = 40 then 1 else 0)
  rw [k4, show M6 186 x3 = p1 from by rw [h6, up2_s], prn_cg (f := M6 186) (g := M 186) x3.toNat (fun j a b => by rw [h6, up2_j (by omega)])]
  exact Int.le_refl _
theorem sX5_takeSign {k2 : Nat} {v : Int} {M : Mem} {Q : Int → Mem → Prop} (hI : IX M) (hk2 : isL k2) (hv : v < 40) (hR : RI M v) (hQ : ∀ z : Int, ∀ M' : Mem, IX M' → RI M' (v + 1) → Q z M') : qX5_takeSign k2 M Q := by
  have J116 : ∀ M1 : Mem, IX M1 → RI M1 (v + 1) → qX5_takeSign_J116 k2 Q M1 := by
    intro M1 h1 r1
    unfold qX5_takeSign_J116
    refine sX9_pass h1 ?_
    intro M2 h2 g2
    exact hQ _ _ h2 (r1.fr (g2 185 (by decide)) (g2 186 (by decide)))
  have H : ∀ (c : Int) (M1 : Mem), IX M1 → RI M1 v → qX5_hold c M1 (fun M9 => ∀ M10 : Mem, M10 = up2 M9 185 3 1 → qX5_takeSign_J116 k2 Q M10) := by
    intro c M1 h1 r1
    refine sX5_hold h1 hv r1 ?_
    intro M9 h9 a1 a2 a3 M10 e10
    have h10 : IX M10 := by rw [e10]; exact h9.up (by decide) (by simp [BX])
    refine J116 _ h10 ?_
    rw [e10]
    refine RI.fl ⟨a1, ?_⟩
    rw [a2]
    have := r1.2
    split at a3 <;> omega
  have J53 : ∀ (v3 v4 : Int) (M1 : Mem), IX M1 → RI M1 v → iR v3 → iR v4 → qX5_takeSign_J53 k2 Q v3 v4 M1 := by
    intro v3 v4 M1 h1 r1 r3 r4
    unfold qX5_takeSign_J53
    refine ⟨r4, ⟨fun c => ⟨fun c2 => hQ _ _ h1 (r1.mono (by omega)), fun c2 => ?_⟩, fun c => ?_⟩⟩
    · refine sX5_release h1 hk2 (by omega) r1 ?_
      intro M7 h7 r7 _
      exact ⟨r3, H _ _ h7 r7⟩
    · refine sX5_release h1 hk2 (by omega) r1 ?_
      intro M12 h12 r12 _
      refine sX5_latestBinding h12 ?_
      intro z _
      try intro _
      refine ⟨fun c2 => ⟨r3, H _ _ h12 r12⟩, fun c2 => hQ _ _ h12 (r12.mono (by omega))⟩
  unfold qX5_takeSign
  refine sX9_look hI ?_
  intro x1 p1 q1
  refine sX5_bindingOf (p0 := x1) hI ?_
  intro x2 p2 q2
  refine ⟨fun c => J53 _ _ _ hI hR q1 q2, fun c => ?_⟩
  intro x18 e18 _
  refine ⟨fun c2 => J53 _ _ _ hI hR q1 q2, fun c2 => ?_⟩
  refine sX5_release hI hk2 (by omega) hR ?_
  intro M20 h20 r20 d20 x21 e21 _
  have b21 : 0 ≤ x21 ∧ x21 ≤ 40 := by rw [e21]; exact bx_c185_1.mp (h20.bx _ _)
  have p := prn_nn (M20 186) (M20 185 1).toNat
  have r2 := r20.2
  have r1 := r20.1
  have n1 : 1 ≤ x21 := by omega
  refine ⟨(by omega), ?_⟩
  intro M23 h23
  have i23 : IX M23 := by rw [h23]; exact h20.up (by decide) (bx_c185_1.mpr (by omega))
  intro x24 e24 _
  have f24 : x24 = M20 185 2 := by rw [e24, h23, up2_j (by decide)]
  have b24 : 0 ≤ x24 ∧ x24 ≤ 4 := by rw [e24]; exact bx_c185_2.mp (i23.bx _ _)
  refine ⟨(by omega), ?_⟩
  intro M26 h26
  have i26 : IX M26 := by rw [h26]; exact i23.up (by decide) (bx_c185_2.mpr (by omega))
  refine J116 _ i26 ?_
  have k1 : M26 185 1 = x21 - 1 := by rw [h26, up2_j (by decide), h23, up2_s]
  have k2' : M26 185 2 = x24 - 1 := by rw [h26, up2_s]
  have k3 : M26 186 = M20 186 := by rw [h26, up2_n (by decide), h23, up2_n (by decide)]
  refine ⟨by rw [k1]; omega, ?_⟩
  rw [k1, k2', k3]
  have k4 : (M20 185 1).toNat = (x21 - 1).toNat + 1 := by omega
  rw [k4] at r2
  unfold prn at r2
  split at r2 <;> omega
theorem sX5_takeThing {k2 : Nat} {v : Int} {M : Mem} {Q : Int → Mem → Prop} (hI : IX M) (hk2 : isL k2) (hv : v < 40) (hR : RI M v) (hQ : ∀ z : Int, ∀ M' : Mem, IX M' → RI M' (v + 1) → Q z M') : qX5_takeThing k2 M Q := by
  have ne5 : ∀ i, i = 185 ∨ i = 186 → ¬ (i = k2 ∨ i = k2 + 1 ∨ i = k2 + 2) := by intro i hi; rcases hk2 with rfl | rfl <;> omega
  have J121 : ∀ M1 : Mem, IX M1 → RI M1 (v + 1) → qX5_takeThing_J121 k2 Q M1 := by
    intro M1 h1 r1
    unfold qX5_takeThing_J121
    refine sX9_pass h1 ?_
    intro M2 h2 g2
    exact hQ _ _ h2 (r1.fr (g2 185 (by decide)) (g2 186 (by decide)))
  have J101 : ∀ (t0 : Int) (M1 : Mem), IX M1 → RI M1 v → iR t0 → t0 ≤ 6 → qX5_takeThing_J101 k2 Q t0 M1 := by
    intro t0 M1 h1 r1 rt h6
    unfold qX5_takeThing_J101
    refine ⟨rt, ⟨fun c => ?_, fun c => hQ _ _ h1 (r1.mono (by omega))⟩⟩
    refine sX2_addLetter (p1 := t0) h1 hk2 (by omega) ?_
    intro M13 h13 g13 M14 e14
    have h14 : IX M14 := by rw [e14]; exact h13.up (by decide) (by simp [BX])
    refine J121 _ h14 ?_
    rw [e14]
    exact ((r1.mono (by omega)).fr (g13 185 (ne5 _ (Or.inl rfl))) (g13 186 (ne5 _ (Or.inr rfl)))).fl
  have J83 : ∀ (v4 : Int) (M1 : Mem), IX M1 → RI M1 v → -1 ≤ v4 ∧ v4 ≤ 255 → qX5_takeThing_J83 k2 Q v4 M1 := by
    intro v4 M1 h1 r1 hv4
    unfold qX5_takeThing_J83
    refine ⟨(by omega), ⟨fun c => ⟨by omega, by omega, ?_⟩, fun c => J101 _ _ h1 r1 (by decide) (by decide)⟩⟩
    intro x10 e10 r10
    have f10 := ixS_0 v4
    rw [← e10] at f10
    exact J101 _ _ h1 r1 r10 f10.2
  unfold qX5_takeThing
  refine sX9_number (p1 := 3) hI (by omega) ?_
  intro x1 M1 h1 g1 p1 q1
  have r1 : RI M1 v := hR.fr (g1 185 (by decide)) (g1 186 (by decide))
  refine ⟨fun c => ?_, fun c => ?_⟩
  · refine sX9_look h1 ?_
    intro x3 p3 q3
    refine ⟨fun c3 => ⟨fun c4 => J83 _ _ h1 r1 p3, fun c4 => ?_⟩, fun c3 => ?_⟩
    · intro x16 e16 _
      have b16 : 0 ≤ x16 ∧ x16 ≤ 4 := by rw [e16]; exact bx_c185_2.mp (h1.bx _ _)
      refine ⟨fun c5 => J83 _ _ h1 r1 p3, fun c5 => ?_⟩
      intro x18 e18 _
      refine ⟨(by omega), ?_⟩
      intro M20 e20
      have h20 : IX M20 := by rw [e20]; exact h1.up (by decide) (bx_c185_2.mpr (by omega))
      have k1 : M20 185 1 = M1 185 1 := by rw [e20, up2_j (by decide)]
      have k2' : M20 185 2 = M1 185 2 + 1 := by rw [e20, up2_s, e18]
      have k3 : M20 186 = M1 186 := by rw [e20, up2_n (by decide)]
      -- the one that is opened is not yet among the held ones
      have hold := r1
      unfold qX5_hold
      intro y1 f1 _
      have b1 : 0 ≤ y1 ∧ y1 ≤ 40 := by rw [f1]; exact bx_c185_1.mp (h20.bx _ _)
      have r11 := r1.1
      refine ⟨fun c => by omega, fun c => ?_⟩
      intro y3 f3 _
      refine ⟨by omega, by omega, ?_⟩
      intro M6 h6 y7 f7 _
      have g7 : y7 = y3 := by rw [f7, h6, up2_n (by decide), f3]
      have hM6 : IX M6 := by rw [h6]; exact h20.up (by decide) (by simp [BX])
      refine ⟨(by omega), ?_⟩
      intro M9 h9
      have hM9 : IX M9 := by rw [h9]; exact hM6.up (by decide) (bx_c185_1.mpr (by omega))
      refine J121 _ hM9 ?_
      have n1 : M9 185 1 = y3 + 1 := by rw [h9, up2_s, g7]
      have n2 : M9 185 2 = M1 185 2 + 1 := by rw [h9, up2_j (by decide), h6, up2_n (by decide), k2']
      have n3 : M9 186 = M6 186 := by rw [h9, up2_n (by decide)]
      refine ⟨by rw [n1]; omega, ?_⟩
      rw [n1, n2, n3, show (y3 + 1).toNat = y3.toNat + 1 from by omega]
      show _ ≤ prn (M6 186) y3.toNat + (if M6 186 (y3.toNat : Nat) = 40 then 1 else 0)
      rw [show ((y3.toNat : Nat) : Int) = y3 from by omega, show M6 186 y3 = x3 from by rw [h6, up2_s], if_pos c4, prn_cg (f := M6 186) (g := M1 186) y3.toNat (fun j a b => by rw [h6, up2_j (by omega), k3])]
      have := r1.2
      rw [← k1, ← f3] at this
      omega
    · refine sX5_hold h1 hv r1 ?_
      intro M22 h22 a1 a2 a3
      refine J121 _ h22 ⟨a1, ?_⟩
      rw [a2]
      have := r1.2
      rw [if_neg (by decide)] at a3
      omega
  · refine sX2_add (p1 := 300) (p2 := x1) h1 hk2 (by omega) ?_
    intro M23 h23 g23 M24 e24
    have h24 : IX M24 := by rw [e24]; exact h23.up (by decide) (by simp [BX])
    refine hQ _ _ h24 ?_
    rw [e24]
    exact ((r1.mono (by omega)).fr (g23 185 (ne5 _ (Or.inl rfl))) (g23 186 (ne5 _ (Or.inr rfl)))).fl
theorem sX5_read_L40 {k2 : Nat} {X92 : Mem → Prop} {Q : Int → Mem → Prop} (hk2 : isL k2) (hQ : ∀ z : Int, ∀ M' : Mem, IX M' → (-1 ≤ z ∧ z ≤ 80) → Q z M') (hX92 : ∀ M' : Mem, IX M' → RI M' 40 → X92 M') : ∀ (n : Nat) (v3 : Int) (M : Mem), IX M → RI M v3 → (0 ≤ v3 ∧ v3 ≤ 40) → 40 - v3 < (n : Int) → qX5_read_L40 k2 X92 Q n v3 M := by
  intro n
  induction n with
  | zero => intro v3 M hI hR hv hm; exact absurd hm (by omega)
  | succ n ih =>
    intro v3 M hI hR hv hm
    rw [qX5_read_L40]
    refine ⟨(by omega), ⟨fun c => hX92 _ hI (hR.mono (by omega)), fun c => ?_⟩⟩
    refine sX9_isRead hI ?_
    intro x10 q1 q2
    refine ⟨fun c2 => hX92 _ hI (hR.mono (by omega)), fun c2 => ?_⟩
    intro x12 e12 _
    refine ⟨fun c3 => ?_, fun c3 => ?_⟩
    · refine sX5_takeSign hI hk2 (by omega) hR ?_
      intro x14 M14 h14 r14 q3 q4
      refine ⟨fun c4 => ih _ _ h14 r14 (by omega) (by omega), fun c4 => ?_⟩
      intro x16 e16 _
      exact hQ _ _ h14 (by have := bx_c156_2.mp (h14.bx 156 2); omega)
    · refine sX5_takeThing hI hk2 (by omega) hR ?_
      intro x17 M17 h17 r17 q3 q4
      refine ⟨fun c4 => ?_, fun c4 => ih _ _ h17 r17 (by omega) (by omega)⟩
      intro x19 e19 _
      exact hQ _ _ h17 (by have := bx_c156_2.mp (h17.bx 156 2); omega)
theorem sX5_read {k2 : Nat} {M : Mem} {Q : Int → Mem → Prop} (hI : IX M) (hk2 : isL k2) (hQ : ∀ z : Int, ∀ M' : Mem, IX M' → (-1 ≤ z ∧ z ≤ 80) → Q z M') : qX5_read k2 M Q := by
  unfold qX5_read
  refine sX9_isEmpty hI ?_
  intro x1 q1 q2
  refine ⟨fun c => ?_, fun c => ?_⟩
  · refine sX2_clear hI hk2 ?_
    intro M3 h3 M4 e4 M5 e5 M6 e6
    have h4 : IX M4 := by rw [e4]; exact h3.up (by decide) (bx_c185_1.mpr (by decide))
    have h5 : IX M5 := by rw [e5]; exact h4.up (by decide) (bx_c185_2.mpr (by decide))
    have h6 : IX M6 := by rw [e6]; exact h5.up (by decide) (by simp [BX])
    refine sX9_open (p1 := 40) h6 (by omega) ?_
    intro M7 h7 g7
    refine ⟨41, ?_⟩
    refine sX5_read_L40 hk2 hQ ?_ _ _ _ h7 ?_ (by omega) (by omega)
    · intro M8 h8 r8
      unfold qX5_read_J92
      intro x21 e21 _
      refine ⟨fun c1 => fun x23 e23 _ => hQ _ _ h8 (by have := bx_c156_2.mp (h8.bx 156 2); omega), fun c1 => ?_⟩
      intro x24 e24 _
      refine ⟨fun c2 => fun x26 e26 _ => hQ _ _ h8 (by have := bx_c156_2.mp (h8.bx 156 2); omega), fun c2 => ?_⟩
      refine sX9_isWhole h8 ?_
      intro x27 q3 q4
      refine ⟨fun c3 => ?_, fun c3 => fun x30 e30 _ => hQ _ _ h8 (by have := bx_c156_2.mp (h8.bx 156 2); omega)⟩
      refine sX5_release h8 hk2 (by omega) r8 ?_
      intro M29 h29 _ _
      exact hQ _ _ h29 (by decide)
    · have k1 : M7 185 = M6 185 := g7 185 (by decide)
      refine ⟨?_, ?_⟩
      · rw [k1, e6, up2_j (by decide), e5, up2_j (by decide), e4, up2_s]
        decide
      · have p := prn_nn (M7 186) (M7 185 1).toNat
        have : M7 185 2 = 0 := by rw [k1, e6, up2_j (by decide), e5, up2_s]
        omega
  · refine sX2_becomePlain hI hk2 ?_
    intro M31 h31
    exact hQ _ _ h31 (by decide)
end
section
theorem sX11_draw {p1 : Int} {M : Mem} {Q : Int → Mem → Prop} (hI : IX M) (hp : p1 ≤ 100) (hQ : ∀ z : Int, ∀ M' : Mem, IX M' → (0 ≤ z ∧ z ≤ 99 ∧ (1 ≤ p1 → z ≤ p1 - 1)) → Q z M') : qX11_draw p1 M Q := by
  unfold qX11_draw
  intro x1_2880 ex1_2880 rx1_2880
  have bx1_2880 : -2147483648 ≤ x1_2880 ∧ x1_2880 ≤ 2147483647 := rx1_2880
  intro x2_2881 ex2_2881 rx2_2881
  first | (have fx2_2881 : x2_2881 = x1_2880 * 1103515245 := by rw [ex2_2881]; exact w32_id (by omega)) | skip
  intro x3_2882 ex3_2882 rx3_2882
  first | (have fx3_2882 : x3_2882 = x2_2881 + 12345 := by rw [ex3_2882]; exact w32_id (by omega)) | skip
  intro M4_2883 h_M4_2883
  have hM4_2883 : IX M4_2883 := by rw [h_M4_2883]; exact hI.up15 (by decide)
  refine ⟨fun c => ?_, fun c => ?_⟩
  · intro x6_2885 ex6_2885 rx6_2885
    have bx6_2885 : -2147483648 ≤ x6_2885 ∧ x6_2885 ≤ 2147483647 := rx6_2885
    have fx6_2885 : x6_2885 = x3_2882 := by rw [ex6_2885, h_M4_2883, up2_s]
    intro x7_2886 ex7_2886 rx7_2886
    have fx7_2886 := usI_16 x6_2885; rw [← ex7_2886] at fx7_2886
    refine ⟨by omega, ?_⟩
    intro x9_2887 ex9_2887 rx9_2887
    first | (have fx9_2887 := rmI_b (a := x7_2886) (b := p1) (by omega) (by omega); rw [← ex9_2887] at fx9_2887) | skip
    exact hQ _ _ hM4_2883 (by omega)
  · exact hQ _ _ hM4_2883 (by omega)
theorem sX11_years_L31 {p1 : Int} {p2 : Int} {X155 : Mem → Prop} {Q : Int → Mem → Prop} (hQ : ∀ z : Int, ∀ M' : Mem, IX M' → Q z M') (hX155 : ∀ M' : Mem, IX M' → X155 M') : ∀ (n : Nat) (v3 : Int) (M : Mem), IX M → (0 ≤ v3 ∧ v3 ≤ 60 ∧ p2 ≤ 60) → 60 - v3 < (n : Int) → qX11_years_L31 p1 p2 X155 Q n v3 M := by
  intro n
  induction n with
  | zero => intro v3 M hI hv hm; exact absurd hm (by omega)
  | succ n ih =>
    intro v3 M hI hv hm
    rw [qX11_years_L31]
    refine ⟨(by first | assumption | exact (by omega)), ?_⟩
    refine ⟨fun c => ?_, fun c => ?_⟩
    · exact hX155 _ hI
    · refine sX11_draw (p1 := 4) hI (by omega) ?_
      intro x7_2891 M7_2892 hM7_2892 p2893 q2894
      refine ⟨fun c => ?_, fun c => ?_⟩
      · refine ⟨fun c => ?_, fun c => ?_⟩
        · intro x10_2897 ex10_2897 rx10_2897
          have bx10_2897 : 0 ≤ x10_2897 ∧ x10_2897 ≤ 8 := by rw [ex10_2897]; exact (bx_s0_7 (show isS 8 by decide)).mp (hM7_2892.bx _ _)
          refine ⟨fun c => ?_, fun c => ?_⟩
          · exact ih _ _ hM7_2892 (by omega) (by omega)
          · intro x12_2900 ex12_2900 rx12_2900
            have bx12_2900 : 0 ≤ x12_2900 ∧ x12_2900 ≤ 8 := by rw [ex12_2900]; exact (bx_s0_7 (show isS 8 by decide)).mp (hM7_2892.bx _ _)
            refine sX11_draw (p1 := x12_2900) hM7_2892 (by omega) ?_
            intro x13_2901 M13_2902 hM13_2902 p2903 q2904
            refine sX11_draw (p1 := 5) hM13_2902 (by omega) ?_
            intro x14_2905 M14_2906 hM14_2906 p2907 q2908
            refine ⟨(by first | assumption | exact (by omega)), ?_⟩
            refine sX6_shove (p1 := x13_2901) (p2 := x14_2905 - 2) hM14_2906 (show isS 8 by decide) ?_
            intro x16_2909 M16_2910 hM16_2910 q2911
            exact ih _ _ hM16_2910 (by omega) (by omega)
        · intro x17_2913 ex17_2913 rx17_2913
          have bx17_2913 : 0 ≤ x17_2913 ∧ x17_2913 ≤ 8 := by rw [ex17_2913]; exact (bx_s0_7 (show isS 8 by decide)).mp (hM7_2892.bx _ _)
          refine ⟨fun c => ?_, fun c => ?_⟩
          · exact ih _ _ hM7_2892 (by omega) (by omega)
          · intro x19_2916 ex19_2916 rx19_2916
            have bx19_2916 : 0 ≤ x19_2916 ∧ x19_2916 ≤ 8 := by rw [ex19_2916]; exact (bx_s0_7 (show isS 8 by decide)).mp (hM7_2892.bx _ _)
            refine sX11_draw (p1 := x19_2916) hM7_2892 (by omega) ?_
            intro x20_2917 M20_2918 hM20_2918 p2919 q2920
            refine sX6_turn (p1 := x20_2917) hM20_2918 (show isS 8 by decide) ?_
            intro x21_2921 M21_2922 hM21_2922 q2923
            exact ih _ _ hM21_2922 (by omega) (by omega)
      · refine ⟨(hM7_2892).l16, ?_⟩
        refine sX10_advance  hM7_2892 (show isS 8 by decide) (hM7_2892).l16 ?_
        intro M23_2925 hM23_2925
        exact ih _ _ hM23_2925 (by omega) (by omega)
theorem sX11_years {p1 : Int} {p2 : Int} {M : Mem} {Q : Int → Mem → Prop} (hI : IX M) (hQ : ∀ z : Int, ∀ M' : Mem, IX M' → Q z M') : qX11_years p1 p2 M Q := by
  unfold qX11_years
  refine ⟨fun c => ?_, fun c => ?_⟩
  · exact hQ _ _ hI
  · refine ⟨fun c => ?_, fun c => ?_⟩
    · refine sX6_copyFrom  hI (show isS 8 by decide) (show isS 1 by decide) ?_
      intro M3_2929 hM3_2929 gM3_2929
      intro M4_2930 h_M4_2930
      have hM4_2930 : IX M4_2930 := by rw [h_M4_2930]; exact hM3_2929.up15 (by decide)
      refine ⟨61, ?_⟩
      refine sX11_years_L31 ?_ ?_ _ _ _ hM4_2930 (by omega) (by omega)
      · exact hQ
      · intro M_2931 hM_2931
        intro x25_2932 ex25_2932 rx25_2932
        have bx25_2932 : -2147483648 ≤ x25_2932 ∧ x25_2932 ≤ 2147483647 := rx25_2932
        refine sX6_rightBits  hM_2931 (show isS 8 by decide) ?_
        intro x26_2933 q2934
        refine sJ6_bitCount_0f7a4 (p0 := x26_2933) hM_2931  ?_
        intro x27_2935 p2936 q2937
        refine sX4_tellTwo (p1 := x25_2932) (p3 := x27_2935) hM_2931  ?_
        intro M28_2938 hM28_2938
        intro x29_2939 ex29_2939 rx29_2939
        have bx29_2939 : -2147483648 ≤ x29_2939 ∧ x29_2939 ≤ 2147483647 := rx29_2939
        exact hQ _ _ hM28_2938
    · exact hQ _ _ hI
theorem sX11_count {p1 : Int} {M : Mem} {Q : Int → Mem → Prop} (hI : IX M) (hQ : ∀ z : Int, Q z M) : qX11_count p1 M Q := by
  unfold qX11_count
  refine ⟨fun c => ?_, fun c => ?_, fun c => ?_, fun c => ?_, fun c => ?_, fun c => ?_, fun c => ?_, fun c => ?_, fun c => ?_, fun c => ?_, fun c => ?_, fun c => ?_, fun c => ?_, fun c => ?_⟩
  · intro x2_2965 ex2_2965 rx2_2965
    have bx2_2965 : 4 ≤ x2_2965 ∧ x2_2965 ≤ 30 := by rw [ex2_2965]; exact (bx_c158_1).mp (hI.bx _ _)
    exact hQ _
  · intro x3_2967 ex3_2967 rx3_2967
    have bx3_2967 : 0 ≤ x3_2967 ∧ x3_2967 ≤ 6 := by rw [ex3_2967]; exact (bx_s0_6 (show isS 1 by decide)).mp (hI.bx _ _)
    exact hQ _
  · intro x4_2969 ex4_2969 rx4_2969
    have bx4_2969 : 0 ≤ x4_2969 ∧ x4_2969 ≤ 8 := by rw [ex4_2969]; exact (bx_s0_7 (show isS 1 by decide)).mp (hI.bx _ _)
    exact hQ _
  · intro x5_2971 ex5_2971 rx5_2971
    have bx5_2971 : -2147483648 ≤ x5_2971 ∧ x5_2971 ≤ 2147483647 := rx5_2971
    exact hQ _
  · intro x6_2973 ex6_2973 rx6_2973
    have bx6_2973 : -2147483648 ≤ x6_2973 ∧ x6_2973 ≤ 2147483647 := rx6_2973
    exact hQ _
  · intro x7_2975 ex7_2975 rx7_2975
    have bx7_2975 : -2147483648 ≤ x7_2975 ∧ x7_2975 ≤ 2147483647 := rx7_2975
    exact hQ _
  · refine sX6_rightBits  hI (show isS 1 by decide) ?_
    intro x8_2977 q2978
    refine sJ6_bitCount_0f7a4 (p0 := x8_2977) hI  ?_
    intro x9_2979 p2980 q2981
    exact hQ _
  · intro x10_2983 ex10_2983 rx10_2983
    have bx10_2983 : -2147483648 ≤ x10_2983 ∧ x10_2983 ≤ 2147483647 := rx10_2983
    refine sJ6_bitCount_0f7a4 (p0 := x10_2983) hI  ?_
    intro x11_2984 p2985 q2986
    exact hQ _
  · intro x12_2988 ex12_2988 rx12_2988
    have bx12_2988 : -2147483648 ≤ x12_2988 ∧ x12_2988 ≤ 2147483647 := rx12_2988
    refine sX8_weatherAt (p1 := x12_2988) hI (by omega) ?_
    intro x13_2989 q2990
    exact hQ _
  · intro x14_2992 ex14_2992 rx14_2992
    have bx14_2992 : 0 ≤ x14_2992 ∧ x14_2992 ≤ 8 := by rw [ex14_2992]; exact (bx_c182_2).mp (hI.bx _ _)
    exact hQ _
  · intro x15_2994 ex15_2994 rx15_2994
    have bx15_2994 : 0 ≤ x15_2994 ∧ x15_2994 ≤ 15 := by rw [ex15_2994]; exact (bx_c163_2).mp (hI.bx _ _)
    exact hQ _
  · intro x16_2996 ex16_2996 rx16_2996
    have bx16_2996 : 0 ≤ x16_2996 ∧ x16_2996 ≤ 8 := by rw [ex16_2996]; exact (bx_c167_1).mp (hI.bx _ _)
    exact hQ _
  · intro x17_2998 ex17_2998 rx17_2998
    have bx17_2998 : 0 ≤ x17_2998 ∧ x17_2998 ≤ 80 := by rw [ex17_2998]; exact (bx_c156_1).mp (hI.bx _ _)
    exact hQ _
  · exact hQ _
theorem sX11_paceNow {p1 : Int} {M : Mem} {Q : Int → Mem → Prop} (hI : IX M) (hp : 0 ≤ p1 ∧ p1 ≤ 5) (hQ : ∀ z : Int, ∀ M' : Mem, IX M' → Q z M') : qX11_paceNow p1 M Q := by
  unfold qX11_paceNow
  refine sX6_hasArrived (p1 := p1) hI (show isS 1 by decide) (by omega) ?_
  intro x1_3000 q3001 q3002
  refine ⟨fun c => ?_, fun c => ?_⟩
  · refine ⟨(hI).l16, ?_⟩
    refine sX2_observe (p3 := p1) hI (hI).l16 (show isS 1 by decide) (by omega) ?_
    intro M4_3004 hM4_3004
    refine ⟨(hM4_3004).l16, ?_⟩
    refine sX2_pace  hM4_3004 (hM4_3004).l16 ?_
    intro x6_3005 M6_3006 hM6_3006 p3007 q3008
    exact hQ _ _ hM6_3006
  · exact hQ _ _ hI
end
section
/-! SPECS of the reference: its boxes -/
def FrJ (P : Nat → Int → Prop) (M M' : Mem) : Prop := ∀ k j, ¬ P k j → M' k j = M k j
theorem FrJ.rf {P : Nat → Int → Prop} {M : Mem} : FrJ P M M := fun _ _ _ => rfl
theorem FrJ.tr {P : Nat → Int → Prop} {M M1 M2 : Mem} (h : FrJ P M M1) (h2 : FrJ P M1 M2) : FrJ P M M2 := fun i j hi => (h2 i j hi).trans (h i j hi)
theorem FrJ.mono {P P' : Nat → Int → Prop} {M M' : Mem} (h : FrJ P M M') (hP : ∀ i j, P i j → P' i j) : FrJ P' M M' := fun i j hi => h i j (fun q => hi (hP i j q))
theorem FrJ.up {P : Nat → Int → Prop} {M M' : Mem} (h : FrJ P M M') {k : Nat} {j v : Int} (hk : P k j) : FrJ P M (up2 M' k j v) := fun i j' hi => by
  rw [up2_a]
  by_cases c : i = k
  · by_cases c2 : j' = j
    · exact absurd (by rw [c, c2]; exact hk) hi
    · rw [if_pos c, if_neg c2]; exact h i j' hi
  · rw [if_neg c]; exact h i j' hi
abbrev isN (k : Nat) : Prop := k = 5 ∨ k = 6
/-- a number of a scene of the reference, by its place -/
def BN (b j v : Int) : Prop := (0 ≤ j ∧ j ≤ 5 → -1 ≤ v ∧ v ≤ 29) ∧ (13 ≤ j ∧ j ≤ 20 → -1 ≤ v ∧ v ≤ 29) ∧ (21 ≤ j ∧ j ≤ 28 → -1 ≤ v ∧ v ≤ 5) ∧ (j = 37 → 0 ≤ v ∧ v ≤ b)
theorem BN.mono {b b' j v : Int} (h : BN b j v) (hb : b ≤ b') : BN b' j v := ⟨h.1, h.2.1, h.2.2.1, fun c => ⟨(h.2.2.2 c).1, by have := (h.2.2.2 c).2; omega⟩⟩
def BM (b : Int) (k : Nat) (j v : Int) : Prop := if k = 5 ∨ k = 6 then BN b j v else if k = 15 ∨ k = 31 then BN b (j % 38) v else if k = 1 then (if j = 1 then 0 ≤ v ∧ v ≤ 24 else if j = 3 then 4 ≤ v ∧ v ≤ 30 else if j = 4 then 0 ≤ v ∧ v ≤ 6 else if j = 5 then 0 ≤ v ∧ v ≤ 8 else if j = 6 then 0 ≤ v ∧ v ≤ b else if j = 7 then 1 ≤ v ∧ v ≤ 20 else if j = 14 then 0 ≤ v ∧ v ≤ 80 else if j = 15 then 0 ≤ v ∧ v ≤ 80 else if j = 16 then 0 ≤ v ∧ v ≤ 80 else if j = 20 then 0 ≤ v ∧ v ≤ 8 else if j = 24 then 0 ≤ v ∧ v ≤ 80 else if j = 25 then 0 ≤ v ∧ v ≤ 80 else if j = 28 then 0 ≤ v ∧ v ≤ 15 else if j = 35 then 0 ≤ v ∧ v ≤ 6 else if j = 39 then 0 ≤ v ∧ v ≤ 60 else if j = 45 then 0 ≤ v ∧ v ≤ 8 else True) else if k = 3 then 0 ≤ v ∧ v ≤ 5 else if k = 7 then 0 ≤ v ∧ v ≤ 255 else if k = 8 then 0 ≤ v ∧ v ≤ 1 else if k = 9 then -1 ≤ v ∧ v ≤ 29 else if k = 18 then 0 ≤ v ∧ v ≤ 5 else if k = 20 then -1 ≤ v ∧ v ≤ 9 else if k = 21 then -100 ≤ v ∧ v ≤ 300 else if k = 22 then -1 ≤ v ∧ v ≤ 29 else True
theorem bm_n {b : Int} {k : Nat} (h : isN k) {j v : Int} : BM b k j v ↔ BN b j v := by unfold BM; rw [if_pos h]
theorem bm_c15 {b j v : Int} : BM b 15 j v ↔ BN b (j % 38) v := by simp [BM]
theorem bm_c31 {b j v : Int} : BM b 31 j v ↔ BN b (j % 38) v := by simp [BM]
theorem bm_c1_1 {b v : Int} : BM b 1 1 v ↔ (0 ≤ v ∧ v ≤ 24) := by simp [BM]
theorem bm_c1_3 {b v : Int} : BM b 1 3 v ↔ (4 ≤ v ∧ v ≤ 30) := by simp [BM]
theorem bm_c1_4 {b v : Int} : BM b 1 4 v ↔ (0 ≤ v ∧ v ≤ 6) := by simp [BM]
theorem bm_c1_5 {b v : Int} : BM b 1 5 v ↔ (0 ≤ v ∧ v ≤ 8) := by simp [BM]
theorem bm_c1_6 {b v : Int} : BM b 1 6 v ↔ (0 ≤ v ∧ v ≤ b) := by simp [BM]
theorem bm_c1_7 {b v : Int} : BM b 1 7 v ↔ (1 ≤ v ∧ v ≤ 20) := by simp [BM]
theorem bm_c1_14 {b v : Int} : BM b 1 14 v ↔ (0 ≤ v ∧ v ≤ 80) := by simp [BM]
theorem bm_c1_15 {b v : Int} : BM b 1 15 v ↔ (0 ≤ v ∧ v ≤ 80) := by simp [BM]
theorem bm_c1_16 {b v : Int} : BM b 1 16 v ↔ (0 ≤ v ∧ v ≤ 80) := by simp [BM]
theorem bm_c1_20 {b v : Int} : BM b 1 20 v ↔ (0 ≤ v ∧ v ≤ 8) := by simp [BM]
theorem bm_c1_24 {b v : Int} : BM b 1 24 v ↔ (0 ≤ v ∧ v ≤ 80) := by simp [BM]
theorem bm_c1_25 {b v : Int} : BM b 1 25 v ↔ (0 ≤ v ∧ v ≤ 80) := by simp [BM]
theorem bm_c1_28 {b v : Int} : BM b 1 28 v ↔ (0 ≤ v ∧ v ≤ 15) := by simp [BM]
theorem bm_c1_35 {b v : Int} : BM b 1 35 v ↔ (0 ≤ v ∧ v ≤ 6) := by simp [BM]
theorem bm_c1_39 {b v : Int} : BM b 1 39 v ↔ (0 ≤ v ∧ v ≤ 60) := by simp [BM]
theorem bm_c1_45 {b v : Int} : BM b 1 45 v ↔ (0 ≤ v ∧ v ≤ 8) := by simp [BM]
theorem bm_c3 {b j v : Int} : BM b 3 j v ↔ (0 ≤ v ∧ v ≤ 5) := by simp [BM]
theorem bm_c7 {b j v : Int} : BM b 7 j v ↔ (0 ≤ v ∧ v ≤ 255) := by simp [BM]
theorem bm_c8 {b j v : Int} : BM b 8 j v ↔ (0 ≤ v ∧ v ≤ 1) := by simp [BM]
theorem bm_c9 {b j v : Int} : BM b 9 j v ↔ (-1 ≤ v ∧ v ≤ 29) := by simp [BM]
theorem bm_c18 {b j v : Int} : BM b 18 j v ↔ (0 ≤ v ∧ v ≤ 5) := by simp [BM]
theorem bm_c20 {b j v : Int} : BM b 20 j v ↔ (-1 ≤ v ∧ v ≤ 9) := by simp [BM]
theorem bm_c21 {b j v : Int} : BM b 21 j v ↔ (-100 ≤ v ∧ v ≤ 300) := by simp [BM]
theorem bm_c22 {b j v : Int} : BM b 22 j v ↔ (-1 ≤ v ∧ v ≤ 29) := by simp [BM]
/-- how many wait after n rows of code -/
def dpc (f : Int → Int) : Nat → Int
  | 0 => 0
  | n + 1 => dpc f n + (if f n = 3000 then 0 else if f n < 2000 then 1 else -1)
/-- code that can be worked: nothing is taken that does not wait, letters are seven -/
def WFC (f : Int → Int) (n : Int) : Prop := ∀ j : Nat, (j : Int) < n → (f j = 3000 → 1 ≤ dpc f j) ∧ (2000 ≤ f j → f j ≠ 3000 → 2 ≤ dpc f j) ∧ (1000 ≤ f j → f j < 2000 → f j < 1007)
def IB (b : Int) (M : Mem) : Prop := ∀ k j, BM b k j (M k j)
def IM (b : Int) (M : Mem) : Prop := IB b M ∧ WFC (M 11) (M 1 24)
theorem IM.bx {b : Int} {M : Mem} (h : IM b M) (k : Nat) (j : Int) : BM b k j (M k j) := h.1 k j
theorem IB.up {b : Int} {M : Mem} (h : IB b M) {k : Nat} {j v : Int} (hv : BM b k j v) : IB b (up2 M k j v) := by
  intro k' j'
  rw [up2_a]
  by_cases c : k' = k
  · rw [if_pos c]
    by_cases c2 : j' = j
    · rw [if_pos c2, c, c2]; exact hv
    · rw [if_neg c2]; exact h k' j'
  · rw [if_neg c]; exact h k' j'
theorem IM.up {b : Int} {M : Mem} (h : IM b M) {k : Nat} {j v : Int} (hs : k ≠ 11 ∧ (k = 1 → j ≠ 24)) (hv : BM b k j v) : IM b (up2 M k j v) := by
  refine ⟨h.1.up hv, ?_⟩
  have h2 : up2 M k j v 1 24 = M 1 24 := by
    rw [up2_a]
    by_cases c : (1 : Nat) = k
    · rw [if_pos c, if_neg (fun q => hs.2 c.symm q.symm)]
    · rw [if_neg c]
  rw [up2_n (fun q => hs.1 q.symm), h2]
  exact h.2
theorem IB.mono {b b' : Int} {M : Mem} (h : IB b M) (hb : b ≤ b') : IB b' M := by
  intro k j
  by_cases c : isN k
  · exact (bm_n c).mpr (((bm_n c).mp (h k j)).mono hb)
  · by_cases c15 : k = 15
    · subst c15; exact bm_c15.mpr ((bm_c15.mp (h 15 j)).mono hb)
    · by_cases c31 : k = 31
      · subst c31; exact bm_c31.mpr ((bm_c31.mp (h 31 j)).mono hb)
      · by_cases c6 : k = 1 ∧ j = 6
        · obtain ⟨rfl, rfl⟩ := c6
          have := bm_c1_6.mp (h 1 6)
          exact bm_c1_6.mpr ⟨by omega, by omega⟩
        · have q := h k j
          unfold BM at q ⊢
          rw [if_neg c, if_neg (by omega)] at q ⊢
          by_cases c1 : k = 1
          · rw [if_pos c1] at q ⊢
            by_cases d6 : j = 6
            · exact absurd ⟨c1, d6⟩ c6
            · rw [if_neg d6] at *
              exact q
          · rw [if_neg c1] at q ⊢
            exact q
theorem IM.mono {b b' : Int} {M : Mem} (h : IM b M) (hb : b ≤ b') : IM b' M := ⟨h.1.mono hb, h.2⟩
theorem IM.nn {b : Int} {M : Mem} (h : IM b M) : 0 ≤ b := by have := bm_c1_6.mp (h.1 1 6); omega
theorem sJ6_bitCountM {p0 b : Int} {M : Mem} {Q : Int → Mem → Prop} (hI : IM b M) (hQ : ∀ z : Int, (0 ≤ z ∧ z ≤ 63) → Q z M) : qJ6_bitCount_0f7a4 p0 M Q := by
  unfold qJ6_bitCount_0f7a4
  intro x1 _ _ x2 _ _ x3 _ _ x4 _ _ x5 _ _ x6 _ _ x7 _ _ x8 _ _ x9 _ _ x10 e10 _
  exact hQ _ (by rw [e10]; exact aI_63 _)
theorem isN.nu {k : Nat} (h : isN k) (j : Int) : k ≠ 11 ∧ (k = 1 → j ≠ 24) := by
  rcases h with h | h
  · subst h; exact ⟨by decide, fun q => absurd q (by decide)⟩
  · subst h; exact ⟨by decide, fun q => absurd q (by decide)⟩
end
