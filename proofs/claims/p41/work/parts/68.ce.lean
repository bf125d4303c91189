section
theorem sX6_takeAway {k0 : Nat} {p1 : Int} {M : Mem} {Q : Mem → Prop} (hI : IX M) (hk0 : isS k0) (hp : 0 ≤ p1 ∧ p1 ≤ 5) (hQ : ∀ M' : Mem, IX M' → Q M') : qX6_takeAway k0 p1 M Q := by
  unfold qX6_takeAway
  have ek0 : 0 < k0 ∧ k0 < 155 ∧ (k0 - 1) % 7 = 0 := hk0
  refine sX6_arrive (p1 := p1) hI hk0 (by omega) ?_
  intro M1_2388 hM1_2388
  refine ⟨9, ?_⟩
  refine sX6_takeAway_L7 hk0 hp ?_ _ _ _ hM1_2388 (by omega) (by omega)
  · exact hQ
theorem sX11_misleads_L27  {X129 : Int → Int → Int → Mem → Prop} {Q : Int → Mem → Prop} (hQ : ∀ z : Int, ∀ M' : Mem, IX M' → Q z M') (hX129 : ∀ w1 w2 w3 : Int, ∀ M' : Mem, IX M' → (-1 ≤ w2 ∧ w2 ≤ 5 ∧ -1 ≤ w3 ∧ w3 ≤ 63) → X129 w1 w2 w3 M') : ∀ (n : Nat) (v1 v2 v3 v4 : Int) (M : Mem), IX M → (-1 ≤ v2 ∧ v2 ≤ 5 ∧ -1 ≤ v3 ∧ v3 ≤ 63 ∧ 0 ≤ v4 ∧ v4 ≤ 6) → 6 - v4 < (n : Int) → qX11_misleads_L27 X129 Q n v1 v2 v3 v4 M := by
  intro n
  induction n with
  | zero => intro v1 v2 v3 v4 M hI hv hm; exact absurd hm (by omega)
  | succ n ih =>
    intro v1 v2 v3 v4 M hI hv hm
    rw [qX11_misleads_L27]
    intro x4_2389 ex4_2389 rx4_2389
    have bx4_2389 : 0 ≤ x4_2389 ∧ x4_2389 ≤ 6 := by rw [ex4_2389]; exact (bx_s0_6 (show isS 1 by decide)).mp (hI.bx _ _)
    refine ⟨(by first | assumption | exact (by omega)), ?_⟩
    refine ⟨fun c => ?_, fun c => ?_⟩
    · exact hX129 _ _ _ _ hI (by omega)
    · refine sX6_hasArrived (p1 := v4) hI (show isS 1 by decide) (by omega) ?_
      intro x7_2392 q2393 q2394
      refine ⟨fun c => ?_, fun c => ?_⟩
      · exact ih _ _ _ _ _ hI (by omega) (by omega)
      · refine sX6_copyFrom  hI (show isS 8 by decide) (show isS 1 by decide) ?_
        intro M9_2397 hM9_2397 gM9_2397
        refine sX6_takeAway (p1 := v4) hM9_2397 (show isS 8 by decide) (by omega) ?_
        intro M10_2398 hM10_2398
        refine ⟨(hM10_2398).l16, ?_⟩
        refine sX11_rightOnesOfTrial  hM10_2398 (hM10_2398).l16 ?_
        intro x12_2399 M12_2400 hM12_2400 q2401
        refine sX6_bitsOf (p2 := v4) hM12_2400 (show isS 1 by decide) ?_
        intro x13_2402 q2403
        intro x14_2404 ex14_2404 rx14_2404
        intro x15_2405 ex15_2405 rx15_2405
        refine sJ6_bitCount_0f7a4 (p0 := x15_2405) hM12_2400  ?_
        intro x16_2406 p2407 q2408
        refine ⟨(by first | assumption | exact (by omega)), ?_⟩
        refine ⟨fun c => ?_, fun c => ?_⟩
        · unfold qX11_misleads_J115
          refine ⟨(by first | assumption | exact (by omega)), ?_⟩
          refine ⟨(by first | assumption | exact (by omega)), ?_⟩
          intro x21_2410 ex21_2410 rx21_2410
          exact ih _ _ _ _ _ hM12_2400 (by omega) (by omega)
        · unfold qX11_misleads_J115
          refine ⟨(by first | assumption | exact (by omega)), ?_⟩
          refine ⟨(by first | assumption | exact (by omega)), ?_⟩
          intro x21_2412 ex21_2412 rx21_2412
          exact ih _ _ _ _ _ hM12_2400 (by omega) (by omega)
theorem sX11_misleads  {M : Mem} {Q : Int → Mem → Prop} (hI : IX M) (hQ : ∀ z : Int, ∀ M' : Mem, IX M' → Q z M') : qX11_misleads M Q := by
  unfold qX11_misleads
  refine sX6_copyFrom  hI (show isS 8 by decide) (show isS 1 by decide) ?_
  intro M1_2413 hM1_2413 gM1_2413
  refine ⟨(hM1_2413).l16, ?_⟩
  refine sX11_rightOnesOfTrial  hM1_2413 (hM1_2413).l16 ?_
  intro x3_2414 M3_2415 hM3_2415 q2416
  refine ⟨7, ?_⟩
  refine sX11_misleads_L27 ?_ ?_ _ _ _ _ _ _ hM3_2415 (by omega) (by omega)
  · exact hQ
  · intro v1_2417 v2_2418 v3_2419 M_2420 hM_2420 p2421
    refine ⟨(by first | assumption | exact (by omega)), ?_⟩
    refine ⟨fun c => ?_, fun c => ?_⟩
    · refine ⟨(by first | assumption | exact (by omega)), ?_⟩
      refine sX6_bitsOf (p2 := v2_2418) hM_2420 (show isS 1 by decide) ?_
      intro x26_2423 q2424
      intro x27_2425 ex27_2425 rx27_2425
      intro x28_2426 ex28_2426 rx28_2426
      refine sJ6_bitCount_0f7a4 (p0 := x28_2426) hM_2420  ?_
      intro x29_2427 p2428 q2429
      refine sX4_tellTwo (p1 := v3_2419) (p3 := x29_2427) hM_2420  ?_
      intro M30_2430 hM30_2430
      exact hQ _ _ hM30_2430
    · exact hQ _ _ hM_2420
theorem sX11_crowd_L45  {X101 : Int → Int → Mem → Prop} {Q : Int → Mem → Prop} (hQ : ∀ z : Int, ∀ M' : Mem, IX M' → Q z M') (hX101 : ∀ w1 w2 : Int, ∀ M' : Mem, IX M' → (0 ≤ w1 ∧ w1 ≤ 5 ∧ -1 ≤ w2 ∧ w2 ≤ 63) → X101 w1 w2 M') : ∀ (n : Nat) (v1 v2 v3 : Int) (M : Mem), IX M → (0 ≤ v1 ∧ v1 ≤ 5 ∧ -1 ≤ v2 ∧ v2 ≤ 63 ∧ 0 ≤ v3 ∧ v3 ≤ 6) → 6 - v3 < (n : Int) → qX11_crowd_L45 X101 Q n v1 v2 v3 M := by
  intro n
  induction n with
  | zero => intro v1 v2 v3 M hI hv hm; exact absurd hm (by omega)
  | succ n ih =>
    intro v1 v2 v3 M hI hv hm
    rw [qX11_crowd_L45]
    intro x6_2432 ex6_2432 rx6_2432
    have bx6_2432 : 0 ≤ x6_2432 ∧ x6_2432 ≤ 6 := by rw [ex6_2432]; exact (bx_s0_6 (show isS 8 by decide)).mp (hI.bx _ _)
    refine ⟨(by first | assumption | exact (by omega)), ?_⟩
    refine ⟨fun c => ?_, fun c => ?_⟩
    · exact hX101 _ _ _ hI (by omega)
    · refine sX6_bitsOf (p2 := v3) hI (show isS 8 by decide) ?_
      intro x9_2435 q2436
      refine sJ6_bitCount_0f7a4 (p0 := x9_2435) hI  ?_
      intro x10_2437 p2438 q2439
      refine ⟨(by first | assumption | exact (by omega)), ?_⟩
      refine ⟨fun c => ?_, fun c => ?_⟩
      · unfold qX11_crowd_J87
        refine ⟨(by first | assumption | exact (by omega)), ?_⟩
        refine ⟨(by first | assumption | exact (by omega)), ?_⟩
        intro x15_2441 ex15_2441 rx15_2441
        exact ih _ _ _ _ hI (by omega) (by omega)
      · unfold qX11_crowd_J87
        refine ⟨(by first | assumption | exact (by omega)), ?_⟩
        refine ⟨(by first | assumption | exact (by omega)), ?_⟩
        intro x15_2443 ex15_2443 rx15_2443
        exact ih _ _ _ _ hI (by omega) (by omega)
theorem sX11_crowd  {M : Mem} {Q : Int → Mem → Prop} (hI : IX M) (hQ : ∀ z : Int, ∀ M' : Mem, IX M' → Q z M') : qX11_crowd M Q := by
  unfold qX11_crowd
  intro x1_2444 ex1_2444 rx1_2444
  have bx1_2444 : 0 ≤ x1_2444 ∧ x1_2444 ≤ 6 := by rw [ex1_2444]; exact (bx_s0_6 (show isS 1 by decide)).mp (hI.bx _ _)
  refine ⟨fun c => ?_, fun c => ?_⟩
  · refine sX6_copyFrom  hI (show isS 8 by decide) (show isS 1 by decide) ?_
    intro M3_2446 hM3_2446 gM3_2446
    refine ⟨(hM3_2446).l16, ?_⟩
    refine sX10_toEnd  hM3_2446 (show isS 8 by decide) (hM3_2446).l16 ?_
    intro M5_2447 hM5_2447
    refine ⟨7, ?_⟩
    refine sX11_crowd_L45 ?_ ?_ _ _ _ _ _ hM5_2447 (by omega) (by omega)
    · exact hQ
    · intro v1_2448 v2_2449 M_2450 hM_2450 p2451
      refine ⟨(by first | assumption | exact (by omega)), ?_⟩
      refine sX6_rightBits  hM_2450 (show isS 8 by decide) ?_
      intro x18_2452 q2453
      refine ⟨(by first | assumption | exact (by omega)), ?_⟩
      refine sX6_bitsOf (p2 := v1_2448) hM_2450 (show isS 8 by decide) ?_
      intro x20_2454 q2455
      intro x21_2456 ex21_2456 rx21_2456
      refine sJ6_bitCount_0f7a4 (p0 := x21_2456) hM_2450  ?_
      intro x22_2457 p2458 q2459
      refine sX4_tellTwo (p1 := v2_2449) (p3 := x22_2457) hM_2450  ?_
      intro M23_2460 hM23_2460
      exact hQ _ _ hM23_2460
  · exact hQ _ _ hI
theorem sX7_canHave {k1 : Nat} {p2 : Int} {p3 : Int} {p4 : Int} {M : Mem} {Q : Int → Mem → Prop} (hI : IX M) (hk1 : isS k1) (hp : 0 ≤ p2 ∧ p2 ≤ 7 ∧ 0 ≤ p3 ∧ p3 ≤ 5) (hQ : ∀ z : Int, Q z M) : qX7_canHave k1 p2 p3 p4 M Q := by
  unfold qX7_canHave
  have ek1 : 0 < k1 ∧ k1 < 155 ∧ (k1 - 1) % 7 = 0 := hk1
  intro x1_2462 ex1_2462 rx1_2462
  intro x2_2463 ex2_2463 rx2_2463
  have fx2_2463 := aI_1 x1_2462; rw [← ex2_2463] at fx2_2463
  refine ⟨fun c => ?_, fun c => ?_⟩
  · exact hQ _
  · refine sX6_hasEnded (p1 := p2) hI hk1 (by omega) ?_
    intro x4_2466 q2467 q2468
    refine ⟨fun c => ?_, fun c => ?_⟩
    · exact hQ _
    · refine sX6_hasArrived (p1 := p3) hI hk1 (by omega) ?_
      intro x6_2471 q2472 q2473
      refine ⟨fun c => ?_, fun c => ?_⟩
      · exact hQ _
      · refine ⟨by omega, ?_⟩
        refine ⟨by omega, ?_⟩
        intro x10_2476 ex10_2476 rx10_2476
        have bx10_2476 : -1 ≤ x10_2476 ∧ x10_2476 ≤ 29 := by rw [ex10_2476]; exact (bx_s1 hk1).mp (hI.bx _ _)
        refine ⟨by omega, ?_⟩
        refine ⟨by omega, ?_⟩
        intro x13_2477 ex13_2477 rx13_2477
        have bx13_2477 : -1 ≤ x13_2477 ∧ x13_2477 ≤ 29 := by rw [ex13_2477]; exact (bx_s3 hk1).mp (hI.bx _ _)
        refine ⟨(by first | assumption | exact (by omega)), ?_⟩
        intro x15_2478 px15_2478 nx15_2478
        have bx15_2478 : 0 ≤ x15_2478 ∧ (x10_2476 - x13_2477 = x15_2478 ∨ x10_2476 - x13_2477 = -x15_2478) := by omega
        intro x16_2479 ex16_2479 rx16_2479
        have bx16_2479 : 0 ≤ x16_2479 ∧ x16_2479 ≤ 30 := by rw [ex16_2479]; exact (bx_c168_1).mp (hI.bx _ _)
        refine ⟨(by first | assumption | exact (by omega)), ?_⟩
        refine ⟨fun c => ?_, fun c => ?_⟩
        · exact hQ _
        · exact hQ _
theorem sX7_choice_L30 {k1 : Nat} {p2 : Int} {p3 : Int}  {Q : Int → Mem → Prop} {M0 : Mem} (hk1 : isS k1) (hp : 0 ≤ p2 ∧ p2 ≤ 7 ∧ 0 ≤ p3 ∧ p3 ≤ 63) (hQ : ∀ z : Int, (-1 ≤ z ∧ z ≤ 5) → Q z M0) : ∀ (n : Nat) (v4 v5 : Int), IX M0 → (0 ≤ v5 ∧ v5 ≤ 6) → iR v4 → 6 - v5 < (n : Int) → qX7_choice_L30 k1 p2 p3 Q n v4 v5 M0 := by
  intro n
  induction n with
  | zero => intro v4 v5 hI hv hrv4 hm; exact absurd hm (by omega)
  | succ n ih =>
    intro v4 v5 hI hv hrv4 hm
    rw [qX7_choice_L30]
    have ek1 : 0 < k1 ∧ k1 < 155 ∧ (k1 - 1) % 7 = 0 := hk1
    intro x10_2482 ex10_2482 rx10_2482
    have bx10_2482 : 0 ≤ x10_2482 ∧ x10_2482 ≤ 6 := by rw [ex10_2482]; exact (bx_s0_6 hk1).mp (hI.bx _ _)
    refine ⟨(by first | assumption | exact (by omega)), ?_⟩
    refine ⟨fun c => ?_, fun c => ?_⟩
    · exact hQ _ (by omega)
    · refine sX7_canHave (p2 := p2) (p3 := v5) (p4 := p3) hI hk1 (by omega) ?_
      intro x13_2485 q2486 q2487
      refine ⟨fun c => ?_, fun c => ?_⟩
      · exact ih _ _ hI (by omega) (by first | assumption | exact (by omega)) (by omega)
      · refine ⟨by omega, ?_⟩
        refine ⟨by omega, ?_⟩
        intro x17_2490 ex17_2490 rx17_2490
        first | (have fx17_2490 := slI_1 (b := v5) (by omega); rw [← ex17_2490] at fx17_2490) | skip
        intro x18_2491 ex18_2491 rx18_2491
        first | (have fx18_2491 := oI_64 (a := p3) (b := x17_2490) (by omega) (by omega); rw [← ex18_2491] at fx18_2491) | skip
        refine ⟨by omega, ?_⟩
        refine ⟨by omega, ?_⟩
        intro x21_2492 ex21_2492 rx21_2492
        have bx21_2492 : 0 ≤ x21_2492 ∧ x21_2492 ≤ 8 - (p2 + 1) := by rw [ex21_2492]; exact (bx_sh (e := p2 + 1) (by omega) (by omega)).mp (hI.bx _ _)
        refine ⟨(by first | assumption | exact (by omega)), ?_⟩
        refine ⟨(by first | assumption | exact (by omega)), ?_⟩
        refine ⟨fun c => ?_, fun c => ?_⟩
        · exact ih _ _ hI (by omega) (by first | assumption | exact (by omega)) (by omega)
        · exact hQ _ (by omega)
theorem sX7_choice {k1 : Nat} {p2 : Int} {p3 : Int} {M : Mem} {Q : Int → Mem → Prop} (hI : IX M) (hk1 : isS k1) (hp : 0 ≤ p2 ∧ p2 ≤ 7 ∧ 0 ≤ p3 ∧ p3 ≤ 63) (hQ : ∀ z : Int, (-1 ≤ z ∧ z ≤ 5) → Q z M) : qX7_choice k1 p2 p3 M Q := by
  unfold qX7_choice
  have ek1 : 0 < k1 ∧ k1 < 155 ∧ (k1 - 1) % 7 = 0 := hk1
  refine ⟨by omega, ?_⟩
  refine ⟨by omega, ?_⟩
  refine ⟨by omega, ?_⟩
  refine ⟨by omega, ?_⟩
  intro x5_2495 ex5_2495 rx5_2495
  have bx5_2495 : 0 ≤ x5_2495 ∧ x5_2495 ≤ 8 - (p2) := by rw [ex5_2495]; exact (bx_sh (e := p2) (by omega) (by omega)).mp (hI.bx _ _)
  refine ⟨by omega, ?_⟩
  refine ⟨by omega, ?_⟩
  intro x8_2496 ex8_2496 rx8_2496
  have bx8_2496 : 0 ≤ x8_2496 ∧ x8_2496 ≤ 8 - (p2 + 1) := by rw [ex8_2496]; exact (bx_sh (e := p2 + 1) (by omega) (by omega)).mp (hI.bx _ _)
  refine ⟨fun c => ?_, fun c => ?_⟩
  · refine ⟨7, ?_⟩
    refine sX7_choice_L30 hk1 hp ?_ _ _ _ hI (by omega) (by first | assumption | exact (by omega)) (by omega)
    · exact hQ
  · exact hQ _ (by omega)
theorem sX7_mostFrom_L15 {k1 : Nat} {p2 : Int} {p3 : Int}  {Q : Int → Mem → Prop} {M0 : Mem} (hk1 : isS k1) (hp : 0 ≤ p2 ∧ p2 ≤ 7 ∧ 0 ≤ p3 ∧ p3 ≤ 63) (hQ : ∀ z : Int, (0 ≤ z ∧ z ≤ 8 - p2) → Q z M0) : ∀ (n : Nat) (v4 v5 : Int), IX M0 → (0 ≤ v4 ∧ v4 ≤ 8 - p2 ∧ 0 ≤ v5 ∧ v5 ≤ 6) → 6 - v5 < (n : Int) → qX7_mostFrom_L15 k1 p2 p3 Q n v4 v5 M0 := by
  intro n
  induction n with
  | zero => intro v4 v5 hI hv hm; exact absurd hm (by omega)
  | succ n ih =>
    intro v4 v5 hI hv hm
    rw [qX7_mostFrom_L15]
    have ek1 : 0 < k1 ∧ k1 < 155 ∧ (k1 - 1) % 7 = 0 := hk1
    intro x6_2499 ex6_2499 rx6_2499
    have bx6_2499 : 0 ≤ x6_2499 ∧ x6_2499 ≤ 6 := by rw [ex6_2499]; exact (bx_s0_6 hk1).mp (hI.bx _ _)
    refine ⟨(by first | assumption | exact (by omega)), ?_⟩
    refine ⟨fun c => ?_, fun c => ?_⟩
    · refine ⟨(by first | assumption | exact (by omega)), ?_⟩
      exact hQ _ (by omega)
    · refine sX7_canHave (p2 := p2) (p3 := v5) (p4 := p3) hI hk1 (by omega) ?_
      intro x10_2502 q2503 q2504
      refine ⟨fun c => ?_, fun c => ?_⟩
      · exact ih _ _ hI (by omega) (by omega)
      · refine ⟨by omega, ?_⟩
        refine ⟨by omega, ?_⟩
        intro x14_2507 ex14_2507 rx14_2507
        first | (have fx14_2507 := slI_1 (b := v5) (by omega); rw [← ex14_2507] at fx14_2507) | skip
        intro x15_2508 ex15_2508 rx15_2508
        first | (have fx15_2508 := oI_64 (a := p3) (b := x14_2507) (by omega) (by omega); rw [← ex15_2508] at fx15_2508) | skip
        refine ⟨by omega, ?_⟩
        refine ⟨by omega, ?_⟩
        intro x18_2509 ex18_2509 rx18_2509
        have bx18_2509 : 0 ≤ x18_2509 ∧ x18_2509 ≤ 8 - (p2 + 1) := by rw [ex18_2509]; exact (bx_sh (e := p2 + 1) (by omega) (by omega)).mp (hI.bx _ _)
        refine ⟨(by first | assumption | exact (by omega)), ?_⟩
        refine ⟨(by first | assumption | exact (by omega)), ?_⟩
        intro x21_2510 ex21_2510 rx21_2510
        exact ih _ _ hI (by omega) (by omega)
theorem sX7_mostFrom {k1 : Nat} {p2 : Int} {p3 : Int} {M : Mem} {Q : Int → Mem → Prop} (hI : IX M) (hk1 : isS k1) (hp : 0 ≤ p2 ∧ p2 ≤ 7 ∧ 0 ≤ p3 ∧ p3 ≤ 63) (hQ : ∀ z : Int, (0 ≤ z ∧ z ≤ 8 - p2) → Q z M) : qX7_mostFrom k1 p2 p3 M Q := by
  unfold qX7_mostFrom
  have ek1 : 0 < k1 ∧ k1 < 155 ∧ (k1 - 1) % 7 = 0 := hk1
  refine ⟨by omega, ?_⟩
  refine ⟨by omega, ?_⟩
  refine ⟨by omega, ?_⟩
  refine ⟨by omega, ?_⟩
  intro x5_2511 ex5_2511 rx5_2511
  have bx5_2511 : 0 ≤ x5_2511 ∧ x5_2511 ≤ 8 - (p2 + 1) := by rw [ex5_2511]; exact (bx_sh (e := p2 + 1) (by omega) (by omega)).mp (hI.bx _ _)
  refine ⟨7, ?_⟩
  refine sX7_mostFrom_L15 hk1 hp ?_ _ _ _ hI (by omega) (by omega)
  · exact hQ
theorem sX7_weigh_L15 {k1 : Nat} {p2 : Int} {X40 : Int → Mem → Prop} {Q : Int → Mem → Prop} (hk1 : isS k1) (hp : 0 ≤ p2 ∧ p2 ≤ 30) (hQ : ∀ z : Int, ∀ M' : Mem, IX M' → (0 ≤ z ∧ z ≤ 8) → Q z M') (hX40 : ∀ w1 : Int, ∀ M' : Mem, IX M' → (1 ≤ w1 ∧ w1 ≤ 64) → X40 w1 M') : ∀ (n : Nat) (v3 v4 : Int) (M : Mem), IX M → (1 ≤ v3 ∧ v3 ≤ 64 ∧ 0 ≤ v4 ∧ v4 ≤ 64) → 64 - v4 < (n : Int) → qX7_weigh_L15 k1 p2 X40 Q n v3 v4 M := by
  intro n
  induction n with
  | zero => intro v3 v4 M hI hv hm; exact absurd hm (by omega)
  | succ n ih =>
    intro v3 v4 M hI hv hm
    rw [qX7_weigh_L15]
    have ek1 : 0 < k1 ∧ k1 < 155 ∧ (k1 - 1) % 7 = 0 := hk1
    refine ⟨(by first | assumption | exact (by omega)), ?_⟩
    refine ⟨(by first | assumption | exact (by omega)), ?_⟩
    refine ⟨fun c => ?_, fun c => ?_⟩
    · exact hX40 _ _ hI (by omega)
    · intro x7_2514 ex7_2514 rx7_2514
      have bx7_2514 : 0 ≤ x7_2514 ∧ x7_2514 ≤ 8 := by rw [ex7_2514]; exact (bx_s0_7 hk1).mp (hI.bx _ _)
      refine ⟨by omega, ?_⟩
      refine ⟨by omega, ?_⟩
      refine ⟨by omega, ?_⟩
      refine ⟨by omega, ?_⟩
      intro M12_2515 h_M12_2515
      have hM12_2515 : IX M12_2515 := by rw [h_M12_2515]; exact hI.up (sh_nsp (e := x7_2514) (by omega) (by omega)) ((bx_sh (e := x7_2514) (by omega) (by omega)).mpr (by omega))
      exact ih _ _ _ hM12_2515 (by omega) (by omega)
theorem sX7_weigh_L56 {k1 : Nat} {p2 : Int} {X87 : Int → Int → Mem → Prop} {Q : Int → Mem → Prop} {g0 : Int} (hk1 : isS k1) (hp : 0 ≤ p2 ∧ p2 ≤ 30) (hQ : ∀ z : Int, ∀ M' : Mem, IX M' → (0 ≤ z ∧ z ≤ 8) → Q z M') (hX87 : ∀ w1 w2 : Int, ∀ M' : Mem, IX M' → (w2 = g0 ∧ 1 ≤ w1 ∧ w1 ≤ 64 ∧ 0 ≤ w2 ∧ w2 ≤ 7) → X87 w1 w2 M') : ∀ (n : Nat) (v3 v4 v5 : Int) (M : Mem), IX M → (v4 = g0 ∧ 1 ≤ v3 ∧ v3 ≤ 64 ∧ 0 ≤ v4 ∧ v4 ≤ 7 ∧ 0 ≤ v5 ∧ v5 ≤ 64) → 64 - v5 < (n : Int) → qX7_weigh_L56 k1 p2 X87 Q n v3 v4 v5 M := by
  intro n
  induction n with
  | zero => intro v3 v4 v5 M hI hv hm; exact absurd hm (by omega)
  | succ n ih =>
    intro v3 v4 v5 M hI hv hm
    rw [qX7_weigh_L56]
    have ek1 : 0 < k1 ∧ k1 < 155 ∧ (k1 - 1) % 7 = 0 := hk1
    refine ⟨(by first | assumption | exact (by omega)), ?_⟩
    refine ⟨(by first | assumption | exact (by omega)), ?_⟩
    refine ⟨fun c => ?_, fun c => ?_⟩
    · exact hX87 _ _ _ hI (by omega)
    · refine ⟨by omega, ?_⟩
      refine ⟨by omega, ?_⟩
      refine ⟨(by first | assumption | exact (by omega)), ?_⟩
      refine sX7_mostFrom (p2 := v4) (p3 := v5) hI hk1 (by omega) ?_
      intro x24_2518 p2519 q2520
      refine ⟨by omega, ?_⟩
      refine ⟨by omega, ?_⟩
      intro M27_2521 h_M27_2521
      have hM27_2521 : IX M27_2521 := by rw [h_M27_2521]; exact hI.up (sh_nsp (e := v4) (by omega) (by omega)) ((bx_sh (e := v4) (by omega) (by omega)).mpr (by omega))
      exact ih _ _ _ _ hM27_2521 (by omega) (by omega)
theorem sX7_weigh_L48 {k1 : Nat} {p2 : Int}  {Q : Int → Mem → Prop} (hk1 : isS k1) (hp : 0 ≤ p2 ∧ p2 ≤ 30) (hQ : ∀ z : Int, ∀ M' : Mem, IX M' → (0 ≤ z ∧ z ≤ 8) → Q z M') : ∀ (n : Nat) (v3 v4 : Int) (M : Mem), IX M → (1 ≤ v3 ∧ v3 ≤ 64 ∧ -1 ≤ v4 ∧ v4 ≤ 7) → v4 + 1 < (n : Int) → qX7_weigh_L48 k1 p2 Q n v3 v4 M := by
  intro n
  induction n with
  | zero => intro v3 v4 M hI hv hm; exact absurd hm (by omega)
  | succ n ih =>
    intro v3 v4 M hI hv hm
    rw [qX7_weigh_L48]
    have ek1 : 0 < k1 ∧ k1 < 155 ∧ (k1 - 1) % 7 = 0 := hk1
    refine ⟨(by first | assumption | exact (by omega)), ?_⟩
    refine ⟨fun c => ?_, fun c => ?_⟩
    · intro x17_2523 ex17_2523 rx17_2523
      have bx17_2523 : 0 ≤ x17_2523 ∧ x17_2523 ≤ 8 - (0) := by rw [ex17_2523]; exact (bx_sh (e := 0) (by omega) (by omega)).mp (hI.bx _ _)
      exact hQ _ _ hI (by omega)
    · refine ⟨65, ?_⟩
      refine sX7_weigh_L56 (g0 := v4) hk1 hp ?_ ?_ _ _ _ _ _ hI (by omega) (by omega)
      · exact hQ
      · intro v3_2525 v4_2526 M_2527 hM_2527 p2528
        exact ih _ _ _ hM_2527 (by omega) (by omega)
theorem sX7_weigh {k1 : Nat} {p2 : Int} {M : Mem} {Q : Int → Mem → Prop} (hI : IX M) (hk1 : isS k1) (hp : 0 ≤ p2 ∧ p2 ≤ 30) (hQ : ∀ z : Int, ∀ M' : Mem, IX M' → (0 ≤ z ∧ z ≤ 8) → Q z M') : qX7_weigh k1 p2 M Q := by
  unfold qX7_weigh
  have ek1 : 0 < k1 ∧ k1 < 155 ∧ (k1 - 1) % 7 = 0 := hk1
  intro M1_2529 h_M1_2529
  have hM1_2529 : IX M1_2529 := by rw [h_M1_2529]; exact hI.up (by decide) ((bx_c168_1).mpr (by omega))
  intro x2_2530 ex2_2530 rx2_2530
  have bx2_2530 : 0 ≤ x2_2530 ∧ x2_2530 ≤ 6 := by rw [ex2_2530]; exact (bx_s0_6 hk1).mp (hM1_2529.bx _ _)
  have fx2_2530 : x2_2530 = M k1 6 := by rw [ex2_2530, h_M1_2529, up2_n (by omega)]
  intro x3_2531 ex3_2531 rx3_2531
  first | (have fx3_2531 := slI_1 (b := x2_2530) (by omega); rw [← ex3_2531] at fx3_2531) | skip
  refine ⟨65, ?_⟩
  refine sX7_weigh_L15 hk1 hp ?_ ?_ _ _ _ _ hM1_2529 (by omega) (by omega)
  · exact hQ
  · intro v3_2532 M_2533 hM_2533 p2534
    intro x14_2535 ex14_2535 rx14_2535
    have bx14_2535 : 0 ≤ x14_2535 ∧ x14_2535 ≤ 8 := by rw [ex14_2535]; exact (bx_s0_7 hk1).mp (hM_2533.bx _ _)
    refine ⟨10, ?_⟩
    refine sX7_weigh_L48 hk1 hp ?_ _ _ _ _ hM_2533 (by omega) (by omega)
    · exact hQ
theorem sX11_shares_L37 {p1 : Int}  {Q : Int → Mem → Prop} (hQ : ∀ z : Int, ∀ M' : Mem, IX M' → Q z M') : ∀ (n : Nat) (v2 v3 v4 : Int) (M : Mem), IX M → (0 ≤ v2 ∧ v2 ≤ 8 ∧ 0 ≤ v3 ∧ v3 ≤ 63 ∧ 0 ≤ v4 ∧ v4 ≤ 8) → 8 - v4 < (n : Int) → qX11_shares_L37 p1 Q n v2 v3 v4 M := by
  intro n
  induction n with
  | zero => intro v2 v3 v4 M hI hv hm; exact absurd hm (by omega)
  | succ n ih =>
    intro v2 v3 v4 M hI hv hm
    rw [qX11_shares_L37]
    intro x5_2536 ex5_2536 rx5_2536
    have bx5_2536 : 0 ≤ x5_2536 ∧ x5_2536 ≤ 8 := by rw [ex5_2536]; exact (bx_s0_7 (show isS 1 by decide)).mp (hI.bx _ _)
    refine ⟨(by first | assumption | exact (by omega)), ?_⟩
    refine ⟨fun c => ?_, fun c => ?_⟩
    · refine ⟨(by first | assumption | exact (by omega)), ?_⟩
      exact hQ _ _ hI
    · refine ⟨(by first | assumption | exact (by omega)), ?_⟩
      refine sX7_choice (p2 := v4) (p3 := v3) hI (show isS 1 by decide) (by omega) ?_
      intro x10_2539 p2540 q2541
      refine ⟨fun c => ?_, fun c => ?_⟩
      · intro x12_2543 ex12_2543 rx12_2543
        first | (have fx12_2543 := slI_1 (b := x10_2539) (by omega); rw [← ex12_2543] at fx12_2543) | skip
        unfold qX11_shares_J80
        intro x13_2544 ex13_2544 rx13_2544
        first | (have fx13_2544 := oI_64 (a := v3) (b := x12_2543) (by omega) (by omega); rw [← ex13_2544] at fx13_2544) | skip
        refine ⟨(by first | assumption | exact (by omega)), ?_⟩
        refine sX4_add (p1 := x10_2539) hI  ?_
        intro M15_2545 hM15_2545
        exact ih _ _ _ _ hM15_2545 (by omega) (by omega)
      · unfold qX11_shares_J80
        intro x13_2547 ex13_2547 rx13_2547
        first | (have fx13_2547 := oI_64 (a := v3) (b := 0) (by omega) (by omega); rw [← ex13_2547] at fx13_2547) | skip
        refine ⟨(by first | assumption | exact (by omega)), ?_⟩
        refine sX4_add (p1 := x10_2539) hI  ?_
        intro M15_2548 hM15_2548
        exact ih _ _ _ _ hM15_2548 (by omega) (by omega)
theorem sX11_shares {p1 : Int} {M : Mem} {Q : Int → Mem → Prop} (hI : IX M) (hQ : ∀ z : Int, ∀ M' : Mem, IX M' → Q z M') : qX11_shares p1 M Q := by
  unfold qX11_shares
  refine ⟨fun c => ?_, fun c => ?_⟩
  · exact hQ _ _ hI
  · refine ⟨fun c => ?_, fun c => ?_⟩
    · refine sX7_weigh (p2 := p1) hI (show isS 1 by decide) (by omega) ?_
      intro x3_2552 M3_2553 hM3_2553 p2554 q2555
      refine sX4_clear  hM3_2553  ?_
      intro M4_2556 hM4_2556
      refine ⟨9, ?_⟩
      refine sX11_shares_L37 ?_ _ _ _ _ _ hM4_2556 (by omega) (by omega)
      · exact hQ
    · exact hQ _ _ hI
theorem sX11_strangers_L20  {X136 : Int → Int → Mem → Prop} {Q : Int → Mem → Prop} {g0 : Int} (hQ : ∀ z : Int, ∀ M' : Mem, IX M' → Q z M') (hX136 : ∀ w1 w2 : Int, ∀ M' : Mem, IX M' → (w2 = g0 ∧ 0 ≤ w1 ∧ w1 ≤ 30 ∧ 0 ≤ w2 ∧ w2 ≤ 7) → X136 w1 w2 M') : ∀ (n : Nat) (v1 v2 v3 : Int) (M : Mem), IX M → (v2 = g0 ∧ 0 ≤ v1 ∧ v1 ≤ 30 ∧ 0 ≤ v2 ∧ v2 ≤ 7 ∧ 0 ≤ v3 ∧ v3 ≤ 8) → 8 - v3 < (n : Int) → qX11_strangers_L20 X136 Q n v1 v2 v3 M := by
  intro n
  induction n with
  | zero => intro v1 v2 v3 M hI hv hm; exact absurd hm (by omega)
  | succ n ih =>
    intro v1 v2 v3 M hI hv hm
    rw [qX11_strangers_L20]
    intro x4_2558 ex4_2558 rx4_2558
    have bx4_2558 : 0 ≤ x4_2558 ∧ x4_2558 ≤ 8 := by rw [ex4_2558]; exact (bx_s0_7 (show isS 1 by decide)).mp (hI.bx _ _)
    refine ⟨(by first | assumption | exact (by omega)), ?_⟩
    refine ⟨fun c => ?_, fun c => ?_⟩
    · exact hX136 _ _ _ hI (by omega)
    · refine ⟨(by first | assumption | exact (by omega)), ?_⟩
      refine sX6_hasEnded (p1 := v2) hI (show isS 1 by decide) (by omega) ?_
      intro x8_2561 q2562 q2563
      refine ⟨fun c => ?_, fun c => ?_⟩
      · unfold qX11_strangers_J78
        unfold qX11_strangers_J79
        refine ⟨by omega, ?_⟩
        refine ⟨by omega, ?_⟩
        intro x12_2565 ex12_2565 rx12_2565
        have bx12_2565 : -1 ≤ x12_2565 ∧ x12_2565 ≤ 29 := by rw [ex12_2565]; exact (bx_s3 (show isS 1 by decide)).mp (hI.bx _ _)
        refine ⟨by omega, ?_⟩
        refine ⟨by omega, ?_⟩
        intro x15_2566 ex15_2566 rx15_2566
        have bx15_2566 : -1 ≤ x15_2566 ∧ x15_2566 ≤ 29 := by rw [ex15_2566]; exact (bx_s3 (show isS 1 by decide)).mp (hI.bx _ _)
        refine ⟨(by first | assumption | exact (by omega)), ?_⟩
        intro x17_2567 px17_2567 nx17_2567
        have bx17_2567 : 0 ≤ x17_2567 ∧ (x12_2565 - x15_2566 = x17_2567 ∨ x12_2565 - x15_2566 = -x17_2567) := by omega
        refine ⟨(by first | assumption | exact (by omega)), ?_⟩
        refine ⟨fun c => ?_, fun c => ?_⟩
        · exact ih _ _ _ _ hI (by omega) (by omega)
        · refine ⟨(by first | assumption | exact (by omega)), ?_⟩
          refine ⟨(by first | assumption | exact (by omega)), ?_⟩
          refine ⟨fun c => ?_, fun c => ?_⟩
          · exact ih _ _ _ _ hI (by omega) (by omega)
          · refine ⟨(by first | assumption | exact (by omega)), ?_⟩
            refine ⟨(by first | assumption | exact (by omega)), ?_⟩
            refine sX4_tellTwo (p1 := v2) (p3 := v3) hI  ?_
            intro M25_2572 hM25_2572
            exact ih _ _ _ _ hM25_2572 (by omega) (by omega)
      · refine sX6_hasEnded (p1 := v3) hI (show isS 1 by decide) (by omega) ?_
        intro x26_2574 q2575 q2576
        refine ⟨fun c => ?_, fun c => ?_⟩
        · unfold qX11_strangers_J78
          unfold qX11_strangers_J79
          refine ⟨by omega, ?_⟩
          refine ⟨by omega, ?_⟩
          intro x12_2578 ex12_2578 rx12_2578
          have bx12_2578 : -1 ≤ x12_2578 ∧ x12_2578 ≤ 29 := by rw [ex12_2578]; exact (bx_s3 (show isS 1 by decide)).mp (hI.bx _ _)
          refine ⟨by omega, ?_⟩
          refine ⟨by omega, ?_⟩
          intro x15_2579 ex15_2579 rx15_2579
          have bx15_2579 : -1 ≤ x15_2579 ∧ x15_2579 ≤ 29 := by rw [ex15_2579]; exact (bx_s3 (show isS 1 by decide)).mp (hI.bx _ _)
          refine ⟨(by first | assumption | exact (by omega)), ?_⟩
          intro x17_2580 px17_2580 nx17_2580
          have bx17_2580 : 0 ≤ x17_2580 ∧ (x12_2578 - x15_2579 = x17_2580 ∨ x12_2578 - x15_2579 = -x17_2580) := by omega
          refine ⟨(by first | assumption | exact (by omega)), ?_⟩
          refine ⟨fun c => ?_, fun c => ?_⟩
          · exact ih _ _ _ _ hI (by omega) (by omega)
          · refine ⟨(by first | assumption | exact (by omega)), ?_⟩
            refine ⟨(by first | assumption | exact (by omega)), ?_⟩
            refine ⟨fun c => ?_, fun c => ?_⟩
            · exact ih _ _ _ _ hI (by omega) (by omega)
            · refine ⟨(by first | assumption | exact (by omega)), ?_⟩
              refine ⟨(by first | assumption | exact (by omega)), ?_⟩
              refine sX4_tellTwo (p1 := v2) (p3 := v3) hI  ?_
              intro M25_2585 hM25_2585
              exact ih _ _ _ _ hM25_2585 (by omega) (by omega)
        · refine ⟨by omega, ?_⟩
          refine ⟨by omega, ?_⟩
          intro x30_2587 ex30_2587 rx30_2587
          have bx30_2587 : 0 ≤ x30_2587 ∧ x30_2587 ≤ 5 := by rw [ex30_2587]; exact (bx_s4 (show isS 1 by decide)).mp (hI.bx _ _)
          refine ⟨by omega, ?_⟩
          refine ⟨by omega, ?_⟩
          intro x33_2588 ex33_2588 rx33_2588
          have bx33_2588 : 0 ≤ x33_2588 ∧ x33_2588 ≤ 5 := by rw [ex33_2588]; exact (bx_s4 (show isS 1 by decide)).mp (hI.bx _ _)
          refine ⟨fun c => ?_, fun c => ?_⟩
          · unfold qX11_strangers_J78
            unfold qX11_strangers_J79
            refine ⟨by omega, ?_⟩
            refine ⟨by omega, ?_⟩
            intro x12_2590 ex12_2590 rx12_2590
            have bx12_2590 : -1 ≤ x12_2590 ∧ x12_2590 ≤ 29 := by rw [ex12_2590]; exact (bx_s3 (show isS 1 by decide)).mp (hI.bx _ _)
            refine ⟨by omega, ?_⟩
            refine ⟨by omega, ?_⟩
            intro x15_2591 ex15_2591 rx15_2591
            have bx15_2591 : -1 ≤ x15_2591 ∧ x15_2591 ≤ 29 := by rw [ex15_2591]; exact (bx_s3 (show isS 1 by decide)).mp (hI.bx _ _)
            refine ⟨(by first | assumption | exact (by omega)), ?_⟩
            intro x17_2592 px17_2592 nx17_2592
            have bx17_2592 : 0 ≤ x17_2592 ∧ (x12_2590 - x15_2591 = x17_2592 ∨ x12_2590 - x15_2591 = -x17_2592) := by omega
            refine ⟨(by first | assumption | exact (by omega)), ?_⟩
            refine ⟨fun c => ?_, fun c => ?_⟩
            · exact ih _ _ _ _ hI (by omega) (by omega)
            · refine ⟨(by first | assumption | exact (by omega)), ?_⟩
              refine ⟨(by first | assumption | exact (by omega)), ?_⟩
              refine ⟨fun c => ?_, fun c => ?_⟩
              · exact ih _ _ _ _ hI (by omega) (by omega)
              · refine ⟨(by first | assumption | exact (by omega)), ?_⟩
                refine ⟨(by first | assumption | exact (by omega)), ?_⟩
                refine sX4_tellTwo (p1 := v2) (p3 := v3) hI  ?_
                intro M25_2597 hM25_2597
                exact ih _ _ _ _ hM25_2597 (by omega) (by omega)
          · unfold qX11_strangers_J79
            refine ⟨by omega, ?_⟩
            refine ⟨by omega, ?_⟩
            intro x12_2599 ex12_2599 rx12_2599
            have bx12_2599 : -1 ≤ x12_2599 ∧ x12_2599 ≤ 29 := by rw [ex12_2599]; exact (bx_s3 (show isS 1 by decide)).mp (hI.bx _ _)
            refine ⟨by omega, ?_⟩
            refine ⟨by omega, ?_⟩
            intro x15_2600 ex15_2600 rx15_2600
            have bx15_2600 : -1 ≤ x15_2600 ∧ x15_2600 ≤ 29 := by rw [ex15_2600]; exact (bx_s3 (show isS 1 by decide)).mp (hI.bx _ _)
            refine ⟨(by first | assumption | exact (by omega)), ?_⟩
            intro x17_2601 px17_2601 nx17_2601
            have bx17_2601 : 0 ≤ x17_2601 ∧ (x12_2599 - x15_2600 = x17_2601 ∨ x12_2599 - x15_2600 = -x17_2601) := by omega
            refine ⟨(by first | assumption | exact (by omega)), ?_⟩
            refine ⟨fun c => ?_, fun c => ?_⟩
            · exact ih _ _ _ _ hI (by omega) (by omega)
            · refine ⟨(by first | assumption | exact (by omega)), ?_⟩
              refine ⟨(by first | assumption | exact (by omega)), ?_⟩
              refine ⟨fun c => ?_, fun c => ?_⟩
              · exact ih _ _ _ _ hI (by omega) (by omega)
              · refine ⟨(by first | assumption | exact (by omega)), ?_⟩
                refine ⟨(by first | assumption | exact (by omega)), ?_⟩
                refine sX4_tellTwo (p1 := v2) (p3 := v3) hI  ?_
                intro M25_2606 hM25_2606
                exact ih _ _ _ _ hM25_2606 (by omega) (by omega)
theorem sX11_strangers_L5  {X142 : Int → Mem → Prop} {Q : Int → Mem → Prop} (hQ : ∀ z : Int, ∀ M' : Mem, IX M' → Q z M') (hX142 : ∀ w1 : Int, ∀ M' : Mem, IX M' → (0 ≤ w1 ∧ w1 ≤ 30) → X142 w1 M') : ∀ (n : Nat) (v1 v2 : Int) (M : Mem), IX M → (0 ≤ v1 ∧ v1 ≤ 30 ∧ 0 ≤ v2 ∧ v2 ≤ 8) → 8 - v2 < (n : Int) → qX11_strangers_L5 X142 Q n v1 v2 M := by
  intro n
  induction n with
  | zero => intro v1 v2 M hI hv hm; exact absurd hm (by omega)
  | succ n ih =>
    intro v1 v2 M hI hv hm
    rw [qX11_strangers_L5]
    intro x1_2607 ex1_2607 rx1_2607
    have bx1_2607 : 0 ≤ x1_2607 ∧ x1_2607 ≤ 8 := by rw [ex1_2607]; exact (bx_s0_7 (show isS 1 by decide)).mp (hI.bx _ _)
    refine ⟨(by first | assumption | exact (by omega)), ?_⟩
    refine ⟨fun c => ?_, fun c => ?_⟩
    · exact hX142 _ _ hI (by omega)
    · refine ⟨9, ?_⟩
      refine sX11_strangers_L20 (g0 := v2) ?_ ?_ _ _ _ _ _ hI (by omega) (by omega)
      · exact hQ
      · intro v1_2610 v2_2611 M_2612 hM_2612 p2613
        exact ih _ _ _ hM_2612 (by omega) (by omega)
theorem sX11_strangers  {M : Mem} {Q : Int → Mem → Prop} (hI : IX M) (hQ : ∀ z : Int, ∀ M' : Mem, IX M' → Q z M') : qX11_strangers M Q := by
  unfold qX11_strangers
  refine ⟨9, ?_⟩
  refine sX11_strangers_L5 ?_ ?_ _ _ _ _ hI (by omega) (by omega)
  · exact hQ
  · intro v1_2614 M_2615 hM_2615 p2616
    refine ⟨(by first | assumption | exact (by omega)), ?_⟩
    refine ⟨fun c => ?_, fun c => ?_⟩
    · exact hQ _ _ hM_2615
    · exact hQ _ _ hM_2615
theorem sX6_isInDoubt {k0 : Nat} {p1 : Int} {M : Mem} {Q : Int → Mem → Prop} (hI : IX M) (hk0 : isS k0) (hp : 0 ≤ p1 ∧ p1 ≤ 7) (hQ : ∀ z : Int, Q z M) : qX6_isInDoubt k0 p1 M Q := by
  unfold qX6_isInDoubt
  have ek0 : 0 < k0 ∧ k0 < 155 ∧ (k0 - 1) % 7 = 0 := hk0
  refine ⟨by omega, ?_⟩
  refine ⟨by omega, ?_⟩
  intro x3_2619 ex3_2619 rx3_2619
  have bx3_2619 : -1 ≤ x3_2619 ∧ x3_2619 ≤ 29 := by rw [ex3_2619]; exact (bx_s3 hk0).mp (hI.bx _ _)
  refine sX6_nearestTo (p1 := x3_2619) hI hk0 (by omega) ?_
  intro x4_2620 p2621 q2622
  refine ⟨fun c => ?_, fun c => ?_⟩
  · refine ⟨by omega, ?_⟩
    refine ⟨by omega, ?_⟩
    intro x8_2624 ex8_2624 rx8_2624
    have bx8_2624 : -1 ≤ x8_2624 ∧ x8_2624 ≤ 29 := by rw [ex8_2624]; exact (bx_s1 hk0).mp (hI.bx _ _)
    refine ⟨(by first | assumption | exact (by omega)), ?_⟩
    refine ⟨fun c => ?_, fun c => ?_⟩
    · exact hQ _
    · intro x11_2627 ex11_2627 rx11_2627
      have bx11_2627 : -1 ≤ x11_2627 ∧ x11_2627 ≤ 29 := by rw [ex11_2627]; exact (bx_s1 hk0).mp (hI.bx _ _)
      refine ⟨fun c => ?_, fun c => ?_⟩
      · exact hQ _
      · refine sX6_hearseOn (p1 := 2 * x3_2619 - x8_2624) hI hk0 ?_
        intro x13_2630 p2631 q2632
        refine ⟨fun c => ?_, fun c => ?_⟩
        · exact hQ _
        · exact hQ _
  · exact hQ _
theorem sX11_doubts_L4  {X42 : Int → Mem → Prop} {Q : Int → Mem → Prop} (hQ : ∀ z : Int, ∀ M' : Mem, IX M' → Q z M') (hX42 : ∀ w1 : Int, ∀ M' : Mem, IX M' → iR w1 → X42 w1 M') : ∀ (n : Nat) (v1 v2 : Int) (M : Mem), IX M → (0 ≤ v2 ∧ v2 ≤ 8) → iR v1 → 8 - v2 < (n : Int) → qX11_doubts_L4 X42 Q n v1 v2 M := by
  intro n
  induction n with
  | zero => intro v1 v2 M hI hv hrv1 hm; exact absurd hm (by omega)
  | succ n ih =>
    intro v1 v2 M hI hv hrv1 hm
    rw [qX11_doubts_L4]
    intro x1_2636 ex1_2636 rx1_2636
    have bx1_2636 : 0 ≤ x1_2636 ∧ x1_2636 ≤ 8 := by rw [ex1_2636]; exact (bx_s0_7 (show isS 1 by decide)).mp (hI.bx _ _)
    refine ⟨(by first | assumption | exact (by omega)), ?_⟩
    refine ⟨fun c => ?_, fun c => ?_⟩
    · exact hX42 _ _ hI (by first | assumption | exact (by omega))
    · refine sX6_isInDoubt (p1 := v2) hI (show isS 1 by decide) (by omega) ?_
      intro x4_2639 q2640 q2641
      refine ⟨fun c => ?_, fun c => ?_⟩
      · intro x6_2643 ex6_2643 rx6_2643
        first | (have fx6_2643 := oI_64 (a := v1) (b := 0) (by omega) (by omega); rw [← ex6_2643] at fx6_2643) | skip
        exact ih _ _ _ hI (by omega) (by first | assumption | exact (by omega)) (by omega)
      · intro x7_2645 ex7_2645 rx7_2645
        first | (have fx7_2645 := slI_1 (b := v2) (by omega); rw [← ex7_2645] at fx7_2645) | skip
        intro x8_2646 ex8_2646 rx8_2646
        first | (have fx8_2646 := oI_64 (a := v1) (b := x7_2645) (by omega) (by omega); rw [← ex8_2646] at fx8_2646) | skip
        exact ih _ _ _ hI (by omega) (by first | assumption | exact (by omega)) (by omega)
theorem sX11_doubts  {M : Mem} {Q : Int → Mem → Prop} (hI : IX M) (hQ : ∀ z : Int, ∀ M' : Mem, IX M' → Q z M') : qX11_doubts M Q := by
  unfold qX11_doubts
  refine ⟨9, ?_⟩
  refine sX11_doubts_L4 ?_ ?_ _ _ _ _ hI (by omega) (by first | assumption | exact (by omega)) (by omega)
  · exact hQ
  · intro v1_2647 M_2648 hM_2648 r2649
    refine ⟨(by first | assumption | exact (by omega)), ?_⟩
    refine sJ6_bitCount_0f7a4 (p0 := v1_2647) hM_2648  ?_
    intro x11_2650 p2651 q2652
    refine sX4_tellOne (p1 := x11_2650) hM_2648  ?_
    intro M12_2653 hM12_2653
    exact hQ _ _ hM12_2653
theorem sX0_isOneTrueOf {k1 : Nat} {p2 : Int} {p3 : Int} {M : Mem} {Q : Int → Mem → Prop} (hI : IX M) (hk1 : isS k1) (hp : 0 ≤ p3 ∧ p3 ≤ 7 ∧ 0 ≤ p2 ∧ p2 ≤ 5) (hQ : ∀ z : Int, Q z M) : qX0_isOneTrueOf k1 p2 p3 M Q := by
  unfold qX0_isOneTrueOf
  have ek1 : 0 < k1 ∧ k1 < 155 ∧ (k1 - 1) % 7 = 0 := hk1
  refine ⟨by omega, ?_⟩
  refine ⟨by omega, ?_⟩
  intro x3_2698 ex3_2698 rx3_2698
  have bx3_2698 : -2147483648 ≤ x3_2698 ∧ x3_2698 ≤ 2147483647 := rx3_2698
  refine ⟨fun c => ?_, fun c => ?_, fun c => ?_, fun c => ?_⟩
  · refine sX6_bitsOf (p2 := p2) hI hk1 ?_
    intro x5_2700 q2701
    refine sJ6_bitCount_0f7a4 (p0 := x5_2700) hI  ?_
    intro x6_2702 p2703 q2704
    intro x7_2705 ex7_2705 rx7_2705
    have bx7_2705 : -2147483648 ≤ x7_2705 ∧ x7_2705 ≤ 2147483647 := rx7_2705
    refine ⟨fun c => ?_, fun c => ?_⟩
    · exact hQ _
    · exact hQ _
  · refine ⟨by omega, ?_⟩
    refine ⟨by omega, ?_⟩
    intro x11_2709 ex11_2709 rx11_2709
    have bx11_2709 : -2147483648 ≤ x11_2709 ∧ x11_2709 ≤ 2147483647 := rx11_2709
    intro x12_2710 ex12_2710 rx12_2710
    have bx12_2710 : -2147483648 ≤ x12_2710 ∧ x12_2710 ≤ 2147483647 := rx12_2710
    refine ⟨fun c => ?_, fun c => ?_⟩
    · exact hQ _
    · exact hQ _
  · refine sX6_bitsOf (p2 := p2) hI hk1 ?_
    intro x14_2714 q2715
    refine sJ6_bitCount_0f7a4 (p0 := x14_2714) hI  ?_
    intro x15_2716 p2717 q2718
    intro x16_2719 ex16_2719 rx16_2719
    have bx16_2719 : -2147483648 ≤ x16_2719 ∧ x16_2719 ≤ 2147483647 := rx16_2719
    refine ⟨fun c => ?_, fun c => ?_⟩
    · exact hQ _
    · exact hQ _
  · intro x18_2723 ex18_2723 rx18_2723
    first | (have fx18_2723 := rmI_b (a := p2) (b := 2) (by omega) (by omega); rw [← ex18_2723] at fx18_2723) | skip
    intro x19_2724 ex19_2724 rx19_2724
    have bx19_2724 : -2147483648 ≤ x19_2724 ∧ x19_2724 ≤ 2147483647 := rx19_2724
    refine ⟨fun c => ?_, fun c => ?_⟩
    · exact hQ _
    · exact hQ _
theorem sX0_isTrueOf_L2 {k1 : Nat} {p2 : Int}  {Q : Int → Mem → Prop} {M0 : Mem} (hk1 : isS k1) (hp : 0 ≤ p2 ∧ p2 ≤ 5) (hQ : ∀ z : Int, Q z M0) : ∀ (n : Nat) (v3 : Int), IX M0 → (0 ≤ v3 ∧ v3 ≤ 8) → 8 - v3 < (n : Int) → qX0_isTrueOf_L2 k1 p2 Q n v3 M0 := by
  intro n
  induction n with
  | zero => intro v3 hI hv hm; exact absurd hm (by omega)
  | succ n ih =>
    intro v3 hI hv hm
    rw [qX0_isTrueOf_L2]
    have ek1 : 0 < k1 ∧ k1 < 155 ∧ (k1 - 1) % 7 = 0 := hk1
    intro x1_2727 ex1_2727 rx1_2727
    have bx1_2727 : 0 ≤ x1_2727 ∧ x1_2727 ≤ 8 := by rw [ex1_2727]; exact (bx_c182_2).mp (hI.bx _ _)
    refine ⟨(by first | assumption | exact (by omega)), ?_⟩
    refine ⟨fun c => ?_, fun c => ?_⟩
    · exact hQ _
    · refine sX0_isOneTrueOf (p2 := p2) (p3 := v3) hI hk1 (by omega) ?_
      intro x4_2730 q2731 q2732
      refine ⟨fun c => ?_, fun c => ?_⟩
      · exact ih _ hI (by omega) (by omega)
      · exact hQ _
theorem sX0_isTrueOf {k1 : Nat} {p2 : Int} {M : Mem} {Q : Int → Mem → Prop} (hI : IX M) (hk1 : isS k1) (hp : 0 ≤ p2 ∧ p2 ≤ 5) (hQ : ∀ z : Int, Q z M) : qX0_isTrueOf k1 p2 M Q := by
  unfold qX0_isTrueOf
  have ek1 : 0 < k1 ∧ k1 < 155 ∧ (k1 - 1) % 7 = 0 := hk1
  refine ⟨9, ?_⟩
  refine sX0_isTrueOf_L2 hk1 hp ?_ _ _ hI (by omega) (by omega)
  · exact hQ
theorem sX11_fits_L33  {X75 : Int → Mem → Prop} {Q : Int → Mem → Prop} (hQ : ∀ z : Int, ∀ M' : Mem, IX M' → Q z M') (hX75 : ∀ w1 : Int, ∀ M' : Mem, IX M' → iR w1 → X75 w1 M') : ∀ (n : Nat) (v1 v2 : Int) (M : Mem), IX M → (0 ≤ v2 ∧ v2 ≤ 6) → iR v1 → 6 - v2 < (n : Int) → qX11_fits_L33 X75 Q n v1 v2 M := by
  intro n
  induction n with
  | zero => intro v1 v2 M hI hv hrv1 hm; exact absurd hm (by omega)
  | succ n ih =>
    intro v1 v2 M hI hv hrv1 hm
    rw [qX11_fits_L33]
    intro x4_2735 ex4_2735 rx4_2735
    have bx4_2735 : 0 ≤ x4_2735 ∧ x4_2735 ≤ 6 := by rw [ex4_2735]; exact (bx_s0_6 (show isS 8 by decide)).mp (hI.bx _ _)
    refine ⟨(by first | assumption | exact (by omega)), ?_⟩
    refine ⟨fun c => ?_, fun c => ?_⟩
    · exact hX75 _ _ hI (by first | assumption | exact (by omega))
    · refine sX0_isTrueOf (p2 := v2) hI (show isS 8 by decide) (by omega) ?_
      intro x7_2738 q2739 q2740
      refine ⟨fun c => ?_, fun c => ?_⟩
      · intro x9_2742 ex9_2742 rx9_2742
        first | (have fx9_2742 := oI_64 (a := v1) (b := 0) (by omega) (by omega); rw [← ex9_2742] at fx9_2742) | skip
        exact ih _ _ _ hI (by omega) (by first | assumption | exact (by omega)) (by omega)
      · intro x10_2744 ex10_2744 rx10_2744
        first | (have fx10_2744 := slI_1 (b := v2) (by omega); rw [← ex10_2744] at fx10_2744) | skip
        intro x11_2745 ex11_2745 rx11_2745
        first | (have fx11_2745 := oI_64 (a := v1) (b := x10_2744) (by omega) (by omega); rw [← ex11_2745] at fx11_2745) | skip
        exact ih _ _ _ hI (by omega) (by first | assumption | exact (by omega)) (by omega)
theorem sX11_fits  {M : Mem} {Q : Int → Mem → Prop} (hI : IX M) (hQ : ∀ z : Int, ∀ M' : Mem, IX M' → Q z M') : qX11_fits M Q := by
  unfold qX11_fits
  refine sX6_copyFrom  hI (show isS 8 by decide) (show isS 1 by decide) ?_
  intro M1_2746 hM1_2746 gM1_2746
  refine ⟨(hM1_2746).l16, ?_⟩
  refine sX10_walk (p3 := 200) hM1_2746 (show isS 8 by decide) (hM1_2746).l16 (by omega) ?_
  intro M3_2747 hM3_2747
  refine ⟨7, ?_⟩
  refine sX11_fits_L33 ?_ ?_ _ _ _ _ hM3_2747 (by omega) (by first | assumption | exact (by omega)) (by omega)
  · exact hQ
  · intro v1_2748 M_2749 hM_2749 r2750
    refine ⟨(by first | assumption | exact (by omega)), ?_⟩
    refine sJ6_bitCount_0f7a4 (p0 := v1_2748) hM_2749  ?_
    intro x14_2751 p2752 q2753
    refine sX4_tellOne (p1 := x14_2751) hM_2749  ?_
    intro M15_2754 hM15_2754
    exact hQ _ _ hM15_2754
theorem sX11_commonDivisor_L9 {p0 : Int} {p2 : Int}  {Q : Int → Mem → Prop} {M0 : Mem} (hp : (-9223372036854775808 ≤ p0 ∧ p0 ≤ 9223372036854775807) ∧ (-9223372036854775808 ≤ p2 ∧ p2 ≤ 9223372036854775807)) (hQ : ∀ z : Int, Q z M0) : ∀ (n : Nat) (v4 v6 v8 : Int), IX M0 → (0 ≤ v8 ∧ v8 ≤ 100) → lR v4 → lR v6 → 100 - v8 < (n : Int) → qX11_commonDivisor_L9 p0 p2 Q n v4 v6 v8 M0 := by
  intro n
  induction n with
  | zero => intro v4 v6 v8 hI hv hrv4 hrv6 hm; exact absurd hm (by omega)
  | succ n ih =>
    intro v4 v6 v8 hI hv hrv4 hrv6 hm
    rw [qX11_commonDivisor_L9]
    refine ⟨(by first | assumption | exact (by omega)), ?_⟩
    refine ⟨fun c => ?_, fun c => ?_⟩
    · refine ⟨(by first | assumption | exact (by omega) | exact iR_lR (by first | assumption | exact (by omega))), ?_⟩
      exact hQ _
    · refine ⟨(by first | assumption | exact (by omega) | exact iR_lR (by first | assumption | exact (by omega))), ?_⟩
      intro x5_2757 rx5_2757 cx5_2757
      refine ⟨fun c => ?_, fun c => ?_⟩
      · refine ⟨(by first | assumption | exact (by omega) | exact iR_lR (by first | assumption | exact (by omega))), ?_⟩
        exact hQ _
      · refine ⟨by omega, ?_⟩
        intro x9_2760 ex9_2760 rx9_2760
        exact ih _ _ _ hI (by omega) (by first | assumption | exact (by omega) | exact iR_lR (by assumption)) (by first | assumption | exact (by omega) | exact iR_lR (by assumption)) (by omega)
theorem sX11_commonDivisor {p0 : Int} {p2 : Int} {M : Mem} {Q : Int → Mem → Prop} (hI : IX M) (hp : (-9223372036854775808 ≤ p0 ∧ p0 ≤ 9223372036854775807) ∧ (-9223372036854775808 ≤ p2 ∧ p2 ≤ 9223372036854775807)) (hQ : ∀ z : Int, Q z M) : qX11_commonDivisor p0 p2 M Q := by
  unfold qX11_commonDivisor
  refine ⟨101, ?_⟩
  refine sX11_commonDivisor_L9 hp ?_ _ _ _ _ hI (by omega) (by first | assumption | exact (by omega) | exact iR_lR (by assumption)) (by first | assumption | exact (by omega) | exact iR_lR (by assumption)) (by omega)
  · exact hQ
theorem sX11_power_L5 {p0 : Int} {p2 : Int}  {Q : Int → Mem → Prop} {M0 : Mem} (hp : p2 ≤ 12) (hQ : ∀ z : Int, Q z M0) : ∀ (n : Nat) (v3 v5 : Int), IX M0 → (0 ≤ v5 ∧ v5 ≤ 12) → lR v3 → 12 - v5 < (n : Int) → qX11_power_L5 p0 p2 Q n v3 v5 M0 := by
  intro n
  induction n with
  | zero => intro v3 v5 hI hv hrv3 hm; exact absurd hm (by omega)
  | succ n ih =>
    intro v3 v5 hI hv hrv3 hm
    rw [qX11_power_L5]
    refine ⟨(by first | assumption | exact (by omega)), ?_⟩
    refine ⟨fun c => ?_, fun c => ?_⟩
    · refine ⟨(by first | assumption | exact (by omega) | exact iR_lR (by first | assumption | exact (by omega))), ?_⟩
      exact hQ _
    · intro x4_2763 ex4_2763 rx4_2763
      exact ih _ _ hI (by omega) (by first | assumption | exact (by omega) | exact iR_lR (by assumption)) (by omega)
theorem sX11_power {p0 : Int} {p2 : Int} {M : Mem} {Q : Int → Mem → Prop} (hI : IX M) (hp : p2 ≤ 12) (hQ : ∀ z : Int, Q z M) : qX11_power p0 p2 M Q := by
  unfold qX11_power
  refine ⟨13, ?_⟩
  refine sX11_power_L5 hp ?_ _ _ _ hI (by omega) (by first | assumption | exact (by omega) | exact iR_lR (by assumption)) (by omega)
  · exact hQ
theorem sX11_rains_L42 {p1 : Int} {p2 : Int} {p3 : Int} {X112 : Int → Mem → Prop} {Q : Int → Mem → Prop} (hQ : ∀ z : Int, ∀ M' : Mem, IX M' → Q z M') (hX112 : ∀ w1 : Int, ∀ M' : Mem, IX M' → lR w1 → X112 w1 M') : ∀ (n : Nat) (v4 v6 v8 : Int) (M : Mem), IX M → (0 ≤ v8 ∧ v8 ≤ 12 ∧ 1 ≤ p1 ∧ p1 ≤ 12) → lR v4 → lR v6 → 12 - v8 < (n : Int) → qX11_rains_L42 p1 p2 p3 X112 Q n v4 v6 v8 M := by
  intro n
  induction n with
  | zero => intro v4 v6 v8 M hI hv hrv4 hrv6 hm; exact absurd hm (by omega)
  | succ n ih =>
    intro v4 v6 v8 M hI hv hrv4 hrv6 hm
    rw [qX11_rains_L42]
    refine ⟨(by first | assumption | exact (by omega)), ?_⟩
    refine ⟨fun c => ?_, fun c => ?_⟩
    · exact hX112 _ _ hI (by first | assumption | exact (by omega) | exact iR_lR (by assumption))
    · refine ⟨(by first | assumption | exact (by omega)), ?_⟩
      refine ⟨fun c => ?_, fun c => ?_⟩
      · unfold qX11_rains_J88
        intro x11_2767 ex11_2767 rx11_2767
        first | (have fx11_2767 : x11_2767 = p1 - 1 := by rw [ex11_2767]; exact w32_id (by omega)) | skip
        intro x12_2768 ex12_2768 rx12_2768
        first | (have fx12_2768 : x12_2768 = x11_2767 - v8 := by rw [ex12_2768]; exact w32_id (by omega)) | skip
        intro x13_2769 ex13_2769 rx13_2769
        refine ⟨(by first | assumption | exact (by omega)), ?_⟩
        refine ⟨by omega, ?_⟩
        intro x16_2770 ex16_2770 rx16_2770
        exact ih _ _ _ _ hI (by omega) (by first | assumption | exact (by omega) | exact iR_lR (by assumption)) (by first | assumption | exact (by omega) | exact iR_lR (by assumption)) (by omega)
      · refine sX11_power (p0 := p3) (p2 := v8 + 1) hI (by omega) ?_
        intro x17_2772 q2773
        intro x18_2774 ex18_2774 rx18_2774
        intro x19_2775 ex19_2775 rx19_2775
        first | (have fx19_2775 : x19_2775 = 10 - p3 := by rw [ex19_2775]; exact w32_id (by omega)) | skip
        intro x20_2776 ex20_2776 rx20_2776
        first | (have fx20_2776 : x20_2776 = p1 - 1 := by rw [ex20_2776]; exact w32_id (by omega)) | skip
        intro x21_2777 ex21_2777 rx21_2777
        first | (have fx21_2777 : x21_2777 = x20_2776 - v8 := by rw [ex21_2777]; exact w32_id (by omega)) | skip
        refine sX11_power (p0 := x19_2775) (p2 := x21_2777) hI (by omega) ?_
        intro x22_2778 q2779
        intro x23_2780 ex23_2780 rx23_2780
        intro x24_2781 ex24_2781 rx24_2781
        unfold qX11_rains_J88
        intro x11_2782 ex11_2782 rx11_2782
        first | (have fx11_2782 : x11_2782 = p1 - 1 := by rw [ex11_2782]; exact w32_id (by omega)) | skip
        intro x12_2783 ex12_2783 rx12_2783
        first | (have fx12_2783 : x12_2783 = x11_2782 - v8 := by rw [ex12_2783]; exact w32_id (by omega)) | skip
        intro x13_2784 ex13_2784 rx13_2784
        refine ⟨(by first | assumption | exact (by omega)), ?_⟩
        refine ⟨by omega, ?_⟩
        intro x16_2785 ex16_2785 rx16_2785
        exact ih _ _ _ _ hI (by omega) (by first | assumption | exact (by omega) | exact iR_lR (by assumption)) (by first | assumption | exact (by omega) | exact iR_lR (by assumption)) (by omega)
theorem sX11_rains {p1 : Int} {p2 : Int} {p3 : Int} {M : Mem} {Q : Int → Mem → Prop} (hI : IX M) (hQ : ∀ z : Int, ∀ M' : Mem, IX M' → Q z M') : qX11_rains p1 p2 p3 M Q := by
  unfold qX11_rains
  refine ⟨fun c => ?_, fun c => ?_⟩
  · exact hQ _ _ hI
  · refine ⟨fun c => ?_, fun c => ?_⟩
    · exact hQ _ _ hI
    · refine ⟨fun c => ?_, fun c => ?_⟩
      · exact hQ _ _ hI
      · refine ⟨fun c => ?_, fun c => ?_⟩
        · exact hQ _ _ hI
        · refine ⟨fun c => ?_, fun c => ?_⟩
          · exact hQ _ _ hI
          · refine ⟨fun c => ?_, fun c => ?_⟩
            · refine ⟨13, ?_⟩
              refine sX11_rains_L42 ?_ ?_ _ _ _ _ _ hI (by omega) (by first | assumption | exact (by omega) | exact iR_lR (by assumption)) (by first | assumption | exact (by omega) | exact iR_lR (by assumption)) (by omega)
              · exact hQ
              · intro v4_2797 M_2798 hM_2798 r2799
                refine sX11_power (p0 := 10) (p2 := p1) hM_2798 (by omega) ?_
                intro x26_2800 q2801
                refine ⟨(by first | assumption | exact (by omega) | exact iR_lR (by first | assumption | exact (by omega))), ?_⟩
                refine sX11_commonDivisor (p0 := v4_2797) (p2 := x26_2800) hM_2798 (by omega) ?_
                intro x28_2802 q2803
                intro x29_2804 rx29_2804 cx29_2804
                refine ⟨fun c => ?_, fun c => ?_⟩
                · refine ⟨by omega, ?_⟩
                  intro x32_2806 ex32_2806 rx32_2806
                  refine ⟨by omega, ?_⟩
                  intro x34_2807 ex34_2807 rx34_2807
                  refine sX4_tellTwo (p1 := x32_2806) (p3 := x34_2807) hM_2798  ?_
                  intro M35_2808 hM35_2808
                  exact hQ _ _ hM35_2808
                · exact hQ _ _ hM_2798
            · exact hQ _ _ hI
end
section
/-! SPECS of the class: the reader of rules -/
def prn (f : Int → Int) : Nat → Int
  | 0 => 0
  | n + 1 => prn f n + (if f n = 40 then 1 else 0)
theorem prn_nn (f : Int → Int) (n : Nat) : 0 ≤ prn f n ∧ prn f n ≤ n := by
  induction n with
  | zero => exact ⟨Int.le_refl _, Int.le_refl _⟩
  | succ n ih =>
    unfold prn
    split <;> omega
theorem prn_cg {f g : Int → Int} (n : Nat) (h : ∀ j : Int, 0 ≤ j → j < n → f j = g j) : prn f n = prn g n := by
  induction n with
  | zero => rfl
  | succ n ih =>
    unfold prn
    rw [ih (fun j a b => h j a (by omega)), h n (by omega) (by omega)]
/-- what is held: no more than v, the open ones among it -/
def RI (M : Mem) (v : Int) : Prop := M 185 1 ≤ v ∧ M 185 2 ≤ prn (M 186) (M 185 1).toNat
theorem RI.fr {M M' : Mem} {v : Int} (h : RI M v) (h1 : M' 185 = M 185) (h2 : M' 186 = M 186) : RI M' v := by
  unfold RI
  rw [h1, h2]
  exact h
theorem RI.mono {M : Mem} {v w : Int} (h : RI M v) (hw : v ≤ w) : RI M w := ⟨by have := h.1; omega, h.2⟩
theorem RI.fl {M : Mem} {v z : Int} (h : RI M v) : RI (up2 M 185 3 z) v := by
  unfold RI
  rw [up2_j (by decide), up2_j (by decide), up2_n (by decide)]
  exact h
theorem sX5_release_L0 {k1 : Nat} {p2 v : Int} {M0 : Mem} {Q : Mem → Prop} (hk1 : isL k1) (hp : 1 ≤ p2) (hQ : ∀ M' : Mem, IX M' → RI M' v → M' 185 2 = M0 185 2 → Q M') : ∀ (n : Nat) (M : Mem), IX M → RI M v → M 185 2 = M0 185 2 → M 185 1 < n → qX5_release_L0 k1 p2 Q n M := by
  intro n
  induction n with
  | zero =>
    intro M hI hR hd hm
    have := (bx_c185_1).mp (hI.bx 185 1)
    exact absurd hm (by omega)
  | succ n ih =>
    intro M hI hR hd hm
    rw [qX5_release_L0]
    intro x1 e1 r1
    have b1 : 0 ≤ x1 ∧ x1 ≤ 40 := by rw [e1]; exact bx_c185_1.mp (hI.bx _ _)
    refine ⟨fun c => hQ _ hI hR hd, fun c => ?_⟩
    unfold qX5_latestBinding
    intro y1 f1 _
    refine ⟨fun c => by omega, fun _ => ?_⟩
    intro y3 f3 _
    refine ⟨by omega, by omega, ?_⟩
    intro y6 f6 _
    refine sX5_bindingOf (p0 := y6) hI ?_
    intro z hz _
    intro _
    refine ⟨fun c => hQ _ hI hR hd, fun c2 => ?_⟩
    intro x5 e5 _
    refine ⟨(by omega), ?_⟩
    intro M7 h7
    have hM7 : IX M7 := by rw [h7]; exact hI.up (by decide) (bx_c185_1.mpr (by omega))
    intro x8 e8 _
    have f8 : x8 = x1 - 1 := by rw [e8, h7, up2_s]; omega
    refine ⟨by omega, by omega, ?_⟩
    intro x11 e11 _
    refine sX2_add (p1 := x11) (p2 := 0) hM7 hk1 (by omega) ?_
    intro M12 hM12 g
    have g5 : M12 185 = M7 185 := g 185 (by rcases hk1 with rfl | rfl <;> omega)
    have g6 : M12 186 = M7 186 := g 186 (by rcases hk1 with rfl | rfl <;> omega)
    have hd7 : M7 185 2 = M 185 2 := by rw [h7, up2_j (by decide)]
    have hR7 : RI M7 v := by
      have hn : (M 185 1).toNat = (x8).toNat + 1 := by omega
      have hr2 := hR.2
      rw [hn] at hr2
      unfold prn at hr2
      rw [if_neg (by
        have e : ((x8.toNat : Nat) : Int) = y3 - 1 := by omega
        rw [e, ← f6]
        exact (hz.2.2 (by omega)).1)] at hr2
      refine ⟨by have := hR.1; rw [← e8]; omega, ?_⟩
      rw [hd7, ← e8]
      have : M7 186 = M 186 := by rw [h7, up2_n (by decide)]
      rw [this]
      omega
    exact ih M12 hM12 (hR7.fr g5 g6) (by rw [g5, hd7, hd]) (by rw [g5, ← e8]; omega)
theorem sX5_release {k1 : Nat} {p2 v : Int} {M : Mem} {Q : Mem → Prop} (hI : IX M) (hk1 : isL k1) (hp : 1 ≤ p2) (hR : RI M v) (hQ : ∀ M' : Mem, IX M' → RI M' v → M' 185 2 = M 185 2 → Q M') : qX5_release k1 p2 M Q := by
  have h := sX5_release_L0 (M0 := M) hk1 hp hQ 42 M hI hR rfl (by have := bx_c185_1.mp (hI.bx 185 1); omega)
  rw [qX5_release_L0] at h
  unfold qX5_release
  intro x1 e1 r1
  obtain ⟨h1, h2⟩ := h x1 e1 r1
  refine ⟨h1, fun c => ?_⟩
  have h3 := h2 c
  unfold qX5_latestBinding at h3 ⊢
  intro y1 f1 s1
  obtain ⟨h4, h5⟩ := h3 y1 f1 s1
  refine ⟨fun c => by omega, fun c4 => ?_⟩
  have h6 := h5 c4
  intro y3 f3 s3
  obtain ⟨q1, q2, h7⟩ := h6 y3 f3 s3
  refine ⟨q1, q2, ?_⟩
  intro y6 f6 s6
  have h8 := h7 y6 f6 s6
  have key : ∀ {Q1 Q2 : Int → Mem → Prop}, (∀ z, Q1 z M → Q2 z M) → qX5_bindingOf y6 M Q1 → qX5_bindingOf y6 M Q2 := by
    intro Q1 Q2 hq hb
    unfold qX5_bindingOf at hb ⊢
    obtain ⟨a1, a2, a3, a4, a5, a6, a7, a8, a9⟩ := hb
    exact ⟨fun c => hq _ (a1 c), fun c => hq _ (a2 c), fun c => hq _ (a3 c), fun c => hq _ (a4 c), fun c => hq _ (a5 c), fun c => hq _ (a6 c), fun c => hq _ (a7 c), fun c => hq _ (a8 c), fun c => hq _ (a9 c)⟩
  refine key ?_ h8
  intro z hz rz rz2
  obtain ⟨h9, h10⟩ := hz rz rz2
  refine ⟨h9, fun c5 => ?_⟩
  have h11 := h10 c5
  intro x5 e5 s5
  obtain ⟨q3, h12⟩ := h11 x5 e5 s5
  refine ⟨q3, ?_⟩
  intro M7 hm7 x8 e8 s8
  obtain ⟨q4, q5, h13⟩ := h12 M7 hm7 x8 e8 s8
  refine ⟨q4, q5, ?_⟩
  intro x11 e11 s11
  have h14 := h13 x11 e11 s11
  have kadd : ∀ {Q1 Q2 : Mem → Prop}, (∀ M', Q1 M' → Q2 M') → qX2_add k1 x11 0 M7 Q1 → qX2_add k1 x11 0 M7 Q2 := by
    intro Q1 Q2 hq hb
    unfold qX2_add at hb ⊢
    intro a1 b1 c1
    obtain ⟨u1, u2⟩ := hb a1 b1 c1
    refine ⟨fun c => hq _ (u1 c), fun c => ?_⟩
    intro a3 b3 c3
    obtain ⟨u3, u4, u5⟩ := u2 c a3 b3 c3
    refine ⟨u3, u4, ?_⟩
    intro a6 b6 a7 b7 c7
    obtain ⟨u6, u7, u8⟩ := u5 a6 b6 a7 b7 c7
    refine ⟨u6, u7, ?_⟩
    intro a10 b10 a11 b11 c11
    obtain ⟨u9, u10⟩ := u8 a10 b10 a11 b11 c11
    exact ⟨u9, fun a13 b13 => hq _ (u10 a13 b13)⟩
  exact kadd (fun M' hq => ⟨41, hq⟩) h14
theorem sX5_hold {p1 v : Int} {M : Mem} {Q : Mem → Prop} (hI : IX M) (hv : v < 40) (hR : RI M v) (hQ : ∀ M' : Mem, IX M' → M' 185 1 ≤ v + 1 → M' 185 2 = M 185 2 → prn (M 186) (M 185 1).toNat + (if p1 = 40 then 1 else 0) ≤ prn (M' 186) (M' 185 1).toNat → Q M') : qX5_hold p1 M Q := by
  have hR1 := hR.1
  unfold qX5_hold
  intro x1 e1 _
  have b1 : 0 ≤ x1 ∧ x1 ≤ 40 := by rw [e1]; exact bx_c185_1.mp (hI.bx _ _)
  refine ⟨fun c => by omega, fun c => ?_⟩
  intro x3 e3 _
  refine ⟨by omega, by omega, ?_⟩
  intro M6 h6 x7 e7 _
  have f7 : x7 = x3 := by rw [e7, h6, up2_n (by decide), e3]
  have hM6 : IX M6 := by rw [h6]; exact hI.up (by decide) (by simp [BX])
  refine ⟨(by omega), ?_⟩
  intro M9 h9
  have hM9 : IX M9 := by rw [h9]; exact hM6.up (by decide) (bx_c185_1.mpr (by omega))
  have k1 : M9 185 1 = x3 + 1 := by rw [h9, up2_s, f7]
  refine hQ _ hM9 (by omega) (by rw [h9, up2_j (by decide), h6, up2_n (by decide)]) ?_
  have k2 : M9 186 = M6 186 := by rw [h9, up2_n (by decide)]
  have k3 : (x3 + 1).toNat = x3.toNat + 1 := by omega
  have k4 : ((x3.toNat : Nat) : Int) = x3 := by omega
  rw [k1, k2, k3, ← e3]
  show _ ≤ prn (M6 186) x3.toNat + (if M6 186 (x3.toNat : Nat) = 40 then 1 else 0)
  rw [k4, show M6 186 x3 = p1 from by rw [h6, up2_s], prn_cg (f := M6 186) (g := M 186) x3.toNat (fun j a b => by rw [h6, up2_j (by omega)])]
  exact Int.le_refl _
theorem sX5_takeSign {k2 : Nat} {v : Int} {M : Mem} {Q : Int → Mem → Prop} (hI : IX M) (hk2 : isL k2) (hv : v < 40) (hR : RI M v) (hQ : ∀ z : Int, ∀ M' : Mem, IX M' → RI M' (v + 1) → Q z M') : qX5_takeSign k2 M Q := by
  have J116 : ∀ M1 : Mem, IX M1 → RI M1 (v + 1) → qX5_takeSign_J116 k2 Q M1 := by
    intro M1 h1 r1
    unfold qX5_takeSign_J116
    refine sX9_pass h1 ?_
    intro M2 h2 g2
    exact hQ _ _ h2 (r1.fr (g2 185 (by decide)) (g2 186 (by decide)))
  have H : ∀ (c : Int) (M1 : Mem), IX M1 → RI M1 v → qX5_hold c M1 (fun M9 => ∀ M10 : Mem, M10 = up2 M9 185 3 1 → qX5_takeSign_J116 k2 Q M10) := by
    intro c M1 h1 r1
    refine sX5_hold h1 hv r1 ?_
    intro M9 h9 a1 a2 a3 M10 e10
    have h10 : IX M10 := by rw [e10]; exact h9.up (by decide) (by simp [BX])
    refine J116 _ h10 ?_
    rw [e10]
    refine RI.fl ⟨a1, ?_⟩
    rw [a2]
    have := r1.2
    split at a3 <;> omega
  have J53 : ∀ (v3 v4 : Int) (M1 : Mem), IX M1 → RI M1 v → iR v3 → iR v4 → qX5_takeSign_J53 k2 Q v3 v4 M1 := by
    intro v3 v4 M1 h1 r1 r3 r4
    unfold qX5_takeSign_J53
    refine ⟨r4, ⟨fun c => ⟨fun c2 => hQ _ _ h1 (r1.mono (by omega)), fun c2 => ?_⟩, fun c => ?_⟩⟩
    · refine sX5_release h1 hk2 (by omega) r1 ?_
      intro M7 h7 r7 _
      exact ⟨r3, H _ _ h7 r7⟩
    · refine sX5_release h1 hk2 (by omega) r1 ?_
      intro M12 h12 r12 _
      refine sX5_latestBinding h12 ?_
      intro z _
      try intro _
      refine ⟨fun c2 => ⟨r3, H _ _ h12 r12⟩, fun c2 => hQ _ _ h12 (r12.mono (by omega))⟩
  unfold qX5_takeSign
  refine sX9_look hI ?_
  intro x1 p1 q1
  refine sX5_bindingOf (p0 := x1) hI ?_
  intro x2 p2 q2
  refine ⟨fun c => J53 _ _ _ hI hR q1 q2, fun c => ?_⟩
  intro x18 e18 _
  refine ⟨fun c2 => J53 _ _ _ hI hR q1 q2, fun c2 => ?_⟩
  refine sX5_release hI hk2 (by omega) hR ?_
  intro M20 h20 r20 d20 x21 e21 _
  have b21 : 0 ≤ x21 ∧ x21 ≤ 40 := by rw [e21]; exact bx_c185_1.mp (h20.bx _ _)
  have p := prn_nn (M20 186) (M20 185 1).toNat
  have r2 := r20.2
  have r1 := r20.1
  have n1 : 1 ≤ x21 := by omega
  refine ⟨(by omega), ?_⟩
  intro M23 h23
  have i23 : IX M23 := by rw [h23]; exact h20.up (by decide) (bx_c185_1.mpr (by omega))
  intro x24 e24 _
  have f24 : x24 = M20 185 2 := by rw [e24, h23, up2_j (by decide)]
  have b24 : 0 ≤ x24 ∧ x24 ≤ 4 := by rw [e24]; exact bx_c185_2.mp (i23.bx _ _)
  refine ⟨(by omega), ?_⟩
  intro M26 h26
  have i26 : IX M26 := by rw [h26]; exact i23.up (by decide) (bx_c185_2.mpr (by omega))
  refine J116 _ i26 ?_
  have k1 : M26 185 1 = x21 - 1 := by rw [h26, up2_j (by decide), h23, up2_s]
  have k2' : M26 185 2 = x24 - 1 := by rw [h26, up2_s]
  have k3 : M26 186 = M20 186 := by rw [h26, up2_n (by decide), h23, up2_n (by decide)]
  refine ⟨by rw [k1]; omega, ?_⟩
  rw [k1, k2', k3]
  have k4 : (M20 185 1).toNat = (x21 - 1).toNat + 1 := by omega
  rw [k4] at r2
  unfold prn at r2
  split at r2 <;> omega
theorem sX5_takeThing {k2 : Nat} {v : Int} {M : Mem} {Q : Int → Mem → Prop} (hI : IX M) (hk2 : isL k2) (hv : v < 40) (hR : RI M v) (hQ : ∀ z : Int, ∀ M' : Mem, IX M' → RI M' (v + 1) → Q z M') : qX5_takeThing k2 M Q := by
  have ne5 : ∀ i, i = 185 ∨ i = 186 → ¬ (i = k2 ∨ i = k2 + 1 ∨ i = k2 + 2) := by intro i hi; rcases hk2 with rfl | rfl <;> omega
  have J121 : ∀ M1 : Mem, IX M1 → RI M1 (v + 1) → qX5_takeThing_J121 k2 Q M1 := by
    intro M1 h1 r1
    unfold qX5_takeThing_J121
    refine sX9_pass h1 ?_
    intro M2 h2 g2
    exact hQ _ _ h2 (r1.fr (g2 185 (by decide)) (g2 186 (by decide)))
  have J101 : ∀ (t0 : Int) (M1 : Mem), IX M1 → RI M1 v → iR t0 → t0 ≤ 6 → qX5_takeThing_J101 k2 Q t0 M1 := by
    intro t0 M1 h1 r1 rt h6
    unfold qX5_takeThing_J101
    refine ⟨rt, ⟨fun c => ?_, fun c => hQ _ _ h1 (r1.mono (by omega))⟩⟩
    refine sX2_addLetter (p1 := t0) h1 hk2 (by omega) ?_
    intro M13 h13 g13 M14 e14
    have h14 : IX M14 := by rw [e14]; exact h13.up (by decide) (by simp [BX])
    refine J121 _ h14 ?_
    rw [e14]
    exact ((r1.mono (by omega)).fr (g13 185 (ne5 _ (Or.inl rfl))) (g13 186 (ne5 _ (Or.inr rfl)))).fl
  have J83 : ∀ (v4 : Int) (M1 : Mem), IX M1 → RI M1 v → -1 ≤ v4 ∧ v4 ≤ 255 → qX5_takeThing_J83 k2 Q v4 M1 := by
    intro v4 M1 h1 r1 hv4
    unfold qX5_takeThing_J83
    refine ⟨(by omega), ⟨fun c => ⟨by omega, by omega, ?_⟩, fun c => J101 _ _ h1 r1 (by decide) (by decide)⟩⟩
    intro x10 e10 r10
    have f10 := ixS_0 v4
    rw [← e10] at f10
    exact J101 _ _ h1 r1 r10 f10.2
  unfold qX5_takeThing
  refine sX9_number (p1 := 3) hI (by omega) ?_
  intro x1 M1 h1 g1 p1 q1
  have r1 : RI M1 v := hR.fr (g1 185 (by decide)) (g1 186 (by decide))
  refine ⟨fun c => ?_, fun c => ?_⟩
  · refine sX9_look h1 ?_
    intro x3 p3 q3
    refine ⟨fun c3 => ⟨fun c4 => J83 _ _ h1 r1 p3, fun c4 => ?_⟩, fun c3 => ?_⟩
    · intro x16 e16 _
      have b16 : 0 ≤ x16 ∧ x16 ≤ 4 := by rw [e16]; exact bx_c185_2.mp (h1.bx _ _)
      refine ⟨fun c5 => J83 _ _ h1 r1 p3, fun c5 => ?_⟩
      intro x18 e18 _
      refine ⟨(by omega), ?_⟩
      intro M20 e20
      have h20 : IX M20 := by rw [e20]; exact h1.up (by decide) (bx_c185_2.mpr (by omega))
      have k1 : M20 185 1 = M1 185 1 := by rw [e20, up2_j (by decide)]
      have k2' : M20 185 2 = M1 185 2 + 1 := by rw [e20, up2_s, e18]
      have k3 : M20 186 = M1 186 := by rw [e20, up2_n (by decide)]
      -- the one that is opened is not yet among the held ones
      have hold := r1
      unfold qX5_hold
      intro y1 f1 _
      have b1 : 0 ≤ y1 ∧ y1 ≤ 40 := by rw [f1]; exact bx_c185_1.mp (h20.bx _ _)
      have r11 := r1.1
      refine ⟨fun c => by omega, fun c => ?_⟩
      intro y3 f3 _
      refine ⟨by omega, by omega, ?_⟩
      intro M6 h6 y7 f7 _
      have g7 : y7 = y3 := by rw [f7, h6, up2_n (by decide), f3]
      have hM6 : IX M6 := by rw [h6]; exact h20.up (by decide) (by simp [BX])
      refine ⟨(by omega), ?_⟩
      intro M9 h9
      have hM9 : IX M9 := by rw [h9]; exact hM6.up (by decide) (bx_c185_1.mpr (by omega))
      refine J121 _ hM9 ?_
      have n1 : M9 185 1 = y3 + 1 := by rw [h9, up2_s, g7]
      have n2 : M9 185 2 = M1 185 2 + 1 := by rw [h9, up2_j (by decide), h6, up2_n (by decide), k2']
      have n3 : M9 186 = M6 186 := by rw [h9, up2_n (by decide)]
      refine ⟨by rw [n1]; omega, ?_⟩
      rw [n1, n2, n3, show (y3 + 1).toNat = y3.toNat + 1 from by omega]
      show _ ≤ prn (M6 186) y3.toNat + (if M6 186 (y3.toNat : Nat) = 40 then 1 else 0)
      rw [show ((y3.toNat : Nat) : Int) = y3 from by omega, show M6 186 y3 = x3 from by rw [h6, up2_s], if_pos c4, prn_cg (f := M6 186) (g := M1 186) y3.toNat (fun j a b => by rw [h6, up2_j (by omega), k3])]
      have := r1.2
      rw [← k1, ← f3] at this
      omega
    · refine sX5_hold h1 hv r1 ?_
      intro M22 h22 a1 a2 a3
      refine J121 _ h22 ⟨a1, ?_⟩
      rw [a2]
      have := r1.2
      rw [if_neg (by decide)] at a3
      omega
  · refine sX2_add (p1 := 300) (p2 := x1) h1 hk2 (by omega) ?_
    intro M23 h23 g23 M24 e24
    have h24 : IX M24 := by rw [e24]; exact h23.up (by decide) (by simp [BX])
    refine hQ _ _ h24 ?_
    rw [e24]
    exact ((r1.mono (by omega)).fr (g23 185 (ne5 _ (Or.inl rfl))) (g23 186 (ne5 _ (Or.inr rfl)))).fl
theorem sX5_read_L40 {k2 : Nat} {X92 : Mem → Prop} {Q : Int → Mem → Prop} (hk2 : isL k2) (hQ : ∀ z : Int, ∀ M' : Mem, IX M' → (-1 ≤ z ∧ z ≤ 80) → Q z M') (hX92 : ∀ M' : Mem, IX M' → RI M' 40 → X92 M') : ∀ (n : Nat) (v3 : Int) (M : Mem), IX M → RI M v3 → (0 ≤ v3 ∧ v3 ≤ 40) → 40 - v3 < (n : Int) → qX5_read_L40 k2 X92 Q n v3 M := by
  intro n
  induction n with
  | zero => intro v3 M hI hR hv hm; exact absurd hm (by omega)
  | succ n ih =>
    intro v3 M hI hR hv hm
    rw [qX5_read_L40]
    refine ⟨(by omega), ⟨fun c => hX92 _ hI (hR.mono (by omega)), fun c => ?_⟩⟩
    refine sX9_isRead hI ?_
    intro x10 q1 q2
    refine ⟨fun c2 => hX92 _ hI (hR.mono (by omega)), fun c2 => ?_⟩
    intro x12 e12 _
    refine ⟨fun c3 => ?_, fun c3 => ?_⟩
    · refine sX5_takeSign hI hk2 (by omega) hR ?_
      intro x14 M14 h14 r14 q3 q4
      refine ⟨fun c4 => ih _ _ h14 r14 (by omega) (by omega), fun c4 => ?_⟩
      intro x16 e16 _
      exact hQ _ _ h14 (by have := bx_c156_2.mp (h14.bx 156 2); omega)
    · refine sX5_takeThing hI hk2 (by omega) hR ?_
      intro x17 M17 h17 r17 q3 q4
      refine ⟨fun c4 => ?_, fun c4 => ih _ _ h17 r17 (by omega) (by omega)⟩
      intro x19 e19 _
      exact hQ _ _ h17 (by have := bx_c156_2.mp (h17.bx 156 2); omega)
theorem sX5_read {k2 : Nat} {M : Mem} {Q : Int → Mem → Prop} (hI : IX M) (hk2 : isL k2) (hQ : ∀ z : Int, ∀ M' : Mem, IX M' → (-1 ≤ z ∧ z ≤ 80) → Q z M') : qX5_read k2 M Q := by
  unfold qX5_read
  refine sX9_isEmpty hI ?_
  intro x1 q1 q2
  refine ⟨fun c => ?_, fun c => ?_⟩
  · refine sX2_clear hI hk2 ?_
    intro M3 h3 M4 e4 M5 e5 M6 e6
    have h4 : IX M4 := by rw [e4]; exact h3.up (by decide) (bx_c185_1.mpr (by decide))
    have h5 : IX M5 := by rw [e5]; exact h4.up (by decide) (bx_c185_2.mpr (by decide))
    have h6 : IX M6 := by rw [e6]; exact h5.up (by decide) (by simp [BX])
    refine sX9_open (p1 := 40) h6 (by omega) ?_
    intro M7 h7 g7
    refine ⟨41, ?_⟩
    refine sX5_read_L40 hk2 hQ ?_ _ _ _ h7 ?_ (by omega) (by omega)
    · intro M8 h8 r8
      unfold qX5_read_J92
      intro x21 e21 _
      refine ⟨fun c1 => fun x23 e23 _ => hQ _ _ h8 (by have := bx_c156_2.mp (h8.bx 156 2); omega), fun c1 => ?_⟩
      intro x24 e24 _
      refine ⟨fun c2 => fun x26 e26 _ => hQ _ _ h8 (by have := bx_c156_2.mp (h8.bx 156 2); omega), fun c2 => ?_⟩
      refine sX9_isWhole h8 ?_
      intro x27 q3 q4
      refine ⟨fun c3 => ?_, fun c3 => fun x30 e30 _ => hQ _ _ h8 (by have := bx_c156_2.mp (h8.bx 156 2); omega)⟩
      refine sX5_release h8 hk2 (by omega) r8 ?_
      intro M29 h29 _ _
      exact hQ _ _ h29 (by decide)
    · have k1 : M7 185 = M6 185 := g7 185 (by decide)
      refine ⟨?_, ?_⟩
      · rw [k1, e6, up2_j (by decide), e5, up2_j (by decide), e4, up2_s]
        decide
      · have p := prn_nn (M7 186) (M7 185 1).toNat
        have : M7 185 2 = 0 := by rw [k1, e6, up2_j (by decide), e5, up2_s]
        omega
  · refine sX2_becomePlain hI hk2 ?_
    intro M31 h31
    exact hQ _ _ h31 (by decide)
theorem sX11_rule {M : Mem} {Q : Int → Mem → Prop} (hI : IX M) (hQ : ∀ z : Int, ∀ M' : Mem, IX M' → Q z M') : qX11_rule M Q := by
  unfold qX11_rule
  refine ⟨hI.l17, ?_⟩
  refine sX5_read hI hI.l17 ?_
  intro x2 M2 h2 p2 q2
  refine sX9_clear h2 ?_
  intro M3 h3 g3
  refine ⟨fun c => ?_, fun c => ?_⟩
  · refine ⟨h3.l16, h3.l17, ?_⟩
    intro M7 e7 M8 e8
    refine hQ _ _ ?_
    rw [e8, e7]
    refine ⟨BX.up (BX.up h3.1 (by simp [BX])) (by simp [BX]), ?_, fun k' j' hk' => ?_⟩
    · rw [up2_j (by decide), up2_s, up2_s]
      rcases h3.2.1 with q | q
      · right; rw [q.1, q.2]; exact ⟨rfl, rfl⟩
      · left; rw [q.1, q.2]; exact ⟨rfl, rfl⟩
    · rw [up2_n (by rcases hk' with rfl | rfl <;> omega), up2_n (by rcases hk' with rfl | rfl <;> omega), up2_n (by rcases hk' with rfl | rfl <;> omega), up2_n (by rcases hk' with rfl | rfl <;> omega)]
      exact h3.2.2 k' j' hk'
  · exact ⟨(by omega), hQ _ _ h3⟩
end
section
theorem sX11_law  {M : Mem} {Q : Int → Mem → Prop} (hI : IX M) (hQ : ∀ z : Int, ∀ M' : Mem, IX M' → Q z M') : qX11_law M Q := by
  unfold qX11_law
  refine ⟨(hI).l17, ?_⟩
  refine sX5_read  hI (hI).l17 ?_
  intro x2_2811 M2_2812 hM2_2812 p2813 q2814
  refine sX9_clear  hM2_2812  ?_
  intro M3_2815 hM3_2815 gM3_2815
  refine ⟨fun c => ?_, fun c => ?_⟩
  · refine sX6_copyFrom  hM3_2815 (show isS 8 by decide) (show isS 1 by decide) ?_
    intro M5_2817 hM5_2817 gM5_2817
    refine ⟨(hM5_2817).l17, ?_⟩
    refine sX11_rightOnesOfTrial  hM5_2817 (hM5_2817).l17 ?_
    intro x7_2818 M7_2819 hM7_2819 q2820
    refine sJ6_bitCount_0f7a4 (p0 := x7_2818) hM7_2819  ?_
    intro x8_2821 p2822 q2823
    refine sX6_copyFrom  hM7_2819 (show isS 8 by decide) (show isS 1 by decide) ?_
    intro M9_2824 hM9_2824 gM9_2824
    refine ⟨(hM9_2824).l16, ?_⟩
    refine sX11_rightOnesOfTrial  hM9_2824 (hM9_2824).l16 ?_
    intro x11_2825 M11_2826 hM11_2826 q2827
    refine sJ6_bitCount_0f7a4 (p0 := x11_2825) hM11_2826  ?_
    intro x12_2828 p2829 q2830
    refine sX4_tellTwo (p1 := x8_2821) (p3 := x12_2828) hM11_2826  ?_
    intro M13_2831 hM13_2831
    refine ⟨(by first | assumption | exact (by omega)), ?_⟩
    exact hQ _ _ hM13_2831
  · refine ⟨(by first | assumption | exact (by omega)), ?_⟩
    exact hQ _ _ hM3_2815
theorem sX11_gain {p0 : Int} {p1 : Int} {p2 : Int} {M : Mem} {Q : Int → Mem → Prop} (hI : IX M) (hp : 0 ≤ p0 ∧ p0 ≤ 9 ∧ 0 ≤ p1 ∧ p1 ≤ 9 ∧ 0 ≤ p2 ∧ p2 ≤ 20) (hQ : ∀ z : Int, (-30 ≤ z ∧ z ≤ 30) → Q z M) : qX11_gain p0 p1 p2 M Q := by
  unfold qX11_gain
  refine ⟨fun c => ?_, fun c => ?_⟩
  · refine ⟨fun c => ?_, fun c => ?_⟩
    · unfold qX11_gain_J21
      refine ⟨(by first | assumption | exact (by omega)), ?_⟩
      refine ⟨fun c => ?_, fun c => ?_⟩
      · refine ⟨(by first | assumption | exact (by omega)), ?_⟩
        exact hQ _ (by omega)
      · refine ⟨(by first | assumption | exact (by omega)), ?_⟩
        exact hQ _ (by omega)
    · intro x7_2838 ex7_2838 rx7_2838
      first | (have fx7_2838 := dvI_b (a := p2) (b := 2) (by omega) (by omega); rw [← ex7_2838] at fx7_2838) | skip
      unfold qX11_gain_J21
      refine ⟨(by first | assumption | exact (by omega)), ?_⟩
      refine ⟨fun c => ?_, fun c => ?_⟩
      · refine ⟨(by first | assumption | exact (by omega)), ?_⟩
        exact hQ _ (by omega)
      · refine ⟨(by first | assumption | exact (by omega)), ?_⟩
        exact hQ _ (by omega)
  · unfold qX11_gain_J21
    refine ⟨(by first | assumption | exact (by omega)), ?_⟩
    refine ⟨fun c => ?_, fun c => ?_⟩
    · refine ⟨(by first | assumption | exact (by omega)), ?_⟩
      exact hQ _ (by omega)
    · refine ⟨(by first | assumption | exact (by omega)), ?_⟩
      exact hQ _ (by omega)
theorem sX11_isBestAnswer_L10 {p0 : Int} {p1 : Int} {p2 : Int}  {Q : Int → Mem → Prop} {M0 : Mem} (hp : 0 ≤ p0 ∧ p0 ≤ 9 ∧ 0 ≤ p1 ∧ p1 ≤ 9 ∧ 0 ≤ p2 ∧ p2 ≤ 20) (hQ : ∀ z : Int, Q z M0) : ∀ (n : Nat) (v3 v4 : Int), IX M0 → (-30 ≤ v3 ∧ v3 ≤ 30 ∧ 0 ≤ v4 ∧ v4 ≤ 10) → 10 - v4 < (n : Int) → qX11_isBestAnswer_L10 p0 p1 p2 Q n v3 v4 M0 := by
  intro n
  induction n with
  | zero => intro v3 v4 hI hv hm; exact absurd hm (by omega)
  | succ n ih =>
    intro v3 v4 hI hv hm
    rw [qX11_isBestAnswer_L10]
    refine ⟨(by first | assumption | exact (by omega)), ?_⟩
    refine ⟨fun c => ?_, fun c => ?_⟩
    · exact hQ _
    · refine sX11_gain (p0 := v4) (p1 := p1) (p2 := p2) hI (by omega) ?_
      intro x4_2846 p2847 q2848
      refine ⟨(by first | assumption | exact (by omega)), ?_⟩
      refine ⟨fun c => ?_, fun c => ?_⟩
      · exact ih _ _ hI (by omega) (by omega)
      · exact hQ _
theorem sX11_isBestAnswer {p0 : Int} {p1 : Int} {p2 : Int} {M : Mem} {Q : Int → Mem → Prop} (hI : IX M) (hp : 0 ≤ p0 ∧ p0 ≤ 9 ∧ 0 ≤ p1 ∧ p1 ≤ 9 ∧ 0 ≤ p2 ∧ p2 ≤ 20) (hQ : ∀ z : Int, Q z M) : qX11_isBestAnswer p0 p1 p2 M Q := by
  unfold qX11_isBestAnswer
  refine sX11_gain (p0 := p0) (p1 := p1) (p2 := p2) hI (by omega) ?_
  intro x1_2851 p2852 q2853
  refine ⟨11, ?_⟩
  refine sX11_isBestAnswer_L10 hp ?_ _ _ _ hI (by omega) (by omega)
  · exact hQ
theorem sX11_rests_L32 {p1 : Int} {X85 : Int → Int → Mem → Prop} {Q : Int → Mem → Prop} {g0 : Int} (hQ : ∀ z : Int, ∀ M' : Mem, IX M' → Q z M') (hX85 : ∀ w1 w2 : Int, ∀ M' : Mem, IX M' → (w2 = g0 ∧ 0 ≤ w1 ∧ w1 ≤ 10 * w2 + 10 ∧ 0 ≤ w2 ∧ w2 ≤ 9 ∧ 0 ≤ p1 ∧ p1 ≤ 20) → X85 w1 w2 M') : ∀ (n : Nat) (v2 v3 v4 : Int) (M : Mem), IX M → (v3 = g0 ∧ 0 ≤ v2 ∧ v2 ≤ 10 * v3 + v4 ∧ 0 ≤ v3 ∧ v3 ≤ 9 ∧ 0 ≤ v4 ∧ v4 ≤ 10 ∧ 0 ≤ p1 ∧ p1 ≤ 20) → 10 - v4 < (n : Int) → qX11_rests_L32 p1 X85 Q n v2 v3 v4 M := by
  intro n
  induction n with
  | zero => intro v2 v3 v4 M hI hv hm; exact absurd hm (by omega)
  | succ n ih =>
    intro v2 v3 v4 M hI hv hm
    rw [qX11_rests_L32]
    refine ⟨(by first | assumption | exact (by omega)), ?_⟩
    refine ⟨fun c => ?_, fun c => ?_⟩
    · exact hX85 _ _ _ hI (by omega)
    · refine ⟨(by first | assumption | exact (by omega)), ?_⟩
      refine sX11_isBestAnswer (p0 := v3) (p1 := v4) (p2 := p1) hI (by omega) ?_
      intro x10_2856 q2857 q2858
      refine ⟨fun c => ?_, fun c => ?_⟩
      · exact ih _ _ _ _ hI (by omega) (by omega)
      · refine sX11_isBestAnswer (p0 := v4) (p1 := v3) (p2 := p1) hI (by omega) ?_
        intro x12_2861 q2862 q2863
        refine ⟨fun c => ?_, fun c => ?_⟩
        · exact ih _ _ _ _ hI (by omega) (by omega)
        · refine ⟨(by first | assumption | exact (by omega)), ?_⟩
          refine ⟨fun c => ?_, fun c => ?_⟩
          · exact ih _ _ _ _ hI (by omega) (by omega)
          · refine sX4_tellTwo (p1 := v3) (p3 := v4) hI  ?_
            intro M16_2868 hM16_2868
            exact ih _ _ _ _ hM16_2868 (by omega) (by omega)
theorem sX11_rests_L23 {p1 : Int}  {Q : Int → Mem → Prop} (hQ : ∀ z : Int, ∀ M' : Mem, IX M' → Q z M') : ∀ (n : Nat) (v2 v3 : Int) (M : Mem), IX M → (0 ≤ v2 ∧ v2 ≤ 10 * v3 ∧ 0 ≤ v3 ∧ v3 ≤ 10 ∧ 0 ≤ p1 ∧ p1 ≤ 20) → 10 - v3 < (n : Int) → qX11_rests_L23 p1 Q n v2 v3 M := by
  intro n
  induction n with
  | zero => intro v2 v3 M hI hv hm; exact absurd hm (by omega)
  | succ n ih =>
    intro v2 v3 M hI hv hm
    rw [qX11_rests_L23]
    refine ⟨(by first | assumption | exact (by omega)), ?_⟩
    refine ⟨fun c => ?_, fun c => ?_⟩
    · refine ⟨(by first | assumption | exact (by omega)), ?_⟩
      exact hQ _ _ hI
    · refine ⟨11, ?_⟩
      refine sX11_rests_L32 (g0 := v3) ?_ ?_ _ _ _ _ _ hI (by omega) (by omega)
      · exact hQ
      · intro v2_2871 v3_2872 M_2873 hM_2873 p2874
        exact ih _ _ _ hM_2873 (by omega) (by omega)
theorem sX11_rests {p1 : Int} {M : Mem} {Q : Int → Mem → Prop} (hI : IX M) (hQ : ∀ z : Int, ∀ M' : Mem, IX M' → Q z M') : qX11_rests p1 M Q := by
  unfold qX11_rests
  refine ⟨fun c => ?_, fun c => ?_⟩
  · exact hQ _ _ hI
  · refine ⟨fun c => ?_, fun c => ?_⟩
    · refine sX4_clear  hI  ?_
      intro M3_2878 hM3_2878
      refine ⟨11, ?_⟩
      refine sX11_rests_L23 ?_ _ _ _ _ hM3_2878 (by omega) (by omega)
      · exact hQ
    · exact hQ _ _ hI
theorem sX11_draw {p1 : Int} {M : Mem} {Q : Int → Mem → Prop} (hI : IX M) (hp : p1 ≤ 100) (hQ : ∀ z : Int, ∀ M' : Mem, IX M' → (0 ≤ z ∧ z ≤ 99 ∧ (1 ≤ p1 → z ≤ p1 - 1)) → Q z M') : qX11_draw p1 M Q := by
  unfold qX11_draw
  intro x1_2880 ex1_2880 rx1_2880
  have bx1_2880 : -2147483648 ≤ x1_2880 ∧ x1_2880 ≤ 2147483647 := rx1_2880
  intro x2_2881 ex2_2881 rx2_2881
  first | (have fx2_2881 : x2_2881 = x1_2880 * 1103515245 := by rw [ex2_2881]; exact w32_id (by omega)) | skip
  intro x3_2882 ex3_2882 rx3_2882
  first | (have fx3_2882 : x3_2882 = x2_2881 + 12345 := by rw [ex3_2882]; exact w32_id (by omega)) | skip
  intro M4_2883 h_M4_2883
  have hM4_2883 : IX M4_2883 := by rw [h_M4_2883]; exact hI.up15 (by decide)
  refine ⟨fun c => ?_, fun c => ?_⟩
  · intro x6_2885 ex6_2885 rx6_2885
    have bx6_2885 : -2147483648 ≤ x6_2885 ∧ x6_2885 ≤ 2147483647 := rx6_2885
    have fx6_2885 : x6_2885 = x3_2882 := by rw [ex6_2885, h_M4_2883, up2_s]
    intro x7_2886 ex7_2886 rx7_2886
    have fx7_2886 := usI_16 x6_2885; rw [← ex7_2886] at fx7_2886
    refine ⟨by omega, ?_⟩
    intro x9_2887 ex9_2887 rx9_2887
    first | (have fx9_2887 := rmI_b (a := x7_2886) (b := p1) (by omega) (by omega); rw [← ex9_2887] at fx9_2887) | skip
    exact hQ _ _ hM4_2883 (by omega)
  · exact hQ _ _ hM4_2883 (by omega)
theorem sX11_years_L31 {p1 : Int} {p2 : Int} {X155 : Mem → Prop} {Q : Int → Mem → Prop} (hQ : ∀ z : Int, ∀ M' : Mem, IX M' → Q z M') (hX155 : ∀ M' : Mem, IX M' → X155 M') : ∀ (n : Nat) (v3 : Int) (M : Mem), IX M → (0 ≤ v3 ∧ v3 ≤ 60 ∧ p2 ≤ 60) → 60 - v3 < (n : Int) → qX11_years_L31 p1 p2 X155 Q n v3 M := by
  intro n
  induction n with
  | zero => intro v3 M hI hv hm; exact absurd hm (by omega)
  | succ n ih =>
    intro v3 M hI hv hm
    rw [qX11_years_L31]
    refine ⟨(by first | assumption | exact (by omega)), ?_⟩
    refine ⟨fun c => ?_, fun c => ?_⟩
    · exact hX155 _ hI
    · refine sX11_draw (p1 := 4) hI (by omega) ?_
      intro x7_2891 M7_2892 hM7_2892 p2893 q2894
      refine ⟨fun c => ?_, fun c => ?_⟩
      · refine ⟨fun c => ?_, fun c => ?_⟩
        · intro x10_2897 ex10_2897 rx10_2897
          have bx10_2897 : 0 ≤ x10_2897 ∧ x10_2897 ≤ 8 := by rw [ex10_2897]; exact (bx_s0_7 (show isS 8 by decide)).mp (hM7_2892.bx _ _)
          refine ⟨fun c => ?_, fun c => ?_⟩
          · exact ih _ _ hM7_2892 (by omega) (by omega)
          · intro x12_2900 ex12_2900 rx12_2900
            have bx12_2900 : 0 ≤ x12_2900 ∧ x12_2900 ≤ 8 := by rw [ex12_2900]; exact (bx_s0_7 (show isS 8 by decide)).mp (hM7_2892.bx _ _)
            refine sX11_draw (p1 := x12_2900) hM7_2892 (by omega) ?_
            intro x13_2901 M13_2902 hM13_2902 p2903 q2904
            refine sX11_draw (p1 := 5) hM13_2902 (by omega) ?_
            intro x14_2905 M14_2906 hM14_2906 p2907 q2908
            refine ⟨(by first | assumption | exact (by omega)), ?_⟩
            refine sX6_shove (p1 := x13_2901) (p2 := x14_2905 - 2) hM14_2906 (show isS 8 by decide) ?_
            intro x16_2909 M16_2910 hM16_2910 q2911
            exact ih _ _ hM16_2910 (by omega) (by omega)
        · intro x17_2913 ex17_2913 rx17_2913
          have bx17_2913 : 0 ≤ x17_2913 ∧ x17_2913 ≤ 8 := by rw [ex17_2913]; exact (bx_s0_7 (show isS 8 by decide)).mp (hM7_2892.bx _ _)
          refine ⟨fun c => ?_, fun c => ?_⟩
          · exact ih _ _ hM7_2892 (by omega) (by omega)
          · intro x19_2916 ex19_2916 rx19_2916
            have bx19_2916 : 0 ≤ x19_2916 ∧ x19_2916 ≤ 8 := by rw [ex19_2916]; exact (bx_s0_7 (show isS 8 by decide)).mp (hM7_2892.bx _ _)
            refine sX11_draw (p1 := x19_2916) hM7_2892 (by omega) ?_
            intro x20_2917 M20_2918 hM20_2918 p2919 q2920
            refine sX6_turn (p1 := x20_2917) hM20_2918 (show isS 8 by decide) ?_
            intro x21_2921 M21_2922 hM21_2922 q2923
            exact ih _ _ hM21_2922 (by omega) (by omega)
      · refine ⟨(hM7_2892).l16, ?_⟩
        refine sX10_advance  hM7_2892 (show isS 8 by decide) (hM7_2892).l16 ?_
        intro M23_2925 hM23_2925
        exact ih _ _ hM23_2925 (by omega) (by omega)
theorem sX11_years {p1 : Int} {p2 : Int} {M : Mem} {Q : Int → Mem → Prop} (hI : IX M) (hQ : ∀ z : Int, ∀ M' : Mem, IX M' → Q z M') : qX11_years p1 p2 M Q := by
  unfold qX11_years
  refine ⟨fun c => ?_, fun c => ?_⟩
  · exact hQ _ _ hI
  · refine ⟨fun c => ?_, fun c => ?_⟩
    · refine sX6_copyFrom  hI (show isS 8 by decide) (show isS 1 by decide) ?_
      intro M3_2929 hM3_2929 gM3_2929
      intro M4_2930 h_M4_2930
      have hM4_2930 : IX M4_2930 := by rw [h_M4_2930]; exact hM3_2929.up15 (by decide)
      refine ⟨61, ?_⟩
      refine sX11_years_L31 ?_ ?_ _ _ _ hM4_2930 (by omega) (by omega)
      · exact hQ
      · intro M_2931 hM_2931
        intro x25_2932 ex25_2932 rx25_2932
        have bx25_2932 : -2147483648 ≤ x25_2932 ∧ x25_2932 ≤ 2147483647 := rx25_2932
        refine sX6_rightBits  hM_2931 (show isS 8 by decide) ?_
        intro x26_2933 q2934
        refine sJ6_bitCount_0f7a4 (p0 := x26_2933) hM_2931  ?_
        intro x27_2935 p2936 q2937
        refine sX4_tellTwo (p1 := x25_2932) (p3 := x27_2935) hM_2931  ?_
        intro M28_2938 hM28_2938
        intro x29_2939 ex29_2939 rx29_2939
        have bx29_2939 : -2147483648 ≤ x29_2939 ∧ x29_2939 ≤ 2147483647 := rx29_2939
        exact hQ _ _ hM28_2938
    · exact hQ _ _ hI
theorem sX11_again {p1 : Int} {M : Mem} {Q : Int → Mem → Prop} (hI : IX M) (hQ : ∀ z : Int, ∀ M' : Mem, IX M' → Q z M') : qX11_again p1 M Q := by
  unfold qX11_again
  refine ⟨fun c => ?_, fun c => ?_⟩
  · exact hQ _ _ hI
  · refine ⟨fun c => ?_, fun c => ?_⟩
    · exact hQ _ _ hI
    · refine ⟨by omega, ?_⟩
      refine ⟨by omega, ?_⟩
      intro x5_2951 ex5_2951 rx5_2951
      have bx5_2951 : -2147483648 ≤ x5_2951 ∧ x5_2951 ≤ 2147483647 := rx5_2951
      refine ⟨fun c => ?_, fun c => ?_⟩
      · intro x7_2953 ex7_2953 rx7_2953
        have bx7_2953 : 0 ≤ x7_2953 ∧ x7_2953 ≤ 6 := by rw [ex7_2953]; exact (bx_s0_6 (isS_kept (e := p1) (by omega) (by omega))).mp (hI.bx _ _)
        intro x8_2954 ex8_2954 rx8_2954
        have bx8_2954 : 0 ≤ x8_2954 ∧ x8_2954 ≤ 6 := by rw [ex8_2954]; exact (bx_s0_6 (show isS 1 by decide)).mp (hI.bx _ _)
        refine ⟨fun c => ?_, fun c => ?_⟩
        · exact hQ _ _ hI
        · intro x10_2957 ex10_2957 rx10_2957
          have bx10_2957 : 0 ≤ x10_2957 ∧ x10_2957 ≤ 8 := by rw [ex10_2957]; exact (bx_s0_7 (isS_kept (e := p1) (by omega) (by omega))).mp (hI.bx _ _)
          intro x11_2958 ex11_2958 rx11_2958
          have bx11_2958 : 0 ≤ x11_2958 ∧ x11_2958 ≤ 8 := by rw [ex11_2958]; exact (bx_s0_7 (show isS 1 by decide)).mp (hI.bx _ _)
          refine ⟨fun c => ?_, fun c => ?_⟩
          · refine sX6_copyFrom  hI (show isS 1 by decide) (isS_kept (e := p1) (by omega) (by omega)) ?_
            intro M13_2960 hM13_2960 gM13_2960
            refine sX1_clear  hM13_2960  ?_
            intro M14_2961 hM14_2961
            exact hQ _ _ hM14_2961
          · exact hQ _ _ hI
      · exact hQ _ _ hI
theorem sX11_count {p1 : Int} {M : Mem} {Q : Int → Mem → Prop} (hI : IX M) (hQ : ∀ z : Int, Q z M) : qX11_count p1 M Q := by
  unfold qX11_count
  refine ⟨fun c => ?_, fun c => ?_, fun c => ?_, fun c => ?_, fun c => ?_, fun c => ?_, fun c => ?_, fun c => ?_, fun c => ?_, fun c => ?_, fun c => ?_, fun c => ?_, fun c => ?_, fun c => ?_⟩
  · intro x2_2965 ex2_2965 rx2_2965
    have bx2_2965 : 4 ≤ x2_2965 ∧ x2_2965 ≤ 30 := by rw [ex2_2965]; exact (bx_c158_1).mp (hI.bx _ _)
    exact hQ _
  · intro x3_2967 ex3_2967 rx3_2967
    have bx3_2967 : 0 ≤ x3_2967 ∧ x3_2967 ≤ 6 := by rw [ex3_2967]; exact (bx_s0_6 (show isS 1 by decide)).mp (hI.bx _ _)
    exact hQ _
  · intro x4_2969 ex4_2969 rx4_2969
    have bx4_2969 : 0 ≤ x4_2969 ∧ x4_2969 ≤ 8 := by rw [ex4_2969]; exact (bx_s0_7 (show isS 1 by decide)).mp (hI.bx _ _)
    exact hQ _
  · intro x5_2971 ex5_2971 rx5_2971
    have bx5_2971 : -2147483648 ≤ x5_2971 ∧ x5_2971 ≤ 2147483647 := rx5_2971
    exact hQ _
  · intro x6_2973 ex6_2973 rx6_2973
    have bx6_2973 : -2147483648 ≤ x6_2973 ∧ x6_2973 ≤ 2147483647 := rx6_2973
    exact hQ _
  · intro x7_2975 ex7_2975 rx7_2975
    have bx7_2975 : -2147483648 ≤ x7_2975 ∧ x7_2975 ≤ 2147483647 := rx7_2975
    exact hQ _
  · refine sX6_rightBits  hI (show isS 1 by decide) ?_
    intro x8_2977 q2978
    refine sJ6_bitCount_0f7a4 (p0 := x8_2977) hI  ?_
    intro x9_2979 p2980 q2981
    exact hQ _
  · intro x10_2983 ex10_2983 rx10_2983
    have bx10_2983 : -2147483648 ≤ x10_2983 ∧ x10_2983 ≤ 2147483647 := rx10_2983
    refine sJ6_bitCount_0f7a4 (p0 := x10_2983) hI  ?_
    intro x11_2984 p2985 q2986
    exact hQ _
  · intro x12_2988 ex12_2988 rx12_2988
    have bx12_2988 : -2147483648 ≤ x12_2988 ∧ x12_2988 ≤ 2147483647 := rx12_2988
    refine sX8_weatherAt (p1 := x12_2988) hI (by omega) ?_
    intro x13_2989 q2990
    exact hQ _
  · intro x14_2992 ex14_2992 rx14_2992
    have bx14_2992 : 0 ≤ x14_2992 ∧ x14_2992 ≤ 8 := by rw [ex14_2992]; exact (bx_c182_2).mp (hI.bx _ _)
    exact hQ _
  · intro x15_2994 ex15_2994 rx15_2994
    have bx15_2994 : 0 ≤ x15_2994 ∧ x15_2994 ≤ 15 := by rw [ex15_2994]; exact (bx_c163_2).mp (hI.bx _ _)
    exact hQ _
  · intro x16_2996 ex16_2996 rx16_2996
    have bx16_2996 : 0 ≤ x16_2996 ∧ x16_2996 ≤ 8 := by rw [ex16_2996]; exact (bx_c167_1).mp (hI.bx _ _)
    exact hQ _
  · intro x17_2998 ex17_2998 rx17_2998
    have bx17_2998 : 0 ≤ x17_2998 ∧ x17_2998 ≤ 80 := by rw [ex17_2998]; exact (bx_c156_1).mp (hI.bx _ _)
    exact hQ _
  · exact hQ _
theorem sX11_paceNow {p1 : Int} {M : Mem} {Q : Int → Mem → Prop} (hI : IX M) (hp : 0 ≤ p1 ∧ p1 ≤ 5) (hQ : ∀ z : Int, ∀ M' : Mem, IX M' → Q z M') : qX11_paceNow p1 M Q := by
  unfold qX11_paceNow
  refine sX6_hasArrived (p1 := p1) hI (show isS 1 by decide) (by omega) ?_
  intro x1_3000 q3001 q3002
  refine ⟨fun c => ?_, fun c => ?_⟩
  · refine ⟨(hI).l16, ?_⟩
    refine sX2_observe (p3 := p1) hI (hI).l16 (show isS 1 by decide) (by omega) ?_
    intro M4_3004 hM4_3004
    refine ⟨(hM4_3004).l16, ?_⟩
    refine sX2_pace  hM4_3004 (hM4_3004).l16 ?_
    intro x6_3005 M6_3006 hM6_3006 p3007 q3008
    exact hQ _ _ hM6_3006
  · exact hQ _ _ hI
end
section
/-! SPECS of the reference: its boxes -/
def FrJ (P : Nat → Int → Prop) (M M' : Mem) : Prop := ∀ k j, ¬ P k j → M' k j = M k j
theorem FrJ.rf {P : Nat → Int → Prop} {M : Mem} : FrJ P M M := fun _ _ _ => rfl
theorem FrJ.tr {P : Nat → Int → Prop} {M M1 M2 : Mem} (h : FrJ P M M1) (h2 : FrJ P M1 M2) : FrJ P M M2 := fun i j hi => (h2 i j hi).trans (h i j hi)
theorem FrJ.mono {P P' : Nat → Int → Prop} {M M' : Mem} (h : FrJ P M M') (hP : ∀ i j, P i j → P' i j) : FrJ P' M M' := fun i j hi => h i j (fun q => hi (hP i j q))
theorem FrJ.up {P : Nat → Int → Prop} {M M' : Mem} (h : FrJ P M M') {k : Nat} {j v : Int} (hk : P k j) : FrJ P M (up2 M' k j v) := fun i j' hi => by
  rw [up2_a]
  by_cases c : i = k
  · by_cases c2 : j' = j
    · exact absurd (by rw [c, c2]; exact hk) hi
    · rw [if_pos c, if_neg c2]; exact h i j' hi
  · rw [if_neg c]; exact h i j' hi
abbrev isN (k : Nat) : Prop := k = 5 ∨ k = 6
/-- a number of a scene of the reference, by its place -/
def BN (b j v : Int) : Prop := (0 ≤ j ∧ j ≤ 5 → -1 ≤ v ∧ v ≤ 29) ∧ (13 ≤ j ∧ j ≤ 20 → -1 ≤ v ∧ v ≤ 29) ∧ (21 ≤ j ∧ j ≤ 28 → -1 ≤ v ∧ v ≤ 5) ∧ (j = 37 → 0 ≤ v ∧ v ≤ b)
theorem BN.mono {b b' j v : Int} (h : BN b j v) (hb : b ≤ b') : BN b' j v := ⟨h.1, h.2.1, h.2.2.1, fun c => ⟨(h.2.2.2 c).1, by have := (h.2.2.2 c).2; omega⟩⟩
def BM (b : Int) (k : Nat) (j v : Int) : Prop := if k = 5 ∨ k = 6 then BN b j v else if k = 15 ∨ k = 31 then BN b (j % 38) v else if k = 1 then (if j = 1 then 0 ≤ v ∧ v ≤ 24 else if j = 3 then 4 ≤ v ∧ v ≤ 30 else if j = 4 then 0 ≤ v ∧ v ≤ 6 else if j = 5 then 0 ≤ v ∧ v ≤ 8 else if j = 6 then 0 ≤ v ∧ v ≤ b else if j = 7 then 1 ≤ v ∧ v ≤ 20 else if j = 14 then 0 ≤ v ∧ v ≤ 80 else if j = 15 then 0 ≤ v ∧ v ≤ 80 else if j = 16 then 0 ≤ v ∧ v ≤ 80 else if j = 20 then 0 ≤ v ∧ v ≤ 8 else if j = 24 then 0 ≤ v ∧ v ≤ 80 else if j = 25 then 0 ≤ v ∧ v ≤ 80 else if j = 28 then 0 ≤ v ∧ v ≤ 15 else if j = 35 then 0 ≤ v ∧ v ≤ 6 else if j = 39 then 0 ≤ v ∧ v ≤ 60 else if j = 45 then 0 ≤ v ∧ v ≤ 8 else True) else if k = 3 then 0 ≤ v ∧ v ≤ 5 else if k = 7 then 0 ≤ v ∧ v ≤ 255 else if k = 8 then 0 ≤ v ∧ v ≤ 1 else if k = 9 then -1 ≤ v ∧ v ≤ 29 else if k = 18 then 0 ≤ v ∧ v ≤ 5 else if k = 20 then -1 ≤ v ∧ v ≤ 9 else if k = 21 then -100 ≤ v ∧ v ≤ 300 else if k = 22 then -1 ≤ v ∧ v ≤ 29 else True
theorem bm_n {b : Int} {k : Nat} (h : isN k) {j v : Int} : BM b k j v ↔ BN b j v := by unfold BM; rw [if_pos h]
theorem bm_c15 {b j v : Int} : BM b 15 j v ↔ BN b (j % 38) v := by simp [BM]
theorem bm_c31 {b j v : Int} : BM b 31 j v ↔ BN b (j % 38) v := by simp [BM]
theorem bm_c1_1 {b v : Int} : BM b 1 1 v ↔ (0 ≤ v ∧ v ≤ 24) := by simp [BM]
theorem bm_c1_3 {b v : Int} : BM b 1 3 v ↔ (4 ≤ v ∧ v ≤ 30) := by simp [BM]
theorem bm_c1_4 {b v : Int} : BM b 1 4 v ↔ (0 ≤ v ∧ v ≤ 6) := by simp [BM]
theorem bm_c1_5 {b v : Int} : BM b 1 5 v ↔ (0 ≤ v ∧ v ≤ 8) := by simp [BM]
theorem bm_c1_6 {b v : Int} : BM b 1 6 v ↔ (0 ≤ v ∧ v ≤ b) := by simp [BM]
theorem bm_c1_7 {b v : Int} : BM b 1 7 v ↔ (1 ≤ v ∧ v ≤ 20) := by simp [BM]
theorem bm_c1_14 {b v : Int} : BM b 1 14 v ↔ (0 ≤ v ∧ v ≤ 80) := by simp [BM]
theorem bm_c1_15 {b v : Int} : BM b 1 15 v ↔ (0 ≤ v ∧ v ≤ 80) := by simp [BM]
theorem bm_c1_16 {b v : Int} : BM b 1 16 v ↔ (0 ≤ v ∧ v ≤ 80) := by simp [BM]
theorem bm_c1_20 {b v : Int} : BM b 1 20 v ↔ (0 ≤ v ∧ v ≤ 8) := by simp [BM]
theorem bm_c1_24 {b v : Int} : BM b 1 24 v ↔ (0 ≤ v ∧ v ≤ 80) := by simp [BM]
theorem bm_c1_25 {b v : Int} : BM b 1 25 v ↔ (0 ≤ v ∧ v ≤ 80) := by simp [BM]
theorem bm_c1_28 {b v : Int} : BM b 1 28 v ↔ (0 ≤ v ∧ v ≤ 15) := by simp [BM]
theorem bm_c1_35 {b v : Int} : BM b 1 35 v ↔ (0 ≤ v ∧ v ≤ 6) := by simp [BM]
theorem bm_c1_39 {b v : Int} : BM b 1 39 v ↔ (0 ≤ v ∧ v ≤ 60) := by simp [BM]
theorem bm_c1_45 {b v : Int} : BM b 1 45 v ↔ (0 ≤ v ∧ v ≤ 8) := by simp [BM]
theorem bm_c3 {b j v : Int} : BM b 3 j v ↔ (0 ≤ v ∧ v ≤ 5) := by simp [BM]
theorem bm_c7 {b j v : Int} : BM b 7 j v ↔ (0 ≤ v ∧ v ≤ 255) := by simp [BM]
theorem bm_c8 {b j v : Int} : BM b 8 j v ↔ (0 ≤ v ∧ v ≤ 1) := by simp [BM]
theorem bm_c9 {b j v : Int} : BM b 9 j v ↔ (-1 ≤ v ∧ v ≤ 29) := by simp [BM]
theorem bm_c18 {b j v : Int} : BM b 18 j v ↔ (0 ≤ v ∧ v ≤ 5) := by simp [BM]
theorem bm_c20 {b j v : Int} : BM b 20 j v ↔ (-1 ≤ v ∧ v ≤ 9) := by simp [BM]
theorem bm_c21 {b j v : Int} : BM b 21 j v ↔ (-100 ≤ v ∧ v ≤ 300) := by simp [BM]
theorem bm_c22 {b j v : Int} : BM b 22 j v ↔ (-1 ≤ v ∧ v ≤ 29) := by simp [BM]
/-- how many wait after n rows of code -/
def dpc (f : Int → Int) : Nat → Int
  | 0 => 0
  | n + 1 => dpc f n + (if f n = 3000 then 0 else if f n < 2000 then 1 else -1)
/-- code that can be worked: nothing is taken that does not wait, letters are seven -/
def WFC (f : Int → Int) (n : Int) : Prop := ∀ j : Nat, (j : Int) < n → (f j = 3000 → 1 ≤ dpc f j) ∧ (2000 ≤ f j → f j ≠ 3000 → 2 ≤ dpc f j) ∧ (1000 ≤ f j → f j < 2000 → f j < 1007)
def IB (b : Int) (M : Mem) : Prop := ∀ k j, BM b k j (M k j)
def IM (b : Int) (M : Mem) : Prop := IB b M ∧ WFC (M 11) (M 1 24)
theorem IM.bx {b : Int} {M : Mem} (h : IM b M) (k : Nat) (j : Int) : BM b k j (M k j) := h.1 k j
theorem IB.up {b : Int} {M : Mem} (h : IB b M) {k : Nat} {j v : Int} (hv : BM b k j v) : IB b (up2 M k j v) := by
  intro k' j'
  rw [up2_a]
  by_cases c : k' = k
  · rw [if_pos c]
    by_cases c2 : j' = j
    · rw [if_pos c2, c, c2]; exact hv
    · rw [if_neg c2]; exact h k' j'
  · rw [if_neg c]; exact h k' j'
theorem IM.up {b : Int} {M : Mem} (h : IM b M) {k : Nat} {j v : Int} (hs : k ≠ 11 ∧ (k = 1 → j ≠ 24)) (hv : BM b k j v) : IM b (up2 M k j v) := by
  refine ⟨h.1.up hv, ?_⟩
  have h2 : up2 M k j v 1 24 = M 1 24 := by
    rw [up2_a]
    by_cases c : (1 : Nat) = k
    · rw [if_pos c, if_neg (fun q => hs.2 c.symm q.symm)]
    · rw [if_neg c]
  rw [up2_n (fun q => hs.1 q.symm), h2]
  exact h.2
theorem IB.mono {b b' : Int} {M : Mem} (h : IB b M) (hb : b ≤ b') : IB b' M := by
  intro k j
  by_cases c : isN k
  · exact (bm_n c).mpr (((bm_n c).mp (h k j)).mono hb)
  · by_cases c15 : k = 15
    · subst c15; exact bm_c15.mpr ((bm_c15.mp (h 15 j)).mono hb)
    · by_cases c31 : k = 31
      · subst c31; exact bm_c31.mpr ((bm_c31.mp (h 31 j)).mono hb)
      · by_cases c6 : k = 1 ∧ j = 6
        · obtain ⟨rfl, rfl⟩ := c6
          have := bm_c1_6.mp (h 1 6)
          exact bm_c1_6.mpr ⟨by omega, by omega⟩
        · have q := h k j
          unfold BM at q ⊢
          rw [if_neg c, if_neg (by omega)] at q ⊢
          by_cases c1 : k = 1
          · rw [if_pos c1] at q ⊢
            by_cases d6 : j = 6
            · exact absurd ⟨c1, d6⟩ c6
            · rw [if_neg d6] at *
              exact q
          · rw [if_neg c1] at q ⊢
            exact q
theorem IM.mono {b b' : Int} {M : Mem} (h : IM b M) (hb : b ≤ b') : IM b' M := ⟨h.1.mono hb, h.2⟩
theorem IM.nn {b : Int} {M : Mem} (h : IM b M) : 0 ≤ b := by have := bm_c1_6.mp (h.1 1 6); omega
theorem tk2 (n : Nat) : (((bS 2).take n).length : Int) ≤ 7 := by
  rw [List.length_take]
  have : (bS 2).length = 6 := rfl
  omega
theorem sJ6_bitCountM {p0 b : Int} {M : Mem} {Q : Int → Mem → Prop} (hI : IM b M) (hQ : ∀ z : Int, (0 ≤ z ∧ z ≤ 63) → Q z M) : qJ6_bitCount_0f7a4 p0 M Q := by
  unfold qJ6_bitCount_0f7a4
  intro x1 _ _ x2 _ _ x3 _ _ x4 _ _ x5 _ _ x6 _ _ x7 _ _ x8 _ _ x9 _ _ x10 e10 _
  exact hQ _ (by rw [e10]; exact aI_63 _)
theorem isN.nu {k : Nat} (h : isN k) (j : Int) : k ≠ 11 ∧ (k = 1 → j ≠ 24) := by
  rcases h with h | h
  · subst h; exact ⟨by decide, fun q => absurd q (by decide)⟩
  · subst h; exact ⟨by decide, fun q => absurd q (by decide)⟩
end
section
theorem sX12_in {p0 : Int} {p2 : Int} {p4 : Int} {b : Int} {M : Mem} {Q : Int → Mem → Prop} (hI : IM b M) (hQ : ∀ z : Int, ((z = 0 ∨ z = 1) ∧ (z = 1 → p2 ≤ p0 ∧ p0 ≤ p4) ∧ (z = 0 → p0 < p2 ∨ p4 < p0)) → Q z M) : qX12_in p0 p2 p4 M Q := by
  unfold qX12_in
  have hbn := hI.nn
  intro x1_22 rx1_22 cx1_22
  refine ⟨fun c => ?_, fun c => ?_⟩
  · exact hQ _ (by omega)
  · intro x3_25 rx3_25 cx3_25
    refine ⟨fun c => ?_, fun c => ?_⟩
    · exact hQ _ (by omega)
    · exact hQ _ (by omega)
theorem sX12_begins {p1 : Int} {b : Int} {M : Mem} {Q : Int → Mem → Prop} (hI : IM b M) (hp : 0 ≤ p1 ∧ p1 ≤ 80) (hQ : ∀ z : Int, ∀ M' : Mem, IM b M' → FrJ (fun k j => k = 1 ∧ (j = 14 ∨ j = 15 ∨ j = 16 ∨ j = 17)) M M' → (0 ≤ z ∧ z ≤ 80 ∧ M' 1 15 = 0 ∧ M' 1 16 ≤ p1 ∧ M' 1 17 = 0 ∧ z = M 1 14 ∧ M' 1 14 = 0) → Q z M') : qX12_begins p1 M Q := by
  unfold qX12_begins
  have hbn := hI.nn
  have u37 : 0 ≤ M 1 14 ∧ M 1 14 ≤ 80 := bm_c1_14.mp (hI.bx _ _)
  have u38 : 0 ≤ M 1 15 ∧ M 1 15 ≤ 80 := bm_c1_15.mp (hI.bx _ _)
  have u39 : 0 ≤ M 1 16 ∧ M 1 16 ≤ 80 := bm_c1_16.mp (hI.bx _ _)
  intro x1_40 ex1_40 rx1_40
  have bx1_40 : 0 ≤ x1_40 ∧ x1_40 ≤ 80 := by rw [ex1_40]; exact bm_c1_14.mp (hI.bx _ _)
  intro M2_41 h_M2_41
  have hM2_41 : IM (b) M2_41 := by rw [h_M2_41]; exact hI.up (by omega) (bm_c1_14.mpr (by omega))
  have hFM2_41 : FrJ (fun k j => k = 1 ∧ (j = 14 ∨ j = 15 ∨ j = 16 ∨ j = 17)) M M2_41 := by rw [h_M2_41]; exact (FrJ.rf).up (by omega)
  intro M3_42 h_M3_42
  have hM3_42 : IM (b) M3_42 := by rw [h_M3_42]; exact hM2_41.up (by omega) (bm_c1_15.mpr (by omega))
  have hFM3_42 : FrJ (fun k j => k = 1 ∧ (j = 14 ∨ j = 15 ∨ j = 16 ∨ j = 17)) M M3_42 := by rw [h_M3_42]; exact (hFM2_41).up (by omega)
  intro M4_43 h_M4_43
  have hM4_43 : IM (b) M4_43 := by rw [h_M4_43]; exact hM3_42.up (by omega) (by simp [BM])
  have hFM4_43 : FrJ (fun k j => k = 1 ∧ (j = 14 ∨ j = 15 ∨ j = 16 ∨ j = 17)) M M4_43 := by rw [h_M4_43]; exact (hFM3_42).up (by omega)
  intro x5_44 ex5_44 rx5_44
  intro M6_45 h_M6_45
  have hM6_45 : IM (b) M6_45 := by rw [h_M6_45]; exact hM4_43.up (by omega) (bm_c1_16.mpr (by omega))
  have hFM6_45 : FrJ (fun k j => k = 1 ∧ (j = 14 ∨ j = 15 ∨ j = 16 ∨ j = 17)) M M6_45 := by rw [h_M6_45]; exact (hFM4_43).up (by omega)
  have u46 : 0 ≤ M6_45 1 15 ∧ M6_45 1 15 ≤ 80 := bm_c1_15.mp (hM6_45.bx _ _)
  have u47 : 0 ≤ M6_45 1 16 ∧ M6_45 1 16 ≤ 80 := bm_c1_16.mp (hM6_45.bx _ _)
  have u48 : 0 ≤ M6_45 1 14 ∧ M6_45 1 14 ≤ 80 := bm_c1_14.mp (hM6_45.bx _ _)
  have t49 : M6_45 1 15 = 0 := by rw [h_M6_45, up2_j (by decide), h_M4_43, up2_j (by decide), h_M3_42, up2_s]
  have t50 : M6_45 1 16 = x5_44 := by rw [h_M6_45, up2_s]
  have t51 : M6_45 1 17 = 0 := by rw [h_M6_45, up2_j (by decide), h_M4_43, up2_s]
  have t52 : M6_45 1 14 = 0 := by rw [h_M6_45, up2_j (by decide), h_M4_43, up2_j (by decide), h_M3_42, up2_j (by decide), h_M2_41, up2_s]
  exact hQ _ _ (hM6_45.mono (by first | exact Int.le_refl _ | omega)) hFM6_45 (by omega)
theorem sX12_flag {p0 : Int} {b : Int} {M : Mem} {Q : Int → Mem → Prop} (hI : IM b M) (hQ : ∀ z : Int, ((z = 0 ∨ z = 1) ∧ (z = 0 → p0 = 0) ∧ (z = 1 → ¬ p0 = 0)) → Q z M) : qX12_flag p0 M Q := by
  unfold qX12_flag
  have hbn := hI.nn
  refine ⟨fun c => ?_, fun c => ?_⟩
  · exact hQ _ (by omega)
  · exact hQ _ (by omega)
theorem sX12_takesOf_L2 {bs : List Int} {X38 : Int → Mem → Prop} {Q : Int → Mem → Prop} {b : Int} {M0 : Mem} (hp : (bs.length : Int) ≤ 7) (hQ : ∀ z : Int, ∀ M' : Mem, IM b M' → FrJ (fun k j => k = 1 ∧ j = 15) M0 M' → (-1 ≤ z ∧ z < bs.length ∧ z ≤ 6 ∧ M0 1 15 ≤ M' 1 15 ∧ (0 ≤ z → M' 1 15 = M0 1 15 + 1)) → Q z M') (hX38 : ∀ w1 : Int, ∀ M' : Mem, IM (b) M' → FrJ (fun k j => k = 1 ∧ j = 15) M0 M' → (0 ≤ w1 ∧ w1 < bs.length ∧ M' 1 15 < M' 1 16 ∧ M' 1 16 ≤ 80 ∧ M' 1 15 = M0 1 15) → X38 w1 M') : ∀ (n : Nat) (v2 : Int) (M : Mem), IM (b) M → FrJ (fun k j => k = 1 ∧ j = 15) M0 M → (0 ≤ v2 ∧ v2 ≤ bs.length ∧ M 1 15 = M0 1 15) → bs.length - v2 < (n : Int) → qX12_takesOf_L2 bs X38 Q n v2 M := by
  intro n
  induction n with
  | zero => intro v2 M hI hF hv hm; exact absurd hm (by omega)
  | succ n ih =>
    intro v2 M hI hF hv hm
    rw [qX12_takesOf_L2]
    have hbn := hI.nn
    have u55 : 0 ≤ M 1 15 ∧ M 1 15 ≤ 80 := bm_c1_15.mp (hI.bx _ _)
    have u56 : 0 ≤ M 1 16 ∧ M 1 16 ≤ 80 := bm_c1_16.mp (hI.bx _ _)
    intro x1_57 ex1_57 rx1_57
    refine ⟨(by first | assumption | exact (by omega)), ?_⟩
    refine ⟨fun c => ?_, fun c => ?_⟩
    · have u59 : 0 ≤ M 1 15 ∧ M 1 15 ≤ 80 := bm_c1_15.mp (hI.bx _ _)
      exact hQ _ _ (hI.mono (by first | exact Int.le_refl _ | omega)) hF (by omega)
    · intro x4_61 ex4_61 rx4_61
      have bx4_61 : 0 ≤ x4_61 ∧ x4_61 ≤ 80 := by rw [ex4_61]; exact bm_c1_15.mp (hI.bx _ _)
      intro x5_62 ex5_62 rx5_62
      have bx5_62 : 0 ≤ x5_62 ∧ x5_62 ≤ 80 := by rw [ex5_62]; exact bm_c1_16.mp (hI.bx _ _)
      refine ⟨fun c => ?_, fun c => ?_⟩
      · have u64 : 0 ≤ M 1 15 ∧ M 1 15 ≤ 80 := bm_c1_15.mp (hI.bx _ _)
        exact hQ _ _ (hI.mono (by first | exact Int.le_refl _ | omega)) hF (by omega)
      · refine ⟨by omega, ?_⟩
        refine ⟨by omega, ?_⟩
        intro x9_66 ex9_66 rx9_66
        intro x10_67 ex10_67 rx10_67
        have bx10_67 : 0 ≤ x10_67 ∧ x10_67 ≤ 80 := by rw [ex10_67]; exact bm_c1_15.mp (hI.bx _ _)
        refine ⟨by omega, ?_⟩
        refine ⟨by omega, ?_⟩
        intro x13_68 ex13_68 rx13_68
        have bx13_68 : 0 ≤ x13_68 ∧ x13_68 ≤ 255 := by rw [ex13_68]; exact bm_c7.mp (hI.bx _ _)
        have cgx13_68 : x13_68 = M 7 (M 1 15) := by rw [ex13_68, ← ex10_67]
        refine ⟨fun c => ?_, fun c => ?_⟩
        · exact ih _ _ (hI.mono (by first | exact Int.le_refl _ | omega)) hF (by omega) (by omega)
        · exact hX38 _ _ (hI.mono (by first | exact Int.le_refl _ | omega)) hF (by omega)
theorem sX12_takesOf {bs : List Int} {b : Int} {M : Mem} {Q : Int → Mem → Prop} (hI : IM b M) (hp : (bs.length : Int) ≤ 7) (hQ : ∀ z : Int, ∀ M' : Mem, IM b M' → FrJ (fun k j => k = 1 ∧ j = 15) M M' → (-1 ≤ z ∧ z < bs.length ∧ z ≤ 6 ∧ M 1 15 ≤ M' 1 15 ∧ (0 ≤ z → M' 1 15 = M 1 15 + 1)) → Q z M') : qX12_takesOf bs M Q := by
  unfold qX12_takesOf
  have hbn := hI.nn
  have u71 : 0 ≤ M 1 15 ∧ M 1 15 ≤ 80 := bm_c1_15.mp (hI.bx _ _)
  refine ⟨(bs.length + 1), ?_⟩
  refine sX12_takesOf_L2 (b := b)  (M0 := M) hp ?_ ?_ _ _ _ (hI.mono (by first | exact Int.le_refl _ | omega)) FrJ.rf (by omega) (by omega)
  · exact hQ
  · intro v2_72 M_73 hM_73 hFM_73 p74
    intro x16_75 ex16_75 rx16_75
    have bx16_75 : 0 ≤ x16_75 ∧ x16_75 ≤ 80 := by rw [ex16_75]; exact bm_c1_15.mp (hM_73.bx _ _)
    refine ⟨(by first | assumption | exact (by omega)), ?_⟩
    intro M18_76 h_M18_76
    have hM18_76 : IM (b) M18_76 := by rw [h_M18_76]; exact hM_73.up (by omega) (bm_c1_15.mpr (by omega))
    have hFM18_76 : FrJ (fun k j => k = 1 ∧ j = 15) M M18_76 := by rw [h_M18_76]; exact (hFM_73).up (by omega)
    refine ⟨(by first | assumption | exact (by omega)), ?_⟩
    have u77 : 0 ≤ M18_76 1 15 ∧ M18_76 1 15 ≤ 80 := bm_c1_15.mp (hM18_76.bx _ _)
    have t78 : M18_76 1 15 = x16_75 + 1 := by rw [h_M18_76, up2_s]
    exact hQ _ _ (hM18_76.mono (by first | exact Int.le_refl _ | omega)) hFM18_76 (by omega)
theorem sX12_avenue_L16  {X69 : Int → Mem → Prop} {Q : Int → Mem → Prop} {b : Int} (hb : b + 1 ≤ 2000000000) (hQ : ∀ z : Int, ∀ M' : Mem, IM (b + 1) M' → Q z M') (hX69 : ∀ w1 : Int, ∀ M' : Mem, IM (b) M' → (0 ≤ w1 ∧ w1 ≤ 30) → X69 w1 M') : ∀ (n : Nat) (v1 v2 : Int) (M : Mem), IM (b) M → (0 ≤ v1 ∧ v1 ≤ 30 ∧ 0 ≤ v2 ∧ v2 ≤ 1) → 30 - v1 + v2 < (n : Int) → qX12_avenue_L16 X69 Q n v1 v2 M := by
  intro n
  induction n with
  | zero => intro v1 v2 M hI hv hm; exact absurd hm (by omega)
  | succ n ih =>
    intro v1 v2 M hI hv hm
    rw [qX12_avenue_L16]
    have hbn := hI.nn
    refine ⟨(by first | assumption | exact (by omega)), ?_⟩
    refine ⟨fun c => ?_, fun c => ?_⟩
    · exact hX69 _ _ (hI.mono (by first | exact Int.le_refl _ | omega)) (by omega)
    · refine ⟨(by first | assumption | exact (by omega)), ?_⟩
      refine ⟨fun c => ?_, fun c => ?_⟩
      · exact hX69 _ _ (hI.mono (by first | exact Int.le_refl _ | omega)) (by omega)
      · refine sX12_takesOf  hI (by first | decide | exact tk2 _) ?_
        intro x7_83 M7_84 hM7_84 gM7_84 p85 q86
        refine ⟨fun c => ?_, fun c => ?_⟩
        · unfold qX12_avenue_J42
          refine ⟨(by first | assumption | exact (by omega)), ?_⟩
          refine ⟨fun c => ?_, fun c => ?_⟩
          · unfold qX12_avenue_J58
            refine ⟨by omega, ?_⟩
            refine ⟨by omega, ?_⟩
            refine ⟨(by first | assumption | exact (by omega)), ?_⟩
            refine ⟨by omega, ?_⟩
            intro M15_89 h_M15_89
            have hM15_89 : IM (b) M15_89 := by rw [h_M15_89]; exact hM7_84.up (by omega) (bm_c8.mpr (by omega))
            refine ⟨(by first | assumption | exact (by omega)), ?_⟩
            refine sX12_flag (p0 := 0) hM15_89  ?_
            intro x17_90 p91 q92
            exact ih _ _ _ (hM15_89.mono (by first | exact Int.le_refl _ | omega)) (by omega) (by omega)
          · unfold qX12_avenue_J58
            refine ⟨by omega, ?_⟩
            refine ⟨by omega, ?_⟩
            refine ⟨(by first | assumption | exact (by omega)), ?_⟩
            refine ⟨by omega, ?_⟩
            intro M15_94 h_M15_94
            have hM15_94 : IM (b) M15_94 := by rw [h_M15_94]; exact hM7_84.up (by omega) (bm_c8.mpr (by omega))
            refine ⟨(by first | assumption | exact (by omega)), ?_⟩
            refine sX12_flag (p0 := 0) hM15_94  ?_
            intro x17_95 p96 q97
            exact ih _ _ _ (hM15_94.mono (by first | exact Int.le_refl _ | omega)) (by omega) (by omega)
        · unfold qX12_avenue_J42
          refine ⟨(by first | assumption | exact (by omega)), ?_⟩
          refine ⟨fun c => ?_, fun c => ?_⟩
          · unfold qX12_avenue_J58
            refine ⟨by omega, ?_⟩
            refine ⟨by omega, ?_⟩
            refine ⟨(by first | assumption | exact (by omega)), ?_⟩
            refine ⟨by omega, ?_⟩
            intro M15_100 h_M15_100
            have hM15_100 : IM (b) M15_100 := by rw [h_M15_100]; exact hM7_84.up (by omega) (bm_c8.mpr (by omega))
            refine ⟨(by first | assumption | exact (by omega)), ?_⟩
            refine sX12_flag (p0 := 1) hM15_100  ?_
            intro x17_101 p102 q103
            exact ih _ _ _ (hM15_100.mono (by first | exact Int.le_refl _ | omega)) (by omega) (by omega)
          · unfold qX12_avenue_J58
            refine ⟨by omega, ?_⟩
            refine ⟨by omega, ?_⟩
            refine ⟨(by first | assumption | exact (by omega)), ?_⟩
            refine ⟨by omega, ?_⟩
            intro M15_105 h_M15_105
            have hM15_105 : IM (b) M15_105 := by rw [h_M15_105]; exact hM7_84.up (by omega) (bm_c8.mpr (by omega))
            refine ⟨(by first | assumption | exact (by omega)), ?_⟩
            refine sX12_flag (p0 := 1) hM15_105  ?_
            intro x17_106 p107 q108
            exact ih _ _ _ (hM15_105.mono (by first | exact Int.le_refl _ | omega)) (by omega) (by omega)
theorem sX12_avenue_L99  {X122 : Int → Mem → Prop} {Q : Int → Mem → Prop} {b : Int} (hb : b + 1 ≤ 2000000000) (hQ : ∀ z : Int, ∀ M' : Mem, IM (b + 1) M' → Q z M') (hX122 : ∀ w1 : Int, ∀ M' : Mem, IM (b) M' → (4 ≤ w1 ∧ w1 ≤ 30) → X122 w1 M') : ∀ (n : Nat) (v1 v3 : Int) (M : Mem), IM (b) M → (0 ≤ v3 ∧ v3 ≤ 30 ∧ 4 ≤ v1 ∧ v1 ≤ 30) → 30 - v3 < (n : Int) → qX12_avenue_L99 X122 Q n v1 v3 M := by
  intro n
  induction n with
  | zero => intro v1 v3 M hI hv hm; exact absurd hm (by omega)
  | succ n ih =>
    intro v1 v3 M hI hv hm
    rw [qX12_avenue_L99]
    have hbn := hI.nn
    refine ⟨(by first | assumption | exact (by omega)), ?_⟩
    refine ⟨(by first | assumption | exact (by omega)), ?_⟩
    refine ⟨fun c => ?_, fun c => ?_⟩
    · exact hX122 _ _ (hI.mono (by first | exact Int.le_refl _ | omega)) (by omega)
    · refine ⟨by omega, ?_⟩
      refine ⟨by omega, ?_⟩
      intro x32_111 ex32_111 rx32_111
      have bx32_111 : 0 ≤ x32_111 ∧ x32_111 ≤ 1 := by rw [ex32_111]; exact bm_c8.mp (hI.bx _ _)
      refine ⟨by omega, ?_⟩
      intro M34_112 h_M34_112
      have hM34_112 : IM (b) M34_112 := by rw [h_M34_112]; exact hI.up (by omega) (by simp [BM])
      exact ih _ _ _ (hM34_112.mono (by first | exact Int.le_refl _ | omega)) (by omega) (by omega)
theorem sX12_avenue_L155   {Q : Int → Mem → Prop} {b : Int} (hb : b + 1 ≤ 2000000000) (hQ : ∀ z : Int, ∀ M' : Mem, IM (b + 1) M' → Q z M') : ∀ (n : Nat) (v1 v3 : Int) (M : Mem), IM (b + 1) M → (0 ≤ v3 ∧ v3 ≤ 3 ∧ 4 ≤ v1 ∧ v1 ≤ 30) → 3 - v3 < (n : Int) → qX12_avenue_L155 Q n v1 v3 M := by
  intro n
  induction n with
  | zero => intro v1 v3 M hI hv hm; exact absurd hm (by omega)
  | succ n ih =>
    intro v1 v3 M hI hv hm
    rw [qX12_avenue_L155]
    have hbn := hI.nn
    refine ⟨(by first | assumption | exact (by omega)), ?_⟩
    refine ⟨fun c => ?_, fun c => ?_⟩
    · refine ⟨(by first | assumption | exact (by omega)), ?_⟩
      exact hQ _ _ (hI.mono (by first | exact Int.le_refl _ | omega))
    · refine ⟨by omega, ?_⟩
      refine ⟨by omega, ?_⟩
      intro M46_115 h_M46_115
      have hM46_115 : IM (b + 1) M46_115 := by rw [h_M46_115]; exact hI.up (by omega) (by simp [BM])
      exact ih _ _ _ (hM46_115.mono (by first | exact Int.le_refl _ | omega)) (by omega) (by omega)
theorem sX12_avenue  {b : Int} {M : Mem} {Q : Int → Mem → Prop} (hI : IM b M) (hb : b + 1 ≤ 2000000000) (hQ : ∀ z : Int, ∀ M' : Mem, IM (b + 1) M' → Q z M') : qX12_avenue M Q := by
  unfold qX12_avenue
  have hbn := hI.nn
  intro M1_116 h_M1_116
  have hM1_116 : IM (b) M1_116 := by rw [h_M1_116]; exact hI.up (by omega) (by simp [BM])
  refine sX12_begins (p1 := 80) hM1_116 (by omega) ?_
  intro x2_117 M2_118 hM2_118 gM2_118 p119 q120
  refine ⟨32, ?_⟩
  refine sX12_avenue_L16 (b := b)  hb ?_ ?_ _ _ _ _ (hM2_118.mono (by first | exact Int.le_refl _ | omega)) (by omega) (by omega)
  · exact hQ
  · intro v1_121 M_122 hM_122 p123
    unfold qX12_avenue_J69
    refine ⟨(by first | assumption | exact (by omega)), ?_⟩
    refine ⟨fun c => ?_, fun c => ?_⟩
    · intro x21_125 ex21_125 rx21_125
      have bx21_125 : 0 ≤ x21_125 ∧ x21_125 ≤ 80 := by rw [ex21_125]; exact bm_c1_15.mp (hM_122.bx _ _)
      refine ⟨(by first | assumption | exact (by omega)), ?_⟩
      exact hQ _ _ (hM_122.mono (by first | exact Int.le_refl _ | omega))
    · intro x23_127 ex23_127 rx23_127
      have bx23_127 : 0 ≤ x23_127 ∧ x23_127 ≤ 80 := by rw [ex23_127]; exact bm_c1_15.mp (hM_122.bx _ _)
      intro x24_128 ex24_128 rx24_128
      have bx24_128 : 0 ≤ x24_128 ∧ x24_128 ≤ 80 := by rw [ex24_128]; exact bm_c1_16.mp (hM_122.bx _ _)
      refine ⟨fun c => ?_, fun c => ?_⟩
      · intro M26_130 h_M26_130
        have hM26_130 : IM (b) M26_130 := by rw [h_M26_130]; exact hM_122.up (by omega) (bm_c1_3.mpr (by omega))
        refine ⟨31, ?_⟩
        refine sX12_avenue_L99 (b := b)  hb ?_ ?_ _ _ _ _ (hM26_130.mono (by first | exact Int.le_refl _ | omega)) (by omega) (by omega)
        · exact hQ
        · intro v1_131 M_132 hM_132 p133
          intro M36_134 h_M36_134
          have hM36_134 : IM (b) M36_134 := by rw [h_M36_134]; exact hM_132.up (by omega) (bm_c1_4.mpr (by omega))
          intro M37_135 h_M37_135
          have hM37_135 : IM (b) M37_135 := by rw [h_M37_135]; exact hM36_134.up (by omega) (bm_c1_5.mpr (by omega))
          intro M38_136 h_M38_136
          have hM38_136 : IM (b) M38_136 := by rw [h_M38_136]; exact hM37_135.up (isN.nu (Or.inl rfl) _) ((bm_n (Or.inl rfl)).mpr (by first | assumption | exact ⟨by omega, by omega, by omega, by omega⟩))
          intro M39_137 h_M39_137
          have hM39_137 : IM (b + 1) M39_137 := by rw [h_M39_137]; exact (hM38_136.mono (by first | exact Int.le_refl _ | omega)).up (isN.nu (Or.inl rfl) _) ((bm_n (Or.inl rfl)).mpr ⟨by omega, by omega, by omega, by omega⟩)
          intro M40_138 h_M40_138
          have hM40_138 : IM (b + 1) M40_138 := by rw [h_M40_138]; exact hM39_137.up (by omega) (bm_c1_28.mpr (by omega))
          refine ⟨4, ?_⟩
          refine sX12_avenue_L155 (b := b)  hb ?_ _ _ _ _ (hM40_138.mono (by first | exact Int.le_refl _ | omega)) (by omega) (by omega)
          · exact hQ
      · intro x48_140 ex48_140 rx48_140
        have bx48_140 : 0 ≤ x48_140 ∧ x48_140 ≤ 80 := by rw [ex48_140]; exact bm_c1_15.mp (hM_122.bx _ _)
        refine ⟨(by first | assumption | exact (by omega)), ?_⟩
        exact hQ _ _ (hM_122.mono (by first | exact Int.le_refl _ | omega))
theorem sX12_faultOf {p1 : Int} {p2 : Int} {p3 : Int} {b : Int} {M : Mem} {Q : Int → Mem → Prop} (hI : IM b M) (hp : 0 ≤ p2 ∧ p2 ≤ 80) (hQ : ∀ z : Int, (-100 ≤ z ∧ z ≤ 0 ∧ (p3 = 0 → z ≤ -1)) → Q z M) : qX12_faultOf p1 p2 p3 M Q := by
  unfold qX12_faultOf
  have hbn := hI.nn
  refine ⟨fun c => ?_, fun c => ?_⟩
  · unfold qX12_faultOf_J19
    unfold qX12_faultOf_J20
    refine ⟨fun c => ?_, fun c => ?_⟩
    · unfold qX12_faultOf_J44
      refine ⟨(by first | assumption | exact (by omega)), ?_⟩
      refine ⟨fun c => ?_, fun c => ?_⟩
      · intro x5_144 ex5_144 rx5_144
        have bx5_144 : 0 ≤ x5_144 ∧ x5_144 ≤ 80 := by rw [ex5_144]; exact bm_c1_15.mp (hI.bx _ _)
        refine ⟨(by first | assumption | exact (by omega)), ?_⟩
        exact hQ _ (by omega)
      · exact hQ _ (by omega)
    · refine ⟨(by first | assumption | exact (by omega)), ?_⟩
      refine ⟨fun c => ?_, fun c => ?_⟩
      · refine ⟨(by first | assumption | exact (by omega)), ?_⟩
        exact hQ _ (by omega)
      · intro x10_149 ex10_149 rx10_149
        have bx10_149 : 0 ≤ x10_149 ∧ x10_149 ≤ 80 := by rw [ex10_149]; exact bm_c1_15.mp (hI.bx _ _)
        refine ⟨fun c => ?_, fun c => ?_⟩
        · unfold qX12_faultOf_J44
          refine ⟨(by first | assumption | exact (by omega)), ?_⟩
          refine ⟨fun c => ?_, fun c => ?_⟩
          · intro x5_152 ex5_152 rx5_152
            have bx5_152 : 0 ≤ x5_152 ∧ x5_152 ≤ 80 := by rw [ex5_152]; exact bm_c1_15.mp (hI.bx _ _)
            refine ⟨(by first | assumption | exact (by omega)), ?_⟩
            exact hQ _ (by omega)
          · exact hQ _ (by omega)
        · refine ⟨(by first | assumption | exact (by omega)), ?_⟩
          exact hQ _ (by omega)
  · intro x13_156 ex13_156 rx13_156
    have bx13_156 : 0 ≤ x13_156 ∧ x13_156 ≤ 80 := by rw [ex13_156]; exact bm_c1_15.mp (hI.bx _ _)
    intro x14_157 ex14_157 rx14_157
    have bx14_157 : 0 ≤ x14_157 ∧ x14_157 ≤ 80 := by rw [ex14_157]; exact bm_c1_16.mp (hI.bx _ _)
    refine ⟨fun c => ?_, fun c => ?_⟩
    · unfold qX12_faultOf_J19
      unfold qX12_faultOf_J20
      refine ⟨fun c => ?_, fun c => ?_⟩
      · unfold qX12_faultOf_J44
        refine ⟨(by first | assumption | exact (by omega)), ?_⟩
        refine ⟨fun c => ?_, fun c => ?_⟩
        · intro x5_161 ex5_161 rx5_161
          have bx5_161 : 0 ≤ x5_161 ∧ x5_161 ≤ 80 := by rw [ex5_161]; exact bm_c1_15.mp (hI.bx _ _)
          refine ⟨(by first | assumption | exact (by omega)), ?_⟩
          exact hQ _ (by omega)
        · exact hQ _ (by omega)
      · refine ⟨(by first | assumption | exact (by omega)), ?_⟩
        refine ⟨fun c => ?_, fun c => ?_⟩
        · refine ⟨(by first | assumption | exact (by omega)), ?_⟩
          exact hQ _ (by omega)
        · intro x10_166 ex10_166 rx10_166
          have bx10_166 : 0 ≤ x10_166 ∧ x10_166 ≤ 80 := by rw [ex10_166]; exact bm_c1_15.mp (hI.bx _ _)
          refine ⟨fun c => ?_, fun c => ?_⟩
          · unfold qX12_faultOf_J44
            refine ⟨(by first | assumption | exact (by omega)), ?_⟩
            refine ⟨fun c => ?_, fun c => ?_⟩
            · intro x5_169 ex5_169 rx5_169
              have bx5_169 : 0 ≤ x5_169 ∧ x5_169 ≤ 80 := by rw [ex5_169]; exact bm_c1_15.mp (hI.bx _ _)
              refine ⟨(by first | assumption | exact (by omega)), ?_⟩
              exact hQ _ (by omega)
            · exact hQ _ (by omega)
          · refine ⟨(by first | assumption | exact (by omega)), ?_⟩
            exact hQ _ (by omega)
    · unfold qX12_faultOf_J20
      refine ⟨fun c => ?_, fun c => ?_⟩
      · unfold qX12_faultOf_J44
        refine ⟨(by first | assumption | exact (by omega)), ?_⟩
        refine ⟨fun c => ?_, fun c => ?_⟩
        · intro x5_175 ex5_175 rx5_175
          have bx5_175 : 0 ≤ x5_175 ∧ x5_175 ≤ 80 := by rw [ex5_175]; exact bm_c1_15.mp (hI.bx _ _)
          refine ⟨(by first | assumption | exact (by omega)), ?_⟩
          exact hQ _ (by omega)
        · exact hQ _ (by omega)
      · refine ⟨(by first | assumption | exact (by omega)), ?_⟩
        refine ⟨fun c => ?_, fun c => ?_⟩
        · refine ⟨(by first | assumption | exact (by omega)), ?_⟩
          exact hQ _ (by omega)
        · intro x10_180 ex10_180 rx10_180
          have bx10_180 : 0 ≤ x10_180 ∧ x10_180 ≤ 80 := by rw [ex10_180]; exact bm_c1_15.mp (hI.bx _ _)
          refine ⟨fun c => ?_, fun c => ?_⟩
          · unfold qX12_faultOf_J44
            refine ⟨(by first | assumption | exact (by omega)), ?_⟩
            refine ⟨fun c => ?_, fun c => ?_⟩
            · intro x5_183 ex5_183 rx5_183
              have bx5_183 : 0 ≤ x5_183 ∧ x5_183 ≤ 80 := by rw [ex5_183]; exact bm_c1_15.mp (hI.bx _ _)
              refine ⟨(by first | assumption | exact (by omega)), ?_⟩
              exact hQ _ (by omega)
            · exact hQ _ (by omega)
          · refine ⟨(by first | assumption | exact (by omega)), ?_⟩
            exact hQ _ (by omega)
theorem sX12_isNew  {b : Int} {M : Mem} {Q : Int → Mem → Prop} (hI : IM b M) (hb : b + 1 ≤ 2000000000) (hQ : ∀ z : Int, ∀ M' : Mem, IM (b + 1) M' → Q z M') : qX12_isNew M Q := by
  unfold qX12_isNew
  have hbn := hI.nn
  intro x1_186 ex1_186 rx1_186
  have bx1_186 : 0 ≤ x1_186 ∧ x1_186 ≤ 8 := by rw [ex1_186]; exact bm_c1_20.mp (hI.bx _ _)
  refine ⟨fun c => ?_, fun c => ?_⟩
  · intro x3_188 ex3_188 rx3_188
    have bx3_188 : 0 ≤ x3_188 ∧ x3_188 ≤ 15 := by rw [ex3_188]; exact bm_c1_28.mp (hI.bx _ _)
    unfold qX12_isNew_J16
    refine ⟨(by first | assumption | exact (by omega)), ?_⟩
    intro M5_189 h_M5_189
    have hM5_189 : IM (b) M5_189 := by rw [h_M5_189]; exact hI.up (by omega) (bm_c1_28.mpr (by omega))
    intro x6_190 ex6_190 rx6_190
    have bx6_190 : 0 ≤ x6_190 ∧ x6_190 ≤ (b) := by rw [ex6_190]; exact bm_c1_6.mp (hM5_189.bx _ _)
    have fx6_190 : x6_190 = M 1 6 := by rw [ex6_190, h_M5_189, up2_j (by decide)]
    intro x7_191 ex7_191 rx7_191
    have bx7_191 : 0 ≤ x7_191 ∧ x7_191 ≤ 8 := by rw [ex7_191]; exact bm_c1_20.mp (hM5_189.bx _ _)
    have fx7_191 : x7_191 = M 1 20 := by rw [ex7_191, h_M5_189, up2_j (by decide)]
    refine ⟨fun c => ?_, fun c => ?_⟩
    · unfold qX12_isNew_J36
      refine ⟨(by first | assumption | exact (by omega)), ?_⟩
      refine sX12_flag (p0 := 0) hM5_189  ?_
      intro x10_193 p194 q195
      refine ⟨(by first | assumption | exact (by omega)), ?_⟩
      intro M12_196 h_M12_196
      have hM12_196 : IM (b + 1) M12_196 := by rw [h_M12_196]; exact (hM5_189.mono (by first | exact Int.le_refl _ | omega)).up (by omega) (bm_c1_6.mpr (by omega))
      intro x13_197 ex13_197 rx13_197
      have bx13_197 : 0 ≤ x13_197 ∧ x13_197 ≤ 8 := by rw [ex13_197]; exact bm_c1_20.mp (hM12_196.bx _ _)
      have fx13_197 : x13_197 = M 1 20 := by rw [ex13_197, h_M12_196, up2_j (by decide), h_M5_189, up2_j (by decide)]
      exact hQ _ _ (hM12_196.mono (by first | exact Int.le_refl _ | omega))
    · unfold qX12_isNew_J36
      refine ⟨(by first | assumption | exact (by omega)), ?_⟩
      refine sX12_flag (p0 := 1) hM5_189  ?_
      intro x10_199 p200 q201
      refine ⟨(by first | assumption | exact (by omega)), ?_⟩
      intro M12_202 h_M12_202
      have hM12_202 : IM (b + 1) M12_202 := by rw [h_M12_202]; exact (hM5_189.mono (by first | exact Int.le_refl _ | omega)).up (by omega) (bm_c1_6.mpr (by omega))
      intro x13_203 ex13_203 rx13_203
      have bx13_203 : 0 ≤ x13_203 ∧ x13_203 ≤ 8 := by rw [ex13_203]; exact bm_c1_20.mp (hM12_202.bx _ _)
      have fx13_203 : x13_203 = M 1 20 := by rw [ex13_203, h_M12_202, up2_j (by decide), h_M5_189, up2_j (by decide)]
      exact hQ _ _ (hM12_202.mono (by first | exact Int.le_refl _ | omega))
  · unfold qX12_isNew_J16
    refine ⟨(by first | assumption | exact (by omega)), ?_⟩
    intro M5_205 h_M5_205
    have hM5_205 : IM (b) M5_205 := by rw [h_M5_205]; exact hI.up (by omega) (bm_c1_28.mpr (by omega))
    intro x6_206 ex6_206 rx6_206
    have bx6_206 : 0 ≤ x6_206 ∧ x6_206 ≤ (b) := by rw [ex6_206]; exact bm_c1_6.mp (hM5_205.bx _ _)
    have fx6_206 : x6_206 = M 1 6 := by rw [ex6_206, h_M5_205, up2_j (by decide)]
    intro x7_207 ex7_207 rx7_207
    have bx7_207 : 0 ≤ x7_207 ∧ x7_207 ≤ 8 := by rw [ex7_207]; exact bm_c1_20.mp (hM5_205.bx _ _)
    have fx7_207 : x7_207 = M 1 20 := by rw [ex7_207, h_M5_205, up2_j (by decide)]
    refine ⟨fun c => ?_, fun c => ?_⟩
    · unfold qX12_isNew_J36
      refine ⟨(by first | assumption | exact (by omega)), ?_⟩
      refine sX12_flag (p0 := 0) hM5_205  ?_
      intro x10_209 p210 q211
      refine ⟨(by first | assumption | exact (by omega)), ?_⟩
      intro M12_212 h_M12_212
      have hM12_212 : IM (b + 1) M12_212 := by rw [h_M12_212]; exact (hM5_205.mono (by first | exact Int.le_refl _ | omega)).up (by omega) (bm_c1_6.mpr (by omega))
      intro x13_213 ex13_213 rx13_213
      have bx13_213 : 0 ≤ x13_213 ∧ x13_213 ≤ 8 := by rw [ex13_213]; exact bm_c1_20.mp (hM12_212.bx _ _)
      have fx13_213 : x13_213 = M 1 20 := by rw [ex13_213, h_M12_212, up2_j (by decide), h_M5_205, up2_j (by decide)]
      exact hQ _ _ (hM12_212.mono (by first | exact Int.le_refl _ | omega))
    · unfold qX12_isNew_J36
      refine ⟨(by first | assumption | exact (by omega)), ?_⟩
      refine sX12_flag (p0 := 1) hM5_205  ?_
      intro x10_215 p216 q217
      refine ⟨(by first | assumption | exact (by omega)), ?_⟩
      intro M12_218 h_M12_218
      have hM12_218 : IM (b + 1) M12_218 := by rw [h_M12_218]; exact (hM5_205.mono (by first | exact Int.le_refl _ | omega)).up (by omega) (bm_c1_6.mpr (by omega))
      intro x13_219 ex13_219 rx13_219
      have bx13_219 : 0 ≤ x13_219 ∧ x13_219 ≤ 8 := by rw [ex13_219]; exact bm_c1_20.mp (hM12_218.bx _ _)
      have fx13_219 : x13_219 = M 1 20 := by rw [ex13_219, h_M12_218, up2_j (by decide), h_M5_205, up2_j (by decide)]
      exact hQ _ _ (hM12_218.mono (by first | exact Int.le_refl _ | omega))
theorem sX12_gate  {b : Int} {M : Mem} {Q : Int → Mem → Prop} (hI : IM b M) (hQ : ∀ z : Int, (3 ≤ z ∧ z ≤ 29 ∧ z = M 1 3 - 1) → Q z M) : qX12_gate M Q := by
  unfold qX12_gate
  have hbn := hI.nn
  have u220 : 4 ≤ M 1 3 ∧ M 1 3 ≤ 30 := bm_c1_3.mp (hI.bx _ _)
  intro x1_221 ex1_221 rx1_221
  have bx1_221 : 4 ≤ x1_221 ∧ x1_221 ≤ 30 := by rw [ex1_221]; exact bm_c1_3.mp (hI.bx _ _)
  refine ⟨(by first | assumption | exact (by omega)), ?_⟩
  exact hQ _ (by omega)
theorem sX12_isDigit  {b : Int} {M : Mem} {Q : Int → Mem → Prop} (hI : IM b M) (hQ : ∀ z : Int, ((z = 1 → M 1 15 < M 1 16 ∧ M 1 16 ≤ 80 ∧ 48 ≤ M 7 (M 1 15) ∧ M 7 (M 1 15) ≤ 57) ∧ (z = 0 → ¬ (M 1 15 < M 1 16 ∧ M 1 16 ≤ 80 ∧ 48 ≤ M 7 (M 1 15) ∧ M 7 (M 1 15) ≤ 57)) ∧ (z = 0 ∨ z = 1)) → Q z M) : qX12_isDigit M Q := by
  unfold qX12_isDigit
  have hbn := hI.nn
  have u222 : 0 ≤ M 1 15 ∧ M 1 15 ≤ 80 := bm_c1_15.mp (hI.bx _ _)
  have u223 : 0 ≤ M 1 16 ∧ M 1 16 ≤ 80 := bm_c1_16.mp (hI.bx _ _)
  intro x1_224 ex1_224 rx1_224
  have bx1_224 : 0 ≤ x1_224 ∧ x1_224 ≤ 80 := by rw [ex1_224]; exact bm_c1_15.mp (hI.bx _ _)
  intro x2_225 ex2_225 rx2_225
  have bx2_225 : 0 ≤ x2_225 ∧ x2_225 ≤ 80 := by rw [ex2_225]; exact bm_c1_16.mp (hI.bx _ _)
  refine ⟨fun c => ?_, fun c => ?_⟩
  · exact hQ _ (by omega)
  · intro x4_228 ex4_228 rx4_228
    have bx4_228 : 0 ≤ x4_228 ∧ x4_228 ≤ 80 := by rw [ex4_228]; exact bm_c1_15.mp (hI.bx _ _)
    refine ⟨by omega, ?_⟩
    refine ⟨by omega, ?_⟩
    intro x7_229 ex7_229 rx7_229
    have bx7_229 : 0 ≤ x7_229 ∧ x7_229 ≤ 255 := by rw [ex7_229]; exact bm_c7.mp (hI.bx _ _)
    have cgx7_229 : x7_229 = M 7 (M 1 15) := by rw [ex7_229, ← ex4_228]
    refine sX12_in (p0 := x7_229) (p2 := 48) (p4 := 57) hI  ?_
    intro x8_230 p231 q232 q233
    refine ⟨fun c => ?_, fun c => ?_⟩
    · exact hQ _ (by omega)
    · exact hQ _ (by omega)
theorem sX12_number_L13 {p1 : Int}  {Q : Int → Mem → Prop} {b : Int} {M0 : Mem} (hp : 1 ≤ p1 ∧ p1 ≤ 3) (hQ : ∀ z : Int, ∀ M' : Mem, IM b M' → FrJ (fun k j => k = 1 ∧ j = 15) M0 M' → (-1 ≤ z ∧ z ≤ 999 ∧ (p1 = 1 → z ≤ 9) ∧ (p1 = 2 → z ≤ 99) ∧ M0 1 15 ≤ M' 1 15 ∧ (0 ≤ z → M0 1 15 + 1 ≤ M' 1 15) ∧ (M0 1 15 < M0 1 16 ∧ 48 ≤ M0 7 (M0 1 15) ∧ M0 7 (M0 1 15) ≤ 57 → 0 ≤ z)) → Q z M') : ∀ (n : Nat) (v2 v3 : Int) (M : Mem), IM (b) M → FrJ (fun k j => k = 1 ∧ j = 15) M0 M → (0 ≤ v3 ∧ v3 ≤ p1 ∧ 0 ≤ v2 ∧ (v3 = 0 → v2 = 0 ∧ M 1 15 < M 1 16 ∧ M 1 16 ≤ 80 ∧ 48 ≤ M 7 (M 1 15) ∧ M 7 (M 1 15) ≤ 57) ∧ (v3 = 1 → v2 ≤ 9) ∧ (v3 = 2 → v2 ≤ 99) ∧ v2 ≤ 999 ∧ M0 1 15 + v3 ≤ M 1 15) → 3 - v3 < (n : Int) → qX12_number_L13 p1 Q n v2 v3 M := by
  intro n
  induction n with
  | zero => intro v2 v3 M hI hF hv hm; exact absurd hm (by omega)
  | succ n ih =>
    intro v2 v3 M hI hF hv hm
    rw [qX12_number_L13]
    have hbn := hI.nn
    have u236 : 0 ≤ M 1 15 ∧ M 1 15 ≤ 80 := bm_c1_15.mp (hI.bx _ _)
    have u237 : 0 ≤ M 1 16 ∧ M 1 16 ≤ 80 := bm_c1_16.mp (hI.bx _ _)
    refine ⟨(by first | assumption | exact (by omega)), ?_⟩
    refine ⟨fun c => ?_, fun c => ?_⟩
    · refine ⟨(by first | assumption | exact (by omega)), ?_⟩
      have u239 : 0 ≤ M 1 15 ∧ M 1 15 ≤ 80 := bm_c1_15.mp (hI.bx _ _)
      exact hQ _ _ (hI.mono (by first | exact Int.le_refl _ | omega)) hF (by omega)
    · refine sX12_isDigit  hI  ?_
      intro x6_241 p242 q243 q244
      refine ⟨fun c => ?_, fun c => ?_⟩
      · refine ⟨(by first | assumption | exact (by omega)), ?_⟩
        have u246 : 0 ≤ M 1 15 ∧ M 1 15 ≤ 80 := bm_c1_15.mp (hI.bx _ _)
        exact hQ _ _ (hI.mono (by first | exact Int.le_refl _ | omega)) hF (by omega)
      · intro x9_248 ex9_248 rx9_248
        have bx9_248 : 0 ≤ x9_248 ∧ x9_248 ≤ 80 := by rw [ex9_248]; exact bm_c1_15.mp (hI.bx _ _)
        refine ⟨by omega, ?_⟩
        refine ⟨by omega, ?_⟩
        intro x12_249 ex12_249 rx12_249
        have bx12_249 : 0 ≤ x12_249 ∧ x12_249 ≤ 255 := by rw [ex12_249]; exact bm_c7.mp (hI.bx _ _)
        have cgx12_249 : x12_249 = M 7 (M 1 15) := by rw [ex12_249, ← ex9_248]
        intro x13_250 ex13_250 rx13_250
        have bx13_250 : 0 ≤ x13_250 ∧ x13_250 ≤ 80 := by rw [ex13_250]; exact bm_c1_15.mp (hI.bx _ _)
        refine ⟨(by first | assumption | exact (by omega)), ?_⟩
        intro M15_251 h_M15_251
        have hM15_251 : IM (b) M15_251 := by rw [h_M15_251]; exact hI.up (by omega) (bm_c1_15.mpr (by omega))
        have hFM15_251 : FrJ (fun k j => k = 1 ∧ j = 15) M0 M15_251 := by rw [h_M15_251]; exact (hF).up (by omega)
        have u252 : 0 ≤ M15_251 1 15 ∧ M15_251 1 15 ≤ 80 := bm_c1_15.mp (hM15_251.bx _ _)
        have t253 : M15_251 1 15 = x13_250 + 1 := by rw [h_M15_251, up2_s]
        exact ih _ _ _ (hM15_251.mono (by first | exact Int.le_refl _ | omega)) hFM15_251 (by omega) (by omega)
theorem sX12_number {p1 : Int} {b : Int} {M : Mem} {Q : Int → Mem → Prop} (hI : IM b M) (hp : 1 ≤ p1 ∧ p1 ≤ 3) (hQ : ∀ z : Int, ∀ M' : Mem, IM b M' → FrJ (fun k j => k = 1 ∧ j = 15) M M' → (-1 ≤ z ∧ z ≤ 999 ∧ (p1 = 1 → z ≤ 9) ∧ (p1 = 2 → z ≤ 99) ∧ M 1 15 ≤ M' 1 15 ∧ (0 ≤ z → M 1 15 + 1 ≤ M' 1 15) ∧ (M 1 15 < M 1 16 ∧ 48 ≤ M 7 (M 1 15) ∧ M 7 (M 1 15) ≤ 57 → 0 ≤ z)) → Q z M') : qX12_number p1 M Q := by
  unfold qX12_number
  have hbn := hI.nn
  have u254 : 0 ≤ M 1 15 ∧ M 1 15 ≤ 80 := bm_c1_15.mp (hI.bx _ _)
  have u255 : 0 ≤ M 1 16 ∧ M 1 16 ≤ 80 := bm_c1_16.mp (hI.bx _ _)
  refine sX12_isDigit  hI  ?_
  intro x1_256 p257 q258 q259
  refine ⟨fun c => ?_, fun c => ?_⟩
  · refine ⟨4, ?_⟩
    have u261 : 0 ≤ M 1 15 ∧ M 1 15 ≤ 80 := bm_c1_15.mp (hI.bx _ _)
    refine sX12_number_L13 (b := b) (p1 := p1) (M0 := M) hp ?_ _ _ _ _ (hI.mono (by first | exact Int.le_refl _ | omega)) FrJ.rf (by omega) (by omega)
    · exact hQ
  · have u263 : 0 ≤ M 1 15 ∧ M 1 15 ≤ 80 := bm_c1_15.mp (hI.bx _ _)
    exact hQ _ _ (hI.mono (by first | exact Int.le_refl _ | omega)) FrJ.rf (by omega)
theorem sX12_onCell_L5 {k1 : Nat} {p2 : Int}  {Q : Int → Mem → Prop} {b : Int} {M0 : Mem} (hk1 : isN k1) (hQ : ∀ z : Int, (-1 ≤ z ∧ z ≤ 5 ∧ (0 ≤ z → M0 k1 z = p2 ∧ z < M0 1 4)) → Q z M0) : ∀ (n : Nat) (v3 v4 : Int), IM (b) M0 → ((v3 = -1 ∨ 0 ≤ v3 ∧ v3 < M0 1 4 ∧ M0 k1 v3 = p2) ∧ -1 ≤ v3 ∧ v3 ≤ 5 ∧ 0 ≤ v4 ∧ v4 ≤ 6) → 6 - v4 < (n : Int) → qX12_onCell_L5 k1 p2 Q n v3 v4 M0 := by
  intro n
  induction n with
  | zero => intro v3 v4 hI hv hm; exact absurd hm (by omega)
  | succ n ih =>
    intro v3 v4 hI hv hm
    rw [qX12_onCell_L5]
    have hbn := hI.nn
    have ek1 : k1 = 5 ∨ k1 = 6 := hk1
    have u264 : 0 ≤ M0 1 4 ∧ M0 1 4 ≤ 6 := bm_c1_4.mp (hI.bx _ _)
    intro x1_265 ex1_265 rx1_265
    have bx1_265 : 0 ≤ x1_265 ∧ x1_265 ≤ 6 := by rw [ex1_265]; exact bm_c1_4.mp (hI.bx _ _)
    refine ⟨(by first | assumption | exact (by omega)), ?_⟩
    refine ⟨fun c => ?_, fun c => ?_⟩
    · refine ⟨(by first | assumption | exact (by omega)), ?_⟩
      exact hQ _ (by omega)
    · refine ⟨by omega, ?_⟩
      refine ⟨by omega, ?_⟩
      intro x7_268 ex7_268 rx7_268
      have rbx7_268 : -2147483648 ≤ x7_268 ∧ x7_268 ≤ 2147483647 := rx7_268
      have nbx7_268 : BN (b) v4 x7_268 := by rw [ex7_268]; exact (bm_n hk1).mp (hI.bx _ _)
      first | (have bx7_268 : -1 ≤ x7_268 ∧ x7_268 ≤ 29 := nbx7_268.1 (by omega)) | (have bx7_268 : -1 ≤ x7_268 ∧ x7_268 ≤ 29 := nbx7_268.2.1 (by omega)) | skip
      refine ⟨fun c => ?_, fun c => ?_⟩
      · exact ih _ _ (hI.mono (by first | exact Int.le_refl _ | omega)) (by omega) (by omega)
      · exact ih _ _ (hI.mono (by first | exact Int.le_refl _ | omega)) (by omega) (by omega)
theorem sX12_onCell {k1 : Nat} {p2 : Int} {b : Int} {M : Mem} {Q : Int → Mem → Prop} (hI : IM b M) (hk1 : isN k1) (hQ : ∀ z : Int, (-1 ≤ z ∧ z ≤ 5 ∧ (0 ≤ z → M k1 z = p2 ∧ z < M 1 4)) → Q z M) : qX12_onCell k1 p2 M Q := by
  unfold qX12_onCell
  have hbn := hI.nn
  have ek1 : k1 = 5 ∨ k1 = 6 := hk1
  have u271 : 0 ≤ M 1 4 ∧ M 1 4 ≤ 6 := bm_c1_4.mp (hI.bx _ _)
  refine ⟨7, ?_⟩
  refine sX12_onCell_L5 (b := b) (p2 := p2) (M0 := M) hk1 ?_ _ _ _ (hI.mono (by first | exact Int.le_refl _ | omega)) (by omega) (by omega)
  · exact hQ
theorem sX12_readsCell_L45 {p1 : Int} {X85 : Int → Int → Mem → Prop} {Q : Int → Mem → Prop} {b : Int} {M0 : Mem} (hQ : ∀ z : Int, ∀ M' : Mem, IM b M' → FrJ (fun k j => k = 1 ∧ j = 15) M0 M' → (-1 ≤ z ∧ z ≤ 29) → Q z M') (hX85 : ∀ w1 w2 : Int, ∀ M' : Mem, IM (b) M' → FrJ (fun k j => k = 1 ∧ j = 15) M0 M' → (0 ≤ w1 ∧ w1 ≤ 99 ∧ 0 ≤ w2 ∧ w2 ≤ 1 ∧ (w2 = 1 → w1 ≤ 29) ∧ 1 ≤ M' 1 15) → X85 w1 w2 M') : ∀ (n : Nat) (v2 v3 v4 : Int) (M : Mem), IM (b) M → FrJ (fun k j => k = 1 ∧ j = 15) M0 M → (0 ≤ v2 ∧ v2 ≤ 99 ∧ 0 ≤ v3 ∧ v3 ≤ 1 ∧ 0 ≤ v4 ∧ v4 ≤ 8 ∧ (v3 = 1 → v2 ≤ 29) ∧ 1 ≤ M 1 15) → 8 - v4 < (n : Int) → qX12_readsCell_L45 p1 X85 Q n v2 v3 v4 M := by
  intro n
  induction n with
  | zero => intro v2 v3 v4 M hI hF hv hm; exact absurd hm (by omega)
  | succ n ih =>
    intro v2 v3 v4 M hI hF hv hm
    rw [qX12_readsCell_L45]
    have hbn := hI.nn
    have u272 : 0 ≤ M 1 15 ∧ M 1 15 ≤ 80 := bm_c1_15.mp (hI.bx _ _)
    intro x5_273 ex5_273 rx5_273
    have bx5_273 : 0 ≤ x5_273 ∧ x5_273 ≤ 8 := by rw [ex5_273]; exact bm_c1_20.mp (hI.bx _ _)
    refine ⟨(by first | assumption | exact (by omega)), ?_⟩
    refine ⟨fun c => ?_, fun c => ?_⟩
    · exact hX85 _ _ _ (hI.mono (by first | exact Int.le_refl _ | omega)) hF (by omega)
    · refine ⟨fun c => ?_, fun c => ?_⟩
      · exact hX85 _ _ _ (hI.mono (by first | exact Int.le_refl _ | omega)) hF (by omega)
      · refine ⟨(by first | assumption | exact (by omega)), ?_⟩
        refine ⟨fun c => ?_, fun c => ?_⟩
        · exact ih _ _ _ _ (hI.mono (by first | exact Int.le_refl _ | omega)) hF (by omega) (by omega)
        · refine ⟨by omega, ?_⟩
          refine ⟨by omega, ?_⟩
          intro x13_280 ex13_280 rx13_280
          have bx13_280 : -1 ≤ x13_280 ∧ x13_280 ≤ 29 := by rw [ex13_280]; exact bm_c9.mp (hI.bx _ _)
          refine ⟨(by first | assumption | exact (by omega)), ?_⟩
          refine ⟨fun c => ?_, fun c => ?_⟩
          · exact ih _ _ _ _ (hI.mono (by first | exact Int.le_refl _ | omega)) hF (by omega) (by omega)
          · exact ih _ _ _ _ (hI.mono (by first | exact Int.le_refl _ | omega)) hF (by omega) (by omega)
theorem sX12_readsCell {p1 : Int} {b : Int} {M : Mem} {Q : Int → Mem → Prop} (hI : IM b M) (hQ : ∀ z : Int, ∀ M' : Mem, IM b M' → FrJ (fun k j => k = 1 ∧ j = 15) M M' → (-1 ≤ z ∧ z ≤ 29) → Q z M') : qX12_readsCell p1 M Q := by
  unfold qX12_readsCell
  have hbn := hI.nn
  have u283 : 0 ≤ M 1 15 ∧ M 1 15 ≤ 80 := bm_c1_15.mp (hI.bx _ _)
  refine sX12_number (p1 := 2) hI (by omega) ?_
  intro x1_284 M1_285 hM1_285 gM1_285 p286 q287
  have hFM1_285 : FrJ (fun k j => k = 1 ∧ j = 15) M M1_285 := (FrJ.rf).tr (gM1_285.mono (by intro k j h; omega))
  refine ⟨fun c => ?_, fun c => ?_⟩
  · refine sX12_gate  hM1_285  ?_
    intro x3_289 p290 q291
    refine ⟨fun c => ?_, fun c => ?_⟩
    · refine ⟨9, ?_⟩
      refine sX12_readsCell_L45 (b := b) (p1 := p1) (M0 := M) ?_ ?_ _ _ _ _ _ (hM1_285.mono (by first | exact Int.le_refl _ | omega)) hFM1_285 (by omega) (by omega)
      · exact hQ
      · intro v2_293 v3_294 M_295 hM_295 hFM_295 p296
        unfold qX12_readsCell_J85
        intro x17_297 ex17_297 rx17_297
        have bx17_297 : 0 ≤ x17_297 ∧ x17_297 ≤ 80 := by rw [ex17_297]; exact bm_c1_15.mp (hM_295.bx _ _)
        refine ⟨(by first | assumption | exact (by omega)), ?_⟩
        refine ⟨fun c => ?_, fun c => ?_⟩
        · unfold qX12_readsCell_J99
          refine ⟨(by first | assumption | exact (by omega)), ?_⟩
          refine sX12_flag (p0 := 0) hM_295  ?_
          intro x21_299 p300 q301
          refine ⟨(by first | assumption | exact (by omega)), ?_⟩
          intro M23_302 h_M23_302
          have hM23_302 : IM (b) M23_302 := by rw [h_M23_302]; exact hM_295.up (by omega) (bm_c1_15.mpr (by omega))
          have hFM23_302 : FrJ (fun k j => k = 1 ∧ j = 15) M M23_302 := by rw [h_M23_302]; exact (hFM_295).up (by omega)
          refine ⟨(by first | assumption | exact (by omega)), ?_⟩
          refine ⟨fun c => ?_, fun c => ?_⟩
          · exact hQ _ _ (hM23_302.mono (by first | exact Int.le_refl _ | omega)) hFM23_302 (by omega)
          · refine ⟨(by first | assumption | exact (by omega)), ?_⟩
            exact hQ _ _ (hM23_302.mono (by first | exact Int.le_refl _ | omega)) hFM23_302 (by omega)
        · unfold qX12_readsCell_J99
          refine ⟨(by first | assumption | exact (by omega)), ?_⟩
          refine sX12_flag (p0 := 1) hM_295  ?_
          intro x21_306 p307 q308
          refine ⟨(by first | assumption | exact (by omega)), ?_⟩
          intro M23_309 h_M23_309
          have hM23_309 : IM (b) M23_309 := by rw [h_M23_309]; exact hM_295.up (by omega) (bm_c1_15.mpr (by omega))
          have hFM23_309 : FrJ (fun k j => k = 1 ∧ j = 15) M M23_309 := by rw [h_M23_309]; exact (hFM_295).up (by omega)
          refine ⟨(by first | assumption | exact (by omega)), ?_⟩
          refine ⟨fun c => ?_, fun c => ?_⟩
          · exact hQ _ _ (hM23_309.mono (by first | exact Int.le_refl _ | omega)) hFM23_309 (by omega)
          · refine ⟨(by first | assumption | exact (by omega)), ?_⟩
            exact hQ _ _ (hM23_309.mono (by first | exact Int.le_refl _ | omega)) hFM23_309 (by omega)
    · refine ⟨fun c => ?_, fun c => ?_⟩
      · refine ⟨9, ?_⟩
        refine sX12_readsCell_L45 (b := b) (p1 := p1) (M0 := M) ?_ ?_ _ _ _ _ _ (hM1_285.mono (by first | exact Int.le_refl _ | omega)) hFM1_285 (by omega) (by omega)
        · exact hQ
        · intro v2_314 v3_315 M_316 hM_316 hFM_316 p317
          unfold qX12_readsCell_J85
          intro x17_318 ex17_318 rx17_318
          have bx17_318 : 0 ≤ x17_318 ∧ x17_318 ≤ 80 := by rw [ex17_318]; exact bm_c1_15.mp (hM_316.bx _ _)
          refine ⟨(by first | assumption | exact (by omega)), ?_⟩
          refine ⟨fun c => ?_, fun c => ?_⟩
          · unfold qX12_readsCell_J99
            refine ⟨(by first | assumption | exact (by omega)), ?_⟩
            refine sX12_flag (p0 := 0) hM_316  ?_
            intro x21_320 p321 q322
            refine ⟨(by first | assumption | exact (by omega)), ?_⟩
            intro M23_323 h_M23_323
            have hM23_323 : IM (b) M23_323 := by rw [h_M23_323]; exact hM_316.up (by omega) (bm_c1_15.mpr (by omega))
            have hFM23_323 : FrJ (fun k j => k = 1 ∧ j = 15) M M23_323 := by rw [h_M23_323]; exact (hFM_316).up (by omega)
            refine ⟨(by first | assumption | exact (by omega)), ?_⟩
            refine ⟨fun c => ?_, fun c => ?_⟩
            · exact hQ _ _ (hM23_323.mono (by first | exact Int.le_refl _ | omega)) hFM23_323 (by omega)
            · refine ⟨(by first | assumption | exact (by omega)), ?_⟩
              exact hQ _ _ (hM23_323.mono (by first | exact Int.le_refl _ | omega)) hFM23_323 (by omega)
          · unfold qX12_readsCell_J99
            refine ⟨(by first | assumption | exact (by omega)), ?_⟩
            refine sX12_flag (p0 := 1) hM_316  ?_
            intro x21_327 p328 q329
            refine ⟨(by first | assumption | exact (by omega)), ?_⟩
            intro M23_330 h_M23_330
            have hM23_330 : IM (b) M23_330 := by rw [h_M23_330]; exact hM_316.up (by omega) (bm_c1_15.mpr (by omega))
            have hFM23_330 : FrJ (fun k j => k = 1 ∧ j = 15) M M23_330 := by rw [h_M23_330]; exact (hFM_316).up (by omega)
            refine ⟨(by first | assumption | exact (by omega)), ?_⟩
            refine ⟨fun c => ?_, fun c => ?_⟩
            · exact hQ _ _ (hM23_330.mono (by first | exact Int.le_refl _ | omega)) hFM23_330 (by omega)
            · refine ⟨(by first | assumption | exact (by omega)), ?_⟩
              exact hQ _ _ (hM23_330.mono (by first | exact Int.le_refl _ | omega)) hFM23_330 (by omega)
      · refine sX12_onCell (p2 := x1_284) hM1_285 (Or.inl rfl) ?_
        intro x29_334 p335 q336
        refine ⟨fun c => ?_, fun c => ?_⟩
        · refine ⟨9, ?_⟩
          refine sX12_readsCell_L45 (b := b) (p1 := p1) (M0 := M) ?_ ?_ _ _ _ _ _ (hM1_285.mono (by first | exact Int.le_refl _ | omega)) hFM1_285 (by omega) (by omega)
          · exact hQ
          · intro v2_338 v3_339 M_340 hM_340 hFM_340 p341
            unfold qX12_readsCell_J85
            intro x17_342 ex17_342 rx17_342
            have bx17_342 : 0 ≤ x17_342 ∧ x17_342 ≤ 80 := by rw [ex17_342]; exact bm_c1_15.mp (hM_340.bx _ _)
            refine ⟨(by first | assumption | exact (by omega)), ?_⟩
            refine ⟨fun c => ?_, fun c => ?_⟩
            · unfold qX12_readsCell_J99
              refine ⟨(by first | assumption | exact (by omega)), ?_⟩
              refine sX12_flag (p0 := 0) hM_340  ?_
              intro x21_344 p345 q346
              refine ⟨(by first | assumption | exact (by omega)), ?_⟩
              intro M23_347 h_M23_347
              have hM23_347 : IM (b) M23_347 := by rw [h_M23_347]; exact hM_340.up (by omega) (bm_c1_15.mpr (by omega))
              have hFM23_347 : FrJ (fun k j => k = 1 ∧ j = 15) M M23_347 := by rw [h_M23_347]; exact (hFM_340).up (by omega)
              refine ⟨(by first | assumption | exact (by omega)), ?_⟩
              refine ⟨fun c => ?_, fun c => ?_⟩
              · exact hQ _ _ (hM23_347.mono (by first | exact Int.le_refl _ | omega)) hFM23_347 (by omega)
              · refine ⟨(by first | assumption | exact (by omega)), ?_⟩
                exact hQ _ _ (hM23_347.mono (by first | exact Int.le_refl _ | omega)) hFM23_347 (by omega)
            · unfold qX12_readsCell_J99
              refine ⟨(by first | assumption | exact (by omega)), ?_⟩
              refine sX12_flag (p0 := 1) hM_340  ?_
              intro x21_351 p352 q353
              refine ⟨(by first | assumption | exact (by omega)), ?_⟩
              intro M23_354 h_M23_354
              have hM23_354 : IM (b) M23_354 := by rw [h_M23_354]; exact hM_340.up (by omega) (bm_c1_15.mpr (by omega))
              have hFM23_354 : FrJ (fun k j => k = 1 ∧ j = 15) M M23_354 := by rw [h_M23_354]; exact (hFM_340).up (by omega)
              refine ⟨(by first | assumption | exact (by omega)), ?_⟩
              refine ⟨fun c => ?_, fun c => ?_⟩
              · exact hQ _ _ (hM23_354.mono (by first | exact Int.le_refl _ | omega)) hFM23_354 (by omega)
              · refine ⟨(by first | assumption | exact (by omega)), ?_⟩
                exact hQ _ _ (hM23_354.mono (by first | exact Int.le_refl _ | omega)) hFM23_354 (by omega)
        · refine ⟨9, ?_⟩
          refine sX12_readsCell_L45 (b := b) (p1 := p1) (M0 := M) ?_ ?_ _ _ _ _ _ (hM1_285.mono (by first | exact Int.le_refl _ | omega)) hFM1_285 (by omega) (by omega)
          · exact hQ
          · intro v2_358 v3_359 M_360 hM_360 hFM_360 p361
            unfold qX12_readsCell_J85
            intro x17_362 ex17_362 rx17_362
            have bx17_362 : 0 ≤ x17_362 ∧ x17_362 ≤ 80 := by rw [ex17_362]; exact bm_c1_15.mp (hM_360.bx _ _)
            refine ⟨(by first | assumption | exact (by omega)), ?_⟩
            refine ⟨fun c => ?_, fun c => ?_⟩
            · unfold qX12_readsCell_J99
              refine ⟨(by first | assumption | exact (by omega)), ?_⟩
              refine sX12_flag (p0 := 0) hM_360  ?_
              intro x21_364 p365 q366
              refine ⟨(by first | assumption | exact (by omega)), ?_⟩
              intro M23_367 h_M23_367
              have hM23_367 : IM (b) M23_367 := by rw [h_M23_367]; exact hM_360.up (by omega) (bm_c1_15.mpr (by omega))
              have hFM23_367 : FrJ (fun k j => k = 1 ∧ j = 15) M M23_367 := by rw [h_M23_367]; exact (hFM_360).up (by omega)
              refine ⟨(by first | assumption | exact (by omega)), ?_⟩
              refine ⟨fun c => ?_, fun c => ?_⟩
              · exact hQ _ _ (hM23_367.mono (by first | exact Int.le_refl _ | omega)) hFM23_367 (by omega)
              · refine ⟨(by first | assumption | exact (by omega)), ?_⟩
                exact hQ _ _ (hM23_367.mono (by first | exact Int.le_refl _ | omega)) hFM23_367 (by omega)
            · unfold qX12_readsCell_J99
              refine ⟨(by first | assumption | exact (by omega)), ?_⟩
              refine sX12_flag (p0 := 1) hM_360  ?_
              intro x21_371 p372 q373
              refine ⟨(by first | assumption | exact (by omega)), ?_⟩
              intro M23_374 h_M23_374
              have hM23_374 : IM (b) M23_374 := by rw [h_M23_374]; exact hM_360.up (by omega) (bm_c1_15.mpr (by omega))
              have hFM23_374 : FrJ (fun k j => k = 1 ∧ j = 15) M M23_374 := by rw [h_M23_374]; exact (hFM_360).up (by omega)
              refine ⟨(by first | assumption | exact (by omega)), ?_⟩
              refine ⟨fun c => ?_, fun c => ?_⟩
              · exact hQ _ _ (hM23_374.mono (by first | exact Int.le_refl _ | omega)) hFM23_374 (by omega)
              · refine ⟨(by first | assumption | exact (by omega)), ?_⟩
                exact hQ _ _ (hM23_374.mono (by first | exact Int.le_refl _ | omega)) hFM23_374 (by omega)
  · exact hQ _ _ (hM1_285.mono (by first | exact Int.le_refl _ | omega)) hFM1_285 (by omega)
theorem sX12_readsHearse  {b : Int} {M : Mem} {Q : Int → Mem → Prop} (hI : IM b M) (hp : M 1 4 + M 1 20 ≤ 6) (hQ : ∀ z : Int, ∀ M' : Mem, IM b M' → (M' 1 4 + M' 1 20 ≤ 6 ∧ M 1 4 + M 1 20 ≤ M' 1 4 + M' 1 20 ∧ (z = 1 → M' 1 4 + M' 1 20 = M 1 4 + M 1 20 + 1)) → Q z M') : qX12_readsHearse M Q := by
  unfold qX12_readsHearse
  have hbn := hI.nn
  have u378 : 0 ≤ M 1 4 ∧ M 1 4 ≤ 6 := bm_c1_4.mp (hI.bx _ _)
  have u379 : 0 ≤ M 1 20 ∧ M 1 20 ≤ 8 := bm_c1_20.mp (hI.bx _ _)
  intro x1_380 ex1_380 rx1_380
  have bx1_380 : 0 ≤ x1_380 ∧ x1_380 ≤ 6 := by rw [ex1_380]; exact bm_c1_4.mp (hI.bx _ _)
  intro x2_381 ex2_381 rx2_381
  have bx2_381 : 0 ≤ x2_381 ∧ x2_381 ≤ 8 := by rw [ex2_381]; exact bm_c1_20.mp (hI.bx _ _)
  refine ⟨(by first | assumption | exact (by omega)), ?_⟩
  refine ⟨fun c => ?_, fun c => ?_⟩
  · refine sX12_readsCell (p1 := 1) hI  ?_
    intro x5_383 M5_384 hM5_384 gM5_384 p385 q386
    first | (have t387 : M5_384 1 4 = M 1 4 := gM5_384 1 4 (by omega)) | skip
    first | (have t388 : M5_384 1 20 = M 1 20 := gM5_384 1 20 (by omega)) | skip
    first | (have t389 : M5_384 1 4 = M 1 4 := gM5_384 1 4 (by omega)) | skip
    first | (have t390 : M5_384 1 20 = M 1 20 := gM5_384 1 20 (by omega)) | skip
    intro x6_391 ex6_391 rx6_391
    have bx6_391 : 0 ≤ x6_391 ∧ x6_391 ≤ 8 := by rw [ex6_391]; exact bm_c1_20.mp (hM5_384.bx _ _)
    refine ⟨by omega, ?_⟩
    refine ⟨by omega, ?_⟩
    intro M9_392 h_M9_392
    have hM9_392 : IM (b) M9_392 := by rw [h_M9_392]; exact hM5_384.up (by omega) (bm_c9.mpr (by omega))
    intro x10_393 ex10_393 rx10_393
    have bx10_393 : 0 ≤ x10_393 ∧ x10_393 ≤ 8 := by rw [ex10_393]; exact bm_c1_20.mp (hM9_392.bx _ _)
    have fx10_393 : x10_393 = M5_384 1 20 := by rw [ex10_393, h_M9_392, up2_n (by decide)]
    refine ⟨(by first | assumption | exact (by omega)), ?_⟩
    intro M12_394 h_M12_394
    have hM12_394 : IM (b) M12_394 := by rw [h_M12_394]; exact hM9_392.up (by omega) (bm_c1_20.mpr (by omega))
    refine ⟨fun c => ?_, fun c => ?_⟩
    · have u396 : 0 ≤ M12_394 1 4 ∧ M12_394 1 4 ≤ 6 := bm_c1_4.mp (hM12_394.bx _ _)
      have u397 : 0 ≤ M12_394 1 20 ∧ M12_394 1 20 ≤ 8 := bm_c1_20.mp (hM12_394.bx _ _)
      have t398 : M12_394 1 4 = M5_384 1 4 := by rw [h_M12_394, up2_j (by decide), h_M9_392, up2_n (by decide)]
      have t399 : M12_394 1 20 = x10_393 + 1 := by rw [h_M12_394, up2_s]
      exact hQ _ _ (hM12_394.mono (by first | exact Int.le_refl _ | omega)) (by omega)
    · have u401 : 0 ≤ M12_394 1 4 ∧ M12_394 1 4 ≤ 6 := bm_c1_4.mp (hM12_394.bx _ _)
      have u402 : 0 ≤ M12_394 1 20 ∧ M12_394 1 20 ≤ 8 := bm_c1_20.mp (hM12_394.bx _ _)
      have t403 : M12_394 1 4 = M5_384 1 4 := by rw [h_M12_394, up2_j (by decide), h_M9_392, up2_n (by decide)]
      have t404 : M12_394 1 20 = x10_393 + 1 := by rw [h_M12_394, up2_s]
      exact hQ _ _ (hM12_394.mono (by first | exact Int.le_refl _ | omega)) (by omega)
  · have u406 : 0 ≤ M 1 4 ∧ M 1 4 ≤ 6 := bm_c1_4.mp (hI.bx _ _)
    have u407 : 0 ≤ M 1 20 ∧ M 1 20 ≤ 8 := bm_c1_20.mp (hI.bx _ _)
    exact hQ _ _ (hI.mono (by first | exact Int.le_refl _ | omega)) (by omega)
theorem sX12_takes {p1 : Int} {b : Int} {M : Mem} {Q : Int → Mem → Prop} (hI : IM b M) (hQ : ∀ z : Int, ∀ M' : Mem, IM b M' → FrJ (fun k j => k = 1 ∧ j = 15) M M' → (M 1 15 ≤ M' 1 15 ∧ (z = 1 → M' 1 15 = M 1 15 + 1)) → Q z M') : qX12_takes p1 M Q := by
  unfold qX12_takes
  have hbn := hI.nn
  have u408 : 0 ≤ M 1 15 ∧ M 1 15 ≤ 80 := bm_c1_15.mp (hI.bx _ _)
  intro x1_409 ex1_409 rx1_409
  have bx1_409 : 0 ≤ x1_409 ∧ x1_409 ≤ 80 := by rw [ex1_409]; exact bm_c1_15.mp (hI.bx _ _)
  intro x2_410 ex2_410 rx2_410
  have bx2_410 : 0 ≤ x2_410 ∧ x2_410 ≤ 80 := by rw [ex2_410]; exact bm_c1_16.mp (hI.bx _ _)
  refine ⟨fun c => ?_, fun c => ?_⟩
  · unfold qX12_takes_J28
    unfold qX12_takes_J29
    intro x4_412 ex4_412 rx4_412
    have bx4_412 : 0 ≤ x4_412 ∧ x4_412 ≤ 80 := by rw [ex4_412]; exact bm_c1_15.mp (hI.bx _ _)
    refine ⟨(by first | assumption | exact (by omega)), ?_⟩
    refine sX12_flag (p0 := 0) hI  ?_
    intro x6_413 p414 q415
    refine ⟨(by first | assumption | exact (by omega)), ?_⟩
    intro M8_416 h_M8_416
    have hM8_416 : IM (b) M8_416 := by rw [h_M8_416]; exact hI.up (by omega) (bm_c1_15.mpr (by omega))
    have hFM8_416 : FrJ (fun k j => k = 1 ∧ j = 15) M M8_416 := by rw [h_M8_416]; exact (FrJ.rf).up (by omega)
    refine ⟨by omega, ?_⟩
    have u417 : 0 ≤ M8_416 1 15 ∧ M8_416 1 15 ≤ 80 := bm_c1_15.mp (hM8_416.bx _ _)
    have t418 : M8_416 1 15 = x4_412 + x6_413 := by rw [h_M8_416, up2_s]
    exact hQ _ _ (hM8_416.mono (by first | exact Int.le_refl _ | omega)) hFM8_416 (by omega)
  · intro x10_420 ex10_420 rx10_420
    have bx10_420 : 0 ≤ x10_420 ∧ x10_420 ≤ 80 := by rw [ex10_420]; exact bm_c1_15.mp (hI.bx _ _)
    refine ⟨by omega, ?_⟩
    refine ⟨by omega, ?_⟩
    intro x13_421 ex13_421 rx13_421
    have bx13_421 : 0 ≤ x13_421 ∧ x13_421 ≤ 255 := by rw [ex13_421]; exact bm_c7.mp (hI.bx _ _)
    have cgx13_421 : x13_421 = M 7 (M 1 15) := by rw [ex13_421, ← ex10_420]
    refine ⟨fun c => ?_, fun c => ?_⟩
    · unfold qX12_takes_J28
      unfold qX12_takes_J29
      intro x4_423 ex4_423 rx4_423
      have bx4_423 : 0 ≤ x4_423 ∧ x4_423 ≤ 80 := by rw [ex4_423]; exact bm_c1_15.mp (hI.bx _ _)
      refine ⟨(by first | assumption | exact (by omega)), ?_⟩
      refine sX12_flag (p0 := 0) hI  ?_
      intro x6_424 p425 q426
      refine ⟨(by first | assumption | exact (by omega)), ?_⟩
      intro M8_427 h_M8_427
      have hM8_427 : IM (b) M8_427 := by rw [h_M8_427]; exact hI.up (by omega) (bm_c1_15.mpr (by omega))
      have hFM8_427 : FrJ (fun k j => k = 1 ∧ j = 15) M M8_427 := by rw [h_M8_427]; exact (FrJ.rf).up (by omega)
      refine ⟨by omega, ?_⟩
      have u428 : 0 ≤ M8_427 1 15 ∧ M8_427 1 15 ≤ 80 := bm_c1_15.mp (hM8_427.bx _ _)
      have t429 : M8_427 1 15 = x4_423 + x6_424 := by rw [h_M8_427, up2_s]
      exact hQ _ _ (hM8_427.mono (by first | exact Int.le_refl _ | omega)) hFM8_427 (by omega)
    · unfold qX12_takes_J29
      intro x4_431 ex4_431 rx4_431
      have bx4_431 : 0 ≤ x4_431 ∧ x4_431 ≤ 80 := by rw [ex4_431]; exact bm_c1_15.mp (hI.bx _ _)
      refine ⟨(by first | assumption | exact (by omega)), ?_⟩
      refine sX12_flag (p0 := 1) hI  ?_
      intro x6_432 p433 q434
      refine ⟨(by first | assumption | exact (by omega)), ?_⟩
      intro M8_435 h_M8_435
      have hM8_435 : IM (b) M8_435 := by rw [h_M8_435]; exact hI.up (by omega) (bm_c1_15.mpr (by omega))
      have hFM8_435 : FrJ (fun k j => k = 1 ∧ j = 15) M M8_435 := by rw [h_M8_435]; exact (FrJ.rf).up (by omega)
      refine ⟨by omega, ?_⟩
      have u436 : 0 ≤ M8_435 1 15 ∧ M8_435 1 15 ≤ 80 := bm_c1_15.mp (hM8_435.bx _ _)
      have t437 : M8_435 1 15 = x4_431 + x6_432 := by rw [h_M8_435, up2_s]
      exact hQ _ _ (hM8_435.mono (by first | exact Int.le_refl _ | omega)) hFM8_435 (by omega)
theorem sX12_hearses_L29  {X60 : Int → Int → Mem → Prop} {Q : Int → Mem → Prop} {b : Int} (hb : b + 1 ≤ 2000000000) (hQ : ∀ z : Int, ∀ M' : Mem, IM (b + 1) M' → Q z M') (hX60 : ∀ w1 w2 : Int, ∀ M' : Mem, IM (b) M' → (0 ≤ w1 ∧ w1 ≤ 80 ∧ 0 ≤ w2 ∧ w2 ≤ 1 ∧ M' 1 4 + M' 1 20 ≤ 6) → X60 w1 w2 M') : ∀ (n : Nat) (v1 v2 v3 : Int) (M : Mem), IM (b) M → (M 1 4 + M 1 20 ≤ 6 ∧ 0 ≤ v1 ∧ v1 ≤ 80 ∧ 0 ≤ v2 ∧ v2 ≤ 1 ∧ 0 ≤ v3 ∧ v3 ≤ 1) → 6 - (M 1 4 + M 1 20) + v3 < (n : Int) → qX12_hearses_L29 X60 Q n v1 v2 v3 M := by
  intro n
  induction n with
  | zero => intro v1 v2 v3 M hI hv hm; exact absurd hm (by omega)
  | succ n ih =>
    intro v1 v2 v3 M hI hv hm
    rw [qX12_hearses_L29]
    have hbn := hI.nn
    have u438 : 0 ≤ M 1 4 ∧ M 1 4 ≤ 6 := bm_c1_4.mp (hI.bx _ _)
    have u439 : 0 ≤ M 1 20 ∧ M 1 20 ≤ 8 := bm_c1_20.mp (hI.bx _ _)
    refine ⟨(by first | assumption | exact (by omega)), ?_⟩
    refine ⟨fun c => ?_, fun c => ?_⟩
    · have u441 : 0 ≤ M 1 4 ∧ M 1 4 ≤ 6 := bm_c1_4.mp (hI.bx _ _)
      have u442 : 0 ≤ M 1 20 ∧ M 1 20 ≤ 8 := bm_c1_20.mp (hI.bx _ _)
      exact hX60 _ _ _ (hI.mono (by first | exact Int.le_refl _ | omega)) (by omega)
    · refine sX12_readsHearse  hI (by omega) ?_
      intro x7_444 M7_445 hM7_445 p446 q447 q448
      refine ⟨fun c => ?_, fun c => ?_⟩
      · have u450 : 0 ≤ M7_445 1 4 ∧ M7_445 1 4 ≤ 6 := bm_c1_4.mp (hM7_445.bx _ _)
        have u451 : 0 ≤ M7_445 1 20 ∧ M7_445 1 20 ≤ 8 := bm_c1_20.mp (hM7_445.bx _ _)
        exact ih _ _ _ _ (hM7_445.mono (by first | exact Int.le_refl _ | omega)) (by omega) (by omega)
      · refine sX12_takes (p1 := 59) hM7_445  ?_
        intro x9_453 M9_454 hM9_454 gM9_454 p455 q456 q457
        first | (have t458 : M9_454 1 4 = M7_445 1 4 := gM9_454 1 4 (by omega)) | skip
        first | (have t459 : M9_454 1 20 = M7_445 1 20 := gM9_454 1 20 (by omega)) | skip
        refine ⟨fun c => ?_, fun c => ?_⟩
        · have u461 : 0 ≤ M9_454 1 4 ∧ M9_454 1 4 ≤ 6 := bm_c1_4.mp (hM9_454.bx _ _)
          have u462 : 0 ≤ M9_454 1 20 ∧ M9_454 1 20 ≤ 8 := bm_c1_20.mp (hM9_454.bx _ _)
          exact ih _ _ _ _ (hM9_454.mono (by first | exact Int.le_refl _ | omega)) (by omega) (by omega)
        · have u464 : 0 ≤ M9_454 1 4 ∧ M9_454 1 4 ≤ 6 := bm_c1_4.mp (hM9_454.bx _ _)
          have u465 : 0 ≤ M9_454 1 20 ∧ M9_454 1 20 ≤ 8 := bm_c1_20.mp (hM9_454.bx _ _)
          exact ih _ _ _ _ (hM9_454.mono (by first | exact Int.le_refl _ | omega)) (by omega) (by omega)
end
section
theorem sX12_hearses_L81  {X135 : Mem → Prop} {Q : Int → Mem → Prop} {b : Int} (hb : b + 1 ≤ 2000000000) (hQ : ∀ z : Int, ∀ M' : Mem, IM (b + 1) M' → Q z M') (hX135 : ∀ M' : Mem, IM (b) M' → X135 M') : ∀ (n : Nat) (v5 : Int) (M : Mem), IM (b) M → (0 ≤ v5 ∧ v5 ≤ 8 ∧ M 1 4 + M 1 20 - v5 ≤ 6) → 8 - v5 < (n : Int) → qX12_hearses_L81 X135 Q n v5 M := by
  intro n
  induction n with
  | zero => intro v5 M hI hv hm; exact absurd hm (by omega)
  | succ n ih =>
    intro v5 M hI hv hm
    rw [qX12_hearses_L81]
    have hbn := hI.nn
    have u466 : 0 ≤ M 1 4 ∧ M 1 4 ≤ 6 := bm_c1_4.mp (hI.bx _ _)
    have u467 : 0 ≤ M 1 20 ∧ M 1 20 ≤ 8 := bm_c1_20.mp (hI.bx _ _)
    intro x16_468 ex16_468 rx16_468
    have bx16_468 : 0 ≤ x16_468 ∧ x16_468 ≤ 8 := by rw [ex16_468]; exact bm_c1_20.mp (hI.bx _ _)
    refine ⟨(by first | assumption | exact (by omega)), ?_⟩
    refine ⟨fun c => ?_, fun c => ?_⟩
    · have u470 : 0 ≤ M 1 4 ∧ M 1 4 ≤ 6 := bm_c1_4.mp (hI.bx _ _)
      have u471 : 0 ≤ M 1 20 ∧ M 1 20 ≤ 8 := bm_c1_20.mp (hI.bx _ _)
      exact hX135 _ (hI.mono (by first | exact Int.le_refl _ | omega))
    · intro x19_473 ex19_473 rx19_473
      have bx19_473 : 0 ≤ x19_473 ∧ x19_473 ≤ 6 := by rw [ex19_473]; exact bm_c1_4.mp (hI.bx _ _)
      refine ⟨by omega, ?_⟩
      refine ⟨by omega, ?_⟩
      intro x22_474 ex22_474 rx22_474
      have bx22_474 : -1 ≤ x22_474 ∧ x22_474 ≤ 29 := by rw [ex22_474]; exact bm_c9.mp (hI.bx _ _)
      refine ⟨by omega, ?_⟩
      refine ⟨by omega, ?_⟩
      intro M25_475 h_M25_475
      have hM25_475 : IM (b) M25_475 := by rw [h_M25_475]; exact hI.up (isN.nu (Or.inl rfl) _) ((bm_n (Or.inl rfl)).mpr (by first | assumption | exact ⟨by omega, by omega, by omega, by omega⟩))
      intro x26_476 ex26_476 rx26_476
      have bx26_476 : 0 ≤ x26_476 ∧ x26_476 ≤ 6 := by rw [ex26_476]; exact bm_c1_4.mp (hM25_475.bx _ _)
      have fx26_476 : x26_476 = M 1 4 := by rw [ex26_476, h_M25_475, up2_n (by decide)]
      refine ⟨by omega, ?_⟩
      refine ⟨by omega, ?_⟩
      intro M29_477 h_M29_477
      have hM29_477 : IM (b) M29_477 := by rw [h_M29_477]; exact hM25_475.up (isN.nu (Or.inl rfl) _) ((bm_n (Or.inl rfl)).mpr (by first | assumption | exact ⟨by omega, by omega, by omega, by omega⟩))
      intro x30_478 ex30_478 rx30_478
      have bx30_478 : 0 ≤ x30_478 ∧ x30_478 ≤ 6 := by rw [ex30_478]; exact bm_c1_4.mp (hM29_477.bx _ _)
      have fx30_478 : x30_478 = M 1 4 := by rw [ex30_478, h_M29_477, up2_n (by decide), h_M25_475, up2_n (by decide)]
      refine ⟨(by first | assumption | exact (by omega)), ?_⟩
      intro M32_479 h_M32_479
      have hM32_479 : IM (b) M32_479 := by rw [h_M32_479]; exact hM29_477.up (by omega) (bm_c1_4.mpr (by omega))
      have u480 : 0 ≤ M32_479 1 4 ∧ M32_479 1 4 ≤ 6 := bm_c1_4.mp (hM32_479.bx _ _)
      have u481 : 0 ≤ M32_479 1 20 ∧ M32_479 1 20 ≤ 8 := bm_c1_20.mp (hM32_479.bx _ _)
      have t482 : M32_479 1 4 = x30_478 + 1 := by rw [h_M32_479, up2_s]
      have t483 : M32_479 1 20 = M 1 20 := by rw [h_M32_479, up2_j (by decide), h_M29_477, up2_n (by decide), h_M25_475, up2_n (by decide)]
      exact ih _ _ (hM32_479.mono (by first | exact Int.le_refl _ | omega)) (by omega) (by omega)
theorem sX12_hearses  {b : Int} {M : Mem} {Q : Int → Mem → Prop} (hI : IM b M) (hb : b + 1 ≤ 2000000000) (hQ : ∀ z : Int, ∀ M' : Mem, IM (b + 1) M' → Q z M') : qX12_hearses M Q := by
  unfold qX12_hearses
  have hbn := hI.nn
  intro M1_484 h_M1_484
  have hM1_484 : IM (b) M1_484 := by rw [h_M1_484]; exact hI.up (by omega) (by simp [BM])
  refine sX12_begins (p1 := 17) hM1_484 (by omega) ?_
  intro x2_485 M2_486 hM2_486 gM2_486 p487 q488
  first | (have t489 : M2_486 1 4 = M1_484 1 4 := gM2_486 1 4 (by omega)) | skip
  first | (have t490 : M2_486 1 20 = M1_484 1 20 := gM2_486 1 20 (by omega)) | skip
  first | (have t491 : M2_486 1 4 = M1_484 1 4 := gM2_486 1 4 (by omega)) | skip
  first | (have t492 : M2_486 1 20 = M1_484 1 20 := gM2_486 1 20 (by omega)) | skip
  intro M3_493 h_M3_493
  have hM3_493 : IM (b) M3_493 := by rw [h_M3_493]; exact hM2_486.up (by omega) (bm_c1_20.mpr (by omega))
  refine ⟨fun c => ?_, fun c => ?_⟩
  · refine ⟨10, ?_⟩
    have u495 : 0 ≤ M3_493 1 4 ∧ M3_493 1 4 ≤ 6 := bm_c1_4.mp (hM3_493.bx _ _)
    have u496 : 0 ≤ M3_493 1 20 ∧ M3_493 1 20 ≤ 8 := bm_c1_20.mp (hM3_493.bx _ _)
    have t497 : M3_493 1 4 = M2_486 1 4 := by rw [h_M3_493, up2_j (by decide)]
    have t498 : M3_493 1 20 = 0 := by rw [h_M3_493, up2_s]
    refine sX12_hearses_L29 (b := b)  hb ?_ ?_ _ _ _ _ _ (hM3_493.mono (by first | exact Int.le_refl _ | omega)) (by omega) (by omega)
    · exact hQ
    · intro v1_499 v2_500 M_501 hM_501 p502
      refine ⟨(by first | assumption | exact (by omega)), ?_⟩
      refine ⟨(by first | assumption | exact (by omega)), ?_⟩
      refine sX12_faultOf (p1 := v1_499) (p2 := 17) (p3 := v2_500) hM_501 (by omega) ?_
      intro x14_503 p504 q505
      refine ⟨fun c => ?_, fun c => ?_⟩
      · refine ⟨9, ?_⟩
        have u507 : 0 ≤ M_501 1 4 ∧ M_501 1 4 ≤ 6 := bm_c1_4.mp (hM_501.bx _ _)
        have u508 : 0 ≤ M_501 1 20 ∧ M_501 1 20 ≤ 8 := bm_c1_20.mp (hM_501.bx _ _)
        refine sX12_hearses_L81 (b := b)  hb ?_ ?_ _ _ _ (hM_501.mono (by first | exact Int.le_refl _ | omega)) (by omega) (by omega)
        · exact hQ
        · intro M_509 hM_509
          refine sX12_isNew  hM_509 (by omega) ?_
          intro x34_510 M34_511 hM34_511 q512
          exact hQ _ _ (hM34_511.mono (by first | exact Int.le_refl _ | omega))
      · exact hQ _ _ (hM_501.mono (by first | exact Int.le_refl _ | omega))
  · refine ⟨10, ?_⟩
    have u515 : 0 ≤ M3_493 1 4 ∧ M3_493 1 4 ≤ 6 := bm_c1_4.mp (hM3_493.bx _ _)
    have u516 : 0 ≤ M3_493 1 20 ∧ M3_493 1 20 ≤ 8 := bm_c1_20.mp (hM3_493.bx _ _)
    have t517 : M3_493 1 4 = M2_486 1 4 := by rw [h_M3_493, up2_j (by decide)]
    have t518 : M3_493 1 20 = 0 := by rw [h_M3_493, up2_s]
    refine sX12_hearses_L29 (b := b)  hb ?_ ?_ _ _ _ _ _ (hM3_493.mono (by first | exact Int.le_refl _ | omega)) (by omega) (by omega)
    · exact hQ
    · intro v1_519 v2_520 M_521 hM_521 p522
      refine ⟨(by first | assumption | exact (by omega)), ?_⟩
      refine ⟨(by first | assumption | exact (by omega)), ?_⟩
      refine sX12_faultOf (p1 := v1_519) (p2 := 17) (p3 := v2_520) hM_521 (by omega) ?_
      intro x38_523 p524 q525
      refine ⟨fun c => ?_, fun c => ?_⟩
      · refine ⟨9, ?_⟩
        have u527 : 0 ≤ M_521 1 4 ∧ M_521 1 4 ≤ 6 := bm_c1_4.mp (hM_521.bx _ _)
        have u528 : 0 ≤ M_521 1 20 ∧ M_521 1 20 ≤ 8 := bm_c1_20.mp (hM_521.bx _ _)
        refine sX12_hearses_L81 (b := b)  hb ?_ ?_ _ _ _ (hM_521.mono (by first | exact Int.le_refl _ | omega)) (by omega) (by omega)
        · exact hQ
        · intro M_529 hM_529
          refine sX12_isNew  hM_529 (by omega) ?_
          intro x41_530 M41_531 hM41_531 q532
          exact hQ _ _ (hM41_531.mono (by first | exact Int.le_refl _ | omega))
      · exact hQ _ _ (hM_521.mono (by first | exact Int.le_refl _ | omega))
theorem tk6 (n : Nat) : (((bS 2).take n).length : Int) ≤ 6 := by
  rw [List.length_take]
  have : (bS 2).length = 6 := rfl
  omega
/-- the owners that are read -/
def RO (M : Mem) : Prop := ∀ i, 0 ≤ i → i < M 1 20 → 0 ≤ M 9 (2 * i + 1) ∧ M 9 (2 * i + 1) ≤ 5
theorem RO.fr {M M' : Mem} (h : RO M) (h1 : M' 1 20 = M 1 20) (h2 : ∀ j, M' 9 j = M 9 j) : RO M' := by
  intro i hi hl
  rw [h2]
  exact h i hi (by rw [← h1]; exact hl)
theorem sX12_readsMourner {b : Int} {M : Mem} {Q : Int → Mem → Prop} (hI : IM b M) (hp : M 1 5 + M 1 20 ≤ 8) (hG : RO M) (hQ : ∀ z : Int, ∀ M' : Mem, IM b M' → M' 1 5 = M 1 5 → (z = 1 → M' 1 20 = M 1 20 + 1 ∧ M' 1 5 + M' 1 20 ≤ 8 ∧ RO M') → Q z M') : qX12_readsMourner M Q := by
  unfold qX12_readsMourner
  intro x1 e1 _ x2 e2 _
  have b1 : 0 ≤ x1 ∧ x1 ≤ 8 := by rw [e1]; exact bm_c1_5.mp (hI.bx _ _)
  have b2 : 0 ≤ x2 ∧ x2 ≤ 8 := by rw [e2]; exact bm_c1_20.mp (hI.bx _ _)
  refine ⟨(by omega), ⟨fun c => ?_, fun c => hQ _ _ hI rfl (fun q => absurd q (by decide))⟩⟩
  refine sX12_readsCell (p1 := 0) hI ?_
  intro x5 M5 h5 g5 p5 _ x6 e6 _
  have f6 : x6 = x2 := by rw [e6, g5 1 20 (by omega), e2]
  refine ⟨by omega, by omega, ?_⟩
  intro M9 h9 x10 e10 _
  have i9 : IM b M9 := by rw [h9]; exact h5.up (by omega) (bm_c9.mpr p5)
  have f10 : x10 = x2 := by rw [e10, h9, up2_n (by decide), ← e6, f6]
  have J : ∀ (t0 : Int) (M1 : Mem), IM b M1 → (∀ j, M1 9 j = M9 9 j) → M1 1 20 = x2 → M1 1 5 = x1 → (-1 ≤ t0 ∧ t0 ≤ 5) → qX12_readsMourner_J68 Q t0 (2 * x10 + 1) M1 := by
    intro t0 M1 i1 g9 g20 g5' ht
    unfold qX12_readsMourner_J68
    refine ⟨by omega, by omega, (by omega), ?_⟩
    intro M20 h20 x21 e21 _
    have i20 : IM b M20 := by rw [h20]; exact i1.up (by omega) (bm_c9.mpr (by omega))
    have f21 : x21 = x2 := by rw [e21, h20, up2_n (by decide), g20]
    refine ⟨(by omega), ?_⟩
    intro M23 h23 x24 e24 _
    have i23 : IM b M23 := by rw [h23]; exact i20.up (by omega) (bm_c1_20.mpr (by omega))
    have f24 : x24 = x2 + 1 := by rw [e24, h23, up2_s, f21]
    refine ⟨by omega, by omega, ?_⟩
    intro x27 e27 _
    have f27 : x27 = t0 := by rw [e27, h23, up2_n (by decide), h20, show 2 * x24 - 1 = 2 * x10 + 1 from by omega, up2_s]
    have k5 : M23 1 5 = M 1 5 := by rw [h23, up2_j (by decide), h20, up2_n (by decide), g5', e1]
    refine ⟨fun c2 => hQ _ _ i23 k5 (fun q => absurd q (by decide)), fun c2 => hQ _ _ i23 k5 (fun _ => ?_)⟩
    refine ⟨by rw [← e24, f24, e2], by rw [k5, ← e24]; omega, ?_⟩
    intro i hi hl
    rw [← e24] at hl
    have hr : M23 9 (2 * i + 1) = if i = x2 then t0 else M 9 (2 * i + 1) := by
      rw [h23, up2_n (by decide), h20]
      by_cases ci : i = x2
      · rw [if_pos ci, show 2 * i + 1 = 2 * x10 + 1 from by omega, up2_s]
      · rw [if_neg ci, up2_j (by omega), g9, h9, up2_j (by omega)]
        exact g5 9 _ (by omega)
    rw [hr]
    by_cases ci : i = x2
    · rw [if_pos ci]; omega
    · rw [if_neg ci]; exact hG i hi (by omega)
  refine ⟨fun c2 => ?_, fun c2 => J _ _ i9 (fun _ => rfl) (by rw [← e10]; exact f10) (by rw [h9, up2_n (by decide), g5 1 5 (by omega), e1]) (by omega)⟩
  intro x12 e12 _
  have b12 : 0 ≤ x12 ∧ x12 ≤ 6 := by rw [e12]; exact bm_c1_4.mp (i9.bx _ _)
  have hl6 : ((bS 2).length : Int) = 6 := rfl
  refine ⟨by omega, by omega, ?_⟩
  have ht := tk6 x12.toNat
  refine sX12_takesOf i9 (by omega) ?_
  intro x16 M16 h16 g16 p16 _
  exact J _ _ h16 (fun j => g16 9 j (by omega)) (by rw [g16 1 20 (by omega), ← e10]; exact f10) (by rw [g16 1 5 (by omega), h9, up2_n (by decide), g5 1 5 (by omega), e1]) (by omega)
theorem sX12_mourners_L29 {X60 : Int → Int → Mem → Prop} {Q : Int → Mem → Prop} {b : Int} (hX : ∀ (w1 w2 : Int) (M' : Mem), IM b M' → (w2 = 1 → RO M' ∧ M' 1 5 + M' 1 20 ≤ 8) → (w2 = 0 ∨ w2 = 1) → (0 ≤ w1 ∧ w1 ≤ 80) → X60 w1 w2 M') : ∀ (n : Nat) (v1 v2 v3 : Int) (M : Mem), IM b M → (v2 = 1 → RO M ∧ M 1 5 + M 1 20 ≤ 8) → (0 ≤ v1 ∧ v1 ≤ 80) → ((v2 = 0 ∨ v2 = 1) ∧ (v3 = 0 ∨ v3 = 1) ∧ (v2 = 0 → v3 = 0)) → ((v3 = 0 → 1 ≤ n) ∧ (v3 = 1 → 10 - (M 1 5 + M 1 20) ≤ n)) → qX12_mourners_L29 X60 Q n v1 v2 v3 M := by
  intro n
  induction n with
  | zero =>
    intro v1 v2 v3 M hI hG h1 h2 hm
    exfalso
    rcases h2.2.1 with c | c
    · exact absurd (hm.1 c) (by decide)
    · have := hm.2 c
      have := hG (by omega)
      omega
  | succ n ih =>
    intro v1 v2 v3 M hI hG h1 h2 hm
    rw [qX12_mourners_L29]
    refine ⟨(by omega), ⟨fun c => hX _ _ _ hI hG h2.1 h1, fun c => ?_⟩⟩
    have hg := hG (by omega)
    have hm2 := hm.2 (by omega)
    refine sX12_readsMourner hI hg.2 hg.1 ?_
    intro x7 M7 h7 g7 p7 _ q7
    refine ⟨fun c7 => ?_, fun c7 => ?_⟩
    · exact ih _ _ _ _ h7 (fun q => by omega) h1 ⟨by omega, by omega, by omega⟩ ⟨fun _ => by omega, fun q => absurd q (by decide)⟩
    · have p := p7 (by omega)
      refine sX12_takes (p1 := 59) h7 ?_
      intro x9 M9 h9 g9 p9 _ q9
      have r9 : RO M9 := p.2.2.fr (g9 1 20 (by omega)) (fun j => g9 9 j (by omega))
      have s9 : M9 1 5 + M9 1 20 = M 1 5 + M 1 20 + 1 := by rw [g9 1 5 (by omega), g9 1 20 (by omega), g7, p.1]; omega
      have s8 : M9 1 5 + M9 1 20 ≤ 8 := by rw [g9 1 5 (by omega), g9 1 20 (by omega)]; exact p.2.1
      refine ⟨fun c9 => ?_, fun c9 => ?_⟩
      · exact ih _ _ _ _ h9 (fun _ => ⟨r9, s8⟩) h1 ⟨by omega, by omega, by omega⟩ ⟨fun _ => by omega, fun q => absurd q (by decide)⟩
      · exact ih _ _ _ _ h9 (fun _ => ⟨r9, s8⟩) h1 ⟨by omega, by omega, by omega⟩ ⟨fun q => absurd q (by decide), fun _ => by omega⟩
theorem sX12_mourners_L81 {X173 : Mem → Prop} {Q : Int → Mem → Prop} {b : Int} (hX : ∀ (M' : Mem), IM b M' → X173 M') : ∀ (n : Nat) (v5 : Int) (M : Mem), IM b M → RO M → (0 ≤ v5 ∧ v5 ≤ M 1 20) → M 1 5 + M 1 20 - v5 ≤ 8 → M 1 20 - v5 < (n : Int) → qX12_mourners_L81 X173 Q n v5 M := by
  intro n
  induction n with
  | zero => intro v5 M hI hG h1 h2 hm; exact absurd hm (by omega)
  | succ n ih =>
    intro v5 M hI hG h1 h2 hm
    rw [qX12_mourners_L81]
    intro x16 e16 _
    have b16 : 0 ≤ x16 ∧ x16 ≤ 8 := by rw [e16]; exact bm_c1_20.mp (hI.bx _ _)
    refine ⟨(by omega), ⟨fun c => hX _ hI, fun c => ?_⟩⟩
    intro x19 e19 _
    have b19 : 0 ≤ x19 ∧ x19 ≤ 8 := by rw [e19]; exact bm_c1_5.mp (hI.bx _ _)
    have ho := hG v5 h1.1 (by omega)
    refine ⟨by omega, by omega, ?_⟩
    intro x22 e22 _
    have b22 : -1 ≤ x22 ∧ x22 ≤ 29 := by rw [e22]; exact bm_c9.mp (hI.bx _ _)
    refine ⟨by omega, by omega, ?_⟩
    intro M25 h25 x26 e26 _
    have i25 : IM b M25 := by rw [h25]; exact hI.up (isN.nu (Or.inl rfl) _) ((bm_n (Or.inl rfl)).mpr ⟨by omega, by omega, by omega, by omega⟩)
    have f26 : x26 = x19 := by rw [e26, h25, up2_n (by decide), e19]
    refine ⟨by omega, by omega, ?_⟩
    intro x29 e29 _
    have f29 : x29 = M 9 (2 * v5 + 1) := by rw [e29, h25, up2_n (by decide)]
    refine ⟨by omega, by omega, ?_⟩
    intro M32 h32 x33 e33 _
    have i32 : IM b M32 := by rw [h32]; exact i25.up (by omega) (bm_c3.mpr (by omega))
    have f33 : x33 = x19 := by rw [e33, h32, up2_n (by decide), ← e26, f26]
    refine ⟨by omega, by omega, ?_⟩
    intro M36 h36 x37 e37 _
    have i36 : IM b M36 := by rw [h36]; exact i32.up (isN.nu (Or.inl rfl) _) ((bm_n (Or.inl rfl)).mpr ⟨by omega, by omega, by omega, by omega⟩)
    have f37 : x37 = x19 := by rw [e37, h36, up2_n (by decide), ← e33, f33]
    refine ⟨by omega, by omega, ?_⟩
    intro M40 h40 x41 e41 _
    have i40 : IM b M40 := by rw [h40]; exact i36.up (isN.nu (Or.inl rfl) _) ((bm_n (Or.inl rfl)).mpr ⟨by omega, by omega, by omega, by omega⟩)
    have f41 : x41 = x19 := by rw [e41, h40, up2_n (by decide), ← e37, f37]
    refine ⟨(by omega), ?_⟩
    intro M43 h43
    have i43 : IM b M43 := by rw [h43]; exact i40.up (by omega) (bm_c1_5.mpr (by omega))
    have k5 : M43 1 5 = M 1 5 + 1 := by rw [h43, up2_s, f41, e19]
    have k20 : M43 1 20 = M 1 20 := by rw [h43, up2_j (by decide), h40, up2_n (by decide), h36, up2_n (by decide), h32, up2_n (by decide), h25, up2_n (by decide)]
    have k9 : ∀ j, M43 9 j = M 9 j := fun j => by rw [h43, up2_n (by decide), h40, up2_n (by decide), h36, up2_n (by decide), h32, up2_n (by decide), h25, up2_n (by decide)]
    exact ih _ _ i43 (hG.fr k20 k9) (by omega) (by omega) (by omega)
theorem sX12_mourners {b : Int} {M : Mem} {Q : Int → Mem → Prop} (hI : IM b M) (hb : b + 1 ≤ 2000000000) (hQ : ∀ z : Int, ∀ M' : Mem, IM (b + 1) M' → Q z M') : qX12_mourners M Q := by
  unfold qX12_mourners
  intro M1 h1
  have i1 : IM b M1 := by rw [h1]; exact hI.up (by omega) (by simp [BM])
  refine sX12_begins (p1 := 39) i1 (by omega) ?_
  intro x2 M2 h2 g2 p2 _ M3 h3
  have i3 : IM b M3 := by rw [h3]; exact h2.up (by omega) (bm_c1_20.mpr (by decide))
  have k20 : M3 1 20 = 0 := by rw [h3, up2_s]
  have b5 := bm_c1_5.mp (i3.bx 1 5)
  have r3 : RO M3 := fun i hi hl => by omega
  have key : ∀ (w1 w2 : Int) (M' : Mem), IM b M' → (w2 = 1 → RO M' ∧ M' 1 5 + M' 1 20 ≤ 8) → (w2 = 0 ∨ w2 = 1) → (0 ≤ w1 ∧ w1 ≤ 80) → (iR w1 ∧ (iR w2 ∧ (qX12_faultOf w1 39 w2 M' (fun (x14 : Int) (M14 : Mem) => iR x14 → (((0 ≤ x14) → (∃ n44 : Nat, qX12_mourners_L81 (fun (M : Mem) => qX12_isNew M (fun (x45 : Int) (M45 : Mem) => iR x45 → (Q x45 M45))) Q n44 0 M14)) ∧ ((¬ (0 ≤ x14)) → (Q x14 M14))))))) := by
    intro w1 w2 M' i' hg hw2 hw1
    refine ⟨(by omega), (by omega), ?_⟩
    refine sX12_faultOf (p1 := w1) (p2 := 39) (p3 := w2) i' (by omega) ?_
    intro x14 p14 _
    refine ⟨fun c => ?_, fun c => hQ _ _ (i'.mono (by first | exact Int.le_refl _ | omega))⟩
    have hg1 := hg (by omega)
    have b20 := bm_c1_20.mp (i'.bx 1 20)
    refine ⟨10, sX12_mourners_L81 (b := b) ?_ _ _ _ i' hg1.1 (by omega) (by omega) (by omega)⟩
    intro M'' i''
    exact sX12_isNew i'' hb (fun z M3 h3 _ => hQ _ _ h3)
  refine ⟨fun c => ⟨10, by omega, ?_⟩, fun c => ⟨10, by omega, ?_⟩⟩
  · exact sX12_mourners_L29 key _ _ _ _ _ i3 (fun _ => ⟨r3, by omega⟩) (by omega) ⟨by omega, by omega, by omega⟩ ⟨fun _ => by omega, fun q => absurd q (by decide)⟩
  · exact sX12_mourners_L29 key _ _ _ _ _ i3 (fun _ => ⟨r3, by omega⟩) (by omega) ⟨by omega, by omega, by omega⟩ ⟨fun q => absurd q (by decide), fun _ => by omega⟩
theorem sX12_weather_L14  {X44 : Int → Mem → Prop} {Q : Int → Mem → Prop} {b : Int} (hQ : ∀ z : Int, ∀ M' : Mem, IM b M' → Q z M') (hX44 : ∀ w1 : Int, ∀ M' : Mem, IM (b) M' → (0 ≤ w1 ∧ w1 ≤ 20) → X44 w1 M') : ∀ (n : Nat) (v1 : Int) (M : Mem), IM (b) M → (0 ≤ v1 ∧ v1 ≤ 20) → 20 - v1 < (n : Int) → qX12_weather_L14 X44 Q n v1 M := by
  intro n
  induction n with
  | zero => intro v1 M hI hv hm; exact absurd hm (by omega)
  | succ n ih =>
    intro v1 M hI hv hm
    rw [qX12_weather_L14]
    have hbn := hI.nn
    refine ⟨(by first | assumption | exact (by omega)), ?_⟩
    refine ⟨fun c => ?_, fun c => ?_⟩
    · exact hX44 _ _ (hI.mono (by first | exact Int.le_refl _ | omega)) (by omega)
    · refine sX12_isDigit  hI  ?_
      intro x5_536 p537 q538 q539
      refine ⟨fun c => ?_, fun c => ?_⟩
      · exact hX44 _ _ (hI.mono (by first | exact Int.le_refl _ | omega)) (by omega)
      · refine sX12_number (p1 := 1) hI (by omega) ?_
        intro x7_542 M7_543 hM7_543 gM7_543 p544 q545
        refine ⟨by omega, ?_⟩
        refine ⟨by omega, ?_⟩
        intro M10_546 h_M10_546
        have hM10_546 : IM (b) M10_546 := by rw [h_M10_546]; exact hM7_543.up (by omega) (by simp [BM])
        exact ih _ _ (hM10_546.mono (by first | exact Int.le_refl _ | omega)) (by omega) (by omega)
theorem sX12_weather_L73   {Q : Int → Mem → Prop} {b : Int} (hQ : ∀ z : Int, ∀ M' : Mem, IM b M' → Q z M') : ∀ (n : Nat) (v1 v2 : Int) (M : Mem), IM (b) M → (1 ≤ v1 ∧ v1 ≤ 20 ∧ 0 ≤ v2 ∧ v2 ≤ 20) → 20 - v2 < (n : Int) → qX12_weather_L73 Q n v1 v2 M := by
  intro n
  induction n with
  | zero => intro v1 v2 M hI hv hm; exact absurd hm (by omega)
  | succ n ih =>
    intro v1 v2 M hI hv hm
    rw [qX12_weather_L73]
    have hbn := hI.nn
    refine ⟨(by first | assumption | exact (by omega)), ?_⟩
    refine ⟨(by first | assumption | exact (by omega)), ?_⟩
    refine ⟨fun c => ?_, fun c => ?_⟩
    · exact hQ _ _ (hI.mono (by first | exact Int.le_refl _ | omega))
    · refine ⟨by omega, ?_⟩
      refine ⟨by omega, ?_⟩
      intro x25_549 ex25_549 rx25_549
      have bx25_549 : -2147483648 ≤ x25_549 ∧ x25_549 ≤ 2147483647 := rx25_549
      intro M26_550 h_M26_550
      have hM26_550 : IM (b) M26_550 := by rw [h_M26_550]; exact hI.up (by omega) (by simp [BM])
      exact ih _ _ _ (hM26_550.mono (by first | exact Int.le_refl _ | omega)) (by omega) (by omega)
theorem sX12_weather  {b : Int} {M : Mem} {Q : Int → Mem → Prop} (hI : IM b M) (hQ : ∀ z : Int, ∀ M' : Mem, IM b M' → Q z M') : qX12_weather M Q := by
  unfold qX12_weather
  have hbn := hI.nn
  intro M1_551 h_M1_551
  have hM1_551 : IM (b) M1_551 := by rw [h_M1_551]; exact hI.up (by omega) (by simp [BM])
  refine sX12_begins (p1 := 80) hM1_551 (by omega) ?_
  intro x2_552 M2_553 hM2_553 gM2_553 p554 q555
  refine ⟨21, ?_⟩
  refine sX12_weather_L14 (b := b)  ?_ ?_ _ _ _ (hM2_553.mono (by first | exact Int.le_refl _ | omega)) (by omega) (by omega)
  · exact hQ
  · intro v1_556 M_557 hM_557 p558
    unfold qX12_weather_J44
    refine ⟨(by first | assumption | exact (by omega)), ?_⟩
    refine ⟨fun c => ?_, fun c => ?_⟩
    · intro x14_560 ex14_560 rx14_560
      have bx14_560 : 0 ≤ x14_560 ∧ x14_560 ≤ 80 := by rw [ex14_560]; exact bm_c1_15.mp (hM_557.bx _ _)
      refine ⟨(by first | assumption | exact (by omega)), ?_⟩
      exact hQ _ _ (hM_557.mono (by first | exact Int.le_refl _ | omega))
    · intro x16_562 ex16_562 rx16_562
      have bx16_562 : 0 ≤ x16_562 ∧ x16_562 ≤ 80 := by rw [ex16_562]; exact bm_c1_15.mp (hM_557.bx _ _)
      intro x17_563 ex17_563 rx17_563
      have bx17_563 : 0 ≤ x17_563 ∧ x17_563 ≤ 80 := by rw [ex17_563]; exact bm_c1_16.mp (hM_557.bx _ _)
      refine ⟨fun c => ?_, fun c => ?_⟩
      · intro M19_565 h_M19_565
        have hM19_565 : IM (b) M19_565 := by rw [h_M19_565]; exact hM_557.up (by omega) (bm_c1_7.mpr (by omega))
        refine ⟨21, ?_⟩
        refine sX12_weather_L73 (b := b)  ?_ _ _ _ _ (hM19_565.mono (by first | exact Int.le_refl _ | omega)) (by omega) (by omega)
        · exact hQ
      · intro x28_567 ex28_567 rx28_567
        have bx28_567 : 0 ≤ x28_567 ∧ x28_567 ≤ 80 := by rw [ex28_567]; exact bm_c1_15.mp (hM_557.bx _ _)
        refine ⟨(by first | assumption | exact (by omega)), ?_⟩
        exact hQ _ _ (hM_557.mono (by first | exact Int.le_refl _ | omega))
theorem dpc_le (f : Int → Int) (n : Nat) : dpc f n ≤ n := by
  induction n with
  | zero => exact Int.le_refl _
  | succ n ih =>
    unfold dpc
    split
    · omega
    · split <;> omega
theorem dpc_nn {f : Int → Int} {m : Int} (h : WFC f m) (n : Nat) (hn : (n : Int) ≤ m) : 0 ≤ dpc f n := by
  induction n with
  | zero => exact Int.le_refl _
  | succ n ih =>
    have i := ih (by omega)
    obtain ⟨a, b, _⟩ := h n (by omega)
    unfold dpc
    split
    · omega
    · rename_i c
      split
      · omega
      · have := b (by omega) c
        omega
theorem dpc_cg {f g : Int → Int} (n : Nat) (h : ∀ j : Int, 0 ≤ j → j < n → f j = g j) : dpc f n = dpc g n := by
  induction n with
  | zero => rfl
  | succ n ih =>
    unfold dpc
    rw [ih (fun j a b => h j a (by omega)), h n (by omega) (by omega)]
theorem WFC.cg {f g : Int → Int} {n : Int} (w : WFC g n) (h : ∀ j : Int, 0 ≤ j → j < n → f j = g j) : WFC f n := by
  intro j hj
  have hd := dpc_cg j (f := f) (g := g) (fun i a b => h i a (by omega))
  rw [hd, h j (by omega) hj]
  exact w j hj
theorem sX12_laysCode_L7 {k1 : Nat} {p2 : Int} {Q : Mem → Prop} {b : Int} {M0 : Mem} (hp : 0 ≤ p2 ∧ p2 ≤ 80) (hk : k1 ≠ 11) (hQ : ∀ M' : Mem, IB b M' → M' 1 24 = p2 → (∀ j, 0 ≤ j → j < p2 → M' 11 j = M0 k1 j) → FrJ (fun k j => k = 11 ∨ k = 1 ∧ j = 24) M0 M' → Q M') : ∀ (n : Nat) (v3 : Int) (M : Mem), IB b M → M 1 24 = p2 → (∀ j, 0 ≤ j → j < v3 → M 11 j = M0 k1 j) → (∀ j, M k1 j = M0 k1 j) → FrJ (fun k j => k = 11 ∨ k = 1 ∧ j = 24) M0 M → (0 ≤ v3 ∧ v3 ≤ p2) → p2 - v3 < (n : Int) → qX12_laysCode_L7 k1 p2 Q n v3 M := by
  intro n
  induction n with
  | zero => intro v3 M hI h24 h1 h2 hF hv hm; exact absurd hm (by omega)
  | succ n ih =>
    intro v3 M hI h24 h1 h2 hF hv hm
    rw [qX12_laysCode_L7]
    refine ⟨(by omega), ⟨fun c => hQ _ hI h24 (fun j a q => h1 j a (by omega)) hF, fun c => ⟨by omega, by omega, ?_⟩⟩⟩
    intro x6 e6 _ M7 h7
    refine ih _ _ (by rw [h7]; exact hI.up (by simp [BM])) (by rw [h7, up2_n (by decide)]; exact h24) ?_ (fun j => by rw [h7, up2_n hk]; exact h2 j) (by rw [h7]; exact hF.up (Or.inl rfl)) (by omega) (by omega)
    intro j a q
    rw [h7]
    by_cases cj : j = v3
    · rw [cj, up2_s, e6, h2]
    · rw [up2_j cj]; exact h1 j a (by omega)
theorem sX12_laysCode {k1 : Nat} {p2 : Int} {b : Int} {M : Mem} {Q : Mem → Prop} (hI : IM b M) (hp : 0 ≤ p2 ∧ p2 ≤ 80) (hk : k1 ≠ 11 ∧ k1 ≠ 1) (hw : WFC (M k1) p2) (hQ : ∀ M' : Mem, IM b M' → FrJ (fun k j => k = 11 ∨ k = 1 ∧ j = 24) M M' → Q M') : qX12_laysCode k1 p2 M Q := by
  unfold qX12_laysCode
  intro M1 h1
  refine ⟨81, sX12_laysCode_L7 (b := b) (M0 := M) hp hk.1 ?_ _ _ _ (by rw [h1]; exact hI.1.up (bm_c1_24.mpr hp)) (by rw [h1, up2_s]) (fun j a q => by omega) (fun j => by rw [h1, up2_n hk.2]) (by rw [h1]; exact FrJ.rf.up (Or.inr ⟨rfl, rfl⟩)) (by omega) (by omega)⟩
  intro M' h' h24 hj hF
  refine hQ _ ⟨h', ?_⟩ hF
  rw [h24]
  exact hw.cg hj
theorem WFC.add {f g : Int → Int} {n v : Int} (w : WFC f n) (hn : 0 ≤ n) (hv : (v = 3000 → 1 ≤ dpc f n.toNat) ∧ (2000 ≤ v → v ≠ 3000 → 2 ≤ dpc f n.toNat) ∧ (1000 ≤ v → v < 2000 → v < 1007)) (hg : ∀ j, 0 ≤ j → j < n → g j = f j) (hgn : g n = v) : WFC g (n + 1) ∧ dpc g (n + 1).toNat = dpc f n.toNat + (if v = 3000 then 0 else if v < 2000 then 1 else -1) := by
  have hd : dpc g n.toNat = dpc f n.toNat := dpc_cg _ (fun j a b => hg j a (by omega))
  refine ⟨?_, ?_⟩
  · intro j hj
    by_cases c : (j : Int) < n
    · exact (w.cg hg) j c
    · have ej : j = n.toNat := by omega
      have ec : ((n.toNat : Nat) : Int) = n := by omega
      rw [ej, ec, hgn, hd]
      exact hv
  · rw [show (n + 1).toNat = n.toNat + 1 from by omega]
    show dpc g n.toNat + (if g (n.toNat : Nat) = 3000 then 0 else if g (n.toNat : Nat) < 2000 then 1 else -1) = _
    rw [show ((n.toNat : Nat) : Int) = n from by omega, hgn, hd]
theorem sX12_codes {p1 : Int} {b : Int} {M : Mem} {Q : Mem → Prop} (hI : IM b M) (hp : M 1 25 ≤ 79) (hQ : ∀ M' : Mem, IM b M' → M' 1 25 = M 1 25 + 1 → M' 1 15 = M 1 15 → M' 1 17 = M 1 17 → (∀ j, j ≠ M 1 25 → M' 12 j = M 12 j) → M' 12 (M 1 25) = p1 → Q M') : qX12_codes p1 M Q := by
  unfold qX12_codes
  intro x1 e1 _
  have b1 : 0 ≤ x1 ∧ x1 ≤ 80 := by rw [e1]; exact bm_c1_25.mp (hI.bx _ _)
  refine ⟨by omega, by omega, ?_⟩
  intro M4 h4 x5 e5 _
  have f5 : x5 = x1 := by rw [e5, h4, up2_n (by decide), e1]
  refine ⟨(by omega), ?_⟩
  intro M7 h7
  have i4 : IM b M4 := by rw [h4]; exact hI.up (by omega) (by simp [BM])
  refine hQ _ (by rw [h7]; exact i4.up (by omega) (bm_c1_25.mpr (by omega))) (by rw [h7, up2_s, f5, e1]) (by rw [h7, up2_j (by decide), h4, up2_n (by decide)]) (by rw [h7, up2_j (by decide), h4, up2_n (by decide)]) ?_ ?_
  · intro j hj
    rw [h7, up2_n (by decide), h4, up2_j (by rw [e1]; exact hj)]
  · rw [h7, up2_n (by decide), h4, ← e1, up2_s]
/-- what is asked of the code that is being read -/
def RQ (b : Int) (M : Mem) : Prop := IM b M ∧ WFC (M 12) (M 1 25) ∧ M 1 25 ≤ M 1 15 ∧ 0 ≤ M 1 17 ∧ M 1 17 ≤ 4
/-- what stands behind a piece that was read -/
def RP (b : Int) (M M' : Mem) (z : Int) : Prop := IM b M' ∧ M 1 15 ≤ M' 1 15 ∧ M' 1 25 - M 1 25 ≤ M' 1 15 - M 1 15 ∧ (z = 1 → M' 1 17 = M 1 17 ∧ WFC (M' 12) (M' 1 25) ∧ dpc (M' 12) (M' 1 25).toNat = dpc (M 12) (M 1 25).toNat + 1)
theorem sX12_reads : ∀ (d t : Nat) (p1 b : Int) (M : Mem) (Q : Int → Mem → Prop), RQ b M → (0 ≤ p1 ∧ p1 ≤ 3) → (80 - M 1 15) + 6 * (4 - M 1 17) + 1 + (if t = 0 then 0 else 4 - p1) ≤ (d : Int) → (∀ (z : Int) (M' : Mem), (z = 0 ∨ z = 1) → RP b M M' z → iR z → Q z M') → qX12_reads d t p1 M Q := by
  intro d
  induction d with
  | zero =>
    intro t p1 b M Q hR hp hm hQ
    exfalso
    have b15 := bm_c1_15.mp (hR.1.bx 1 15)
    have h4 := hR.2.2.2.2
    split at hm <;> omega
  | succ d ih =>
    intro t p1 b M Q hR hp hm hQ
    obtain ⟨hI, hW, hc, hn0, hn4⟩ := hR
    have b15 := bm_c1_15.mp (hI.bx 1 15)
    have b25 := bm_c1_25.mp (hI.bx 1 25)
    have d0 := dpc_nn hW (M 1 25).toNat (by omega)
    have r0 : ∀ z : Int, (z = 0 ∨ z = 1) → iR z := fun z h => (by omega)
    cases t with
    | zero =>
      rw [if_pos rfl] at hm
      show bX12_readsThing (qX12_reads d) M Q
      unfold bX12_readsThing
      refine sX12_takes (p1 := 45) hI ?_
      intro x1 M1 h1 g1 p1' _ q1
      have c1 : M1 1 25 = M 1 25 := g1 1 25 (by omega)
      have n1 : M1 1 17 = M 1 17 := g1 1 17 (by omega)
      have w1 : M1 12 = M 12 := funext fun j => g1 12 j (by omega)
      refine ⟨fun k1 => ?_, fun k1 => ?_⟩
      · refine sX12_isDigit h1 ?_
        intro x3 p3 _ _
        refine ⟨fun k3 => ?_, fun k3 => ?_⟩
        · refine sX12_takesOf h1 (by decide) ?_
          intro x5 M5 h5 g5 p5 _
          have c5 : M5 1 25 = M1 1 25 := g5 1 25 (by omega)
          have n5 : M5 1 17 = M1 1 17 := g5 1 17 (by omega)
          have w5 : M5 12 = M1 12 := funext fun j => g5 12 j (by omega)
          refine ⟨fun k5 => ?_, fun k5 => ?_⟩
          · intro x7 e7 _
            refine ⟨fun k7 => hQ _ _ (Or.inl rfl) ⟨h5, by omega, by omega, fun q => absurd q (by decide)⟩ (by decide), fun k7 => ?_⟩
            refine sX12_takes (p1 := 40) h5 ?_
            intro x9 M9 h9 g9 p9 _ q9
            have c9 : M9 1 25 = M5 1 25 := g9 1 25 (by omega)
            have n9 : M9 1 17 = M5 1 17 := g9 1 17 (by omega)
            have w9 : M9 12 = M5 12 := funext fun j => g9 12 j (by omega)
            refine ⟨fun k9 => ?_, fun k9 => hQ _ _ (Or.inl rfl) ⟨h9, by omega, by omega, fun q => absurd q (by decide)⟩ (by decide)⟩
            have p9' := p9.2 (by omega)
            intro x11 e11 _
            refine ⟨(by omega), ?_⟩
            intro M13 h13
            have i13 : IM b M13 := by rw [h13]; exact h9.up (by omega) (by simp [BM])
            have c13 : M13 1 25 = M9 1 25 := by rw [h13, up2_j (by decide)]
            have a13 : M13 1 15 = M9 1 15 := by rw [h13, up2_j (by decide)]
            have n13 : M13 1 17 = M9 1 17 + 1 := by rw [h13, up2_s, e11]
            have w13 : M13 12 = M9 12 := by rw [h13, up2_n (by decide)]
            have e13 : M13 12 = M 12 := by rw [w13, w9, w5, w1]
            have e25 : M13 1 25 = M 1 25 := by omega
            refine ih 1 0 b M13 _ ⟨i13, by rw [e13, e25]; exact hW, by omega, by omega, by omega⟩ (by omega) (by rw [if_neg (by decide)]; omega) ?_
            intro x14 M14 z14 r14 _ _ q14
            refine ⟨fun k14 => hQ _ _ (Or.inl rfl) ⟨r14.1, by have := r14.2.1; omega, by have := r14.2.2.1; omega, fun q => absurd q (by decide)⟩ (by decide), fun k14 => ?_⟩
            obtain ⟨i14, a14, s14, t14⟩ := r14
            obtain ⟨n14, w14, d14⟩ := t14 (by omega)
            refine sX12_takes (p1 := 41) i14 ?_
            intro x16 M16 h16 g16 p16 _ q16
            have c16 : M16 1 25 = M14 1 25 := g16 1 25 (by omega)
            have n16 : M16 1 17 = M14 1 17 := g16 1 17 (by omega)
            have w16 : M16 12 = M14 12 := funext fun j => g16 12 j (by omega)
            refine ⟨fun k16 => ?_, fun k16 => hQ _ _ (Or.inl rfl) ⟨h16, by omega, by omega, fun q => absurd q (by decide)⟩ (by decide)⟩
            intro x18 e18 _
            refine ⟨(by omega), ?_⟩
            intro M20 h20
            have a20 : M20 1 15 = M16 1 15 := by rw [h20, up2_j (by decide)]
            have c20 : M20 1 25 = M16 1 25 := by rw [h20, up2_j (by decide)]
            have n20 : M20 1 17 = x18 - 1 := by rw [h20, up2_s]
            have w20 : M20 12 = M14 12 := by rw [h20, up2_n (by decide), w16]
            refine hQ _ _ (Or.inr rfl) ⟨by rw [h20]; exact h16.up (by omega) (by simp [BM]), by omega, by omega, fun _ => ⟨by omega, ?_, ?_⟩⟩ (by decide)
            · rw [w20, c20, c16]; exact w14
            · rw [w20, c20, c16, d14, e13, e25]
          · refine ⟨(by omega), ?_⟩
            have p5' := p5.2.2.2.2 (by omega)
            have bb5 := bm_c1_15.mp (h5.bx 1 15)
            refine sX12_codes h5 (by omega) ?_
            intro M22 h22 c22 a22 n22 j22 v22
            have e5 : M5 12 = M 12 := by rw [w5, w1]
            have e25 : M5 1 25 = M 1 25 := by omega
            have A := hW.add (g := M22 12) (v := 1000 + x5) b25.1 ⟨by omega, by omega, by omega⟩ (fun j a q => by rw [j22 j (by omega), e5]) (by rw [← e25]; exact v22)
            rw [if_neg (by omega), if_pos (by omega)] at A
            have e22 : M22 1 25 = M 1 25 + 1 := by omega
            exact hQ _ _ (Or.inr rfl) ⟨h22, by omega, by omega, fun _ => ⟨by omega, by rw [e22]; exact A.1, by rw [e22]; exact A.2⟩⟩ (by decide)
        · refine sX12_number (p1 := 3) h1 (by omega) ?_
          intro x23 M23 h23 g23 p23 _
          have c23 : M23 1 25 = M1 1 25 := g23 1 25 (by omega)
          have n23 : M23 1 17 = M1 1 17 := g23 1 17 (by omega)
          have w23 : M23 12 = M1 12 := funext fun j => g23 12 j (by omega)
          have dg := p3.1 (by omega)
          have z23 := p23.2.2.2.2.2.2 ⟨dg.1, dg.2.2.1, dg.2.2.2⟩
          have a23 := p23.2.2.2.2.2.1 z23
          have bb23 := bm_c1_15.mp (h23.bx 1 15)
          refine sX12_codes h23 (by omega) ?_
          intro M24 h24 c24 a24 n24 j24 v24
          have e25 : M23 1 25 = M 1 25 := by omega
          have A := hW.add (g := M24 12) (v := x23) b25.1 ⟨by omega, by omega, by omega⟩ (fun j a q => by rw [j24 j (by omega), w23, w1]) (by rw [← e25]; exact v24)
          rw [if_neg (by omega), if_pos (by omega)] at A
          have e24 : M24 1 25 = M 1 25 + 1 := by omega
          exact hQ _ _ (Or.inr rfl) ⟨h24, by omega, by omega, fun _ => ⟨by omega, by rw [e24]; exact A.1, by rw [e24]; exact A.2⟩⟩ (by decide)
      · have p1'' := p1'.2 (by omega)
        have e1 : M1 1 25 = M 1 25 := c1
        refine ih 0 0 b M1 _ ⟨h1, by rw [w1, e1]; exact hW, by omega, by omega, by omega⟩ (by omega) (by rw [if_pos rfl]; omega) ?_
        intro x25 M25 z25 r25 _ _ q25
        obtain ⟨i25, a25, s25, t25⟩ := r25
        refine sX12_codes i25 (by have := bm_c1_15.mp (i25.bx 1 15); omega) ?_
        intro M26 h26 c26 a26 n26 j26 v26
        refine ⟨q25, hQ _ _ q25 ⟨h26, by omega, by omega, fun q => ?_⟩ (r0 _ q25)⟩
        obtain ⟨n25, w25, d25⟩ := t25 q
        have bb := bm_c1_25.mp (i25.bx 1 25)
        rw [w1, e1] at d25
        have A := w25.add (g := M26 12) (v := 3000) bb.1 ⟨by omega, by omega, by omega⟩ (fun j a q => j26 j (by omega)) v26
        rw [if_pos rfl] at A
        rw [c26]
        exact ⟨by omega, A.1, by rw [A.2, d25]; omega⟩
    | succ t =>
      rw [if_neg (by omega)] at hm
      show bX12_readsRank (qX12_reads d) p1 M Q
      unfold bX12_readsRank
      refine ⟨fun k1 => ⟨(by omega), ?_⟩, fun k1 => ?_⟩
      · refine ih 1 (p1 + 1) b M _ ⟨hI, hW, hc, hn0, hn4⟩ (by omega) (by rw [if_neg (by decide)]; omega) ?_
        intro x3 M3 z3 r3 _ _ q3
        refine ⟨fun k3 => ?_, fun k3 => hQ _ _ (Or.inl rfl) ⟨r3.1, r3.2.1, r3.2.2.1, fun q => absurd q (by decide)⟩ (by decide)⟩
        rw [show x3 = 1 from by omega] at r3
        have loop : ∀ (n : Nat) (v2 : Int) (M4 : Mem), (v2 = 0 ∨ v2 = 1) → RP b M M4 1 → 2 * (80 - M4 1 15) + v2 < (n : Int) → qX12_readsRank_L24 (qX12_reads d) p1 Q n v2 M4 := by
          intro n
          induction n with
          | zero => intro v2 M4 hv hr hm2; exact absurd hm2 (by have := bm_c1_15.mp (hr.1.bx 1 15); omega)
          | succ n ihn =>
            intro v2 M4 hv hr hm2
            have hr0 := hr
            obtain ⟨i4, a4, s4, t4⟩ := hr
            obtain ⟨n4, w4, d4⟩ := t4 rfl
            have bb4 := bm_c1_15.mp (i4.bx 1 15)
            rw [qX12_readsRank_L24]
            refine ⟨r0 _ hv, ⟨fun k4 => hQ _ _ (Or.inr rfl) hr0 (by decide), fun k4 => ?_⟩⟩
            have J : ∀ (t0 : Nat), t0 < 9 → ((bS t0).length : Int) ≤ 3 → qX12_readsRank_J50 (qX12_reads d) p1 (qX12_readsRank_L24 (qX12_reads d) p1 Q n) Q t0 M4 := by
              intro t0 ht hl
              unfold qX12_readsRank_J50
              refine ⟨ht, ?_⟩
              refine sX12_takesOf i4 (by omega) ?_
              intro x9 M9 h9 g9 p9 _
              have c9 : M9 1 25 = M4 1 25 := g9 1 25 (by omega)
              have n9 : M9 1 17 = M4 1 17 := g9 1 17 (by omega)
              have w9 : M9 12 = M4 12 := funext fun j => g9 12 j (by omega)
              refine ⟨fun k9 => ⟨(by omega), ?_⟩, fun k9 => hQ _ _ (Or.inr rfl) ⟨h9, by omega, by omega, fun _ => ⟨by omega, by rw [w9, c9]; exact w4, by rw [w9, c9]; exact d4⟩⟩ (by decide)⟩
              have p9' := p9.2.2.2.2 k9
              refine ih 1 (p1 + 1) b M9 _ ⟨h9, by rw [w9, c9]; exact w4, by omega, by omega, by omega⟩ (by omega) (by rw [if_neg (by decide)]; omega) ?_
              intro x13 M13 z13 r13 _ _ q13
              obtain ⟨i13, a13, s13, t13⟩ := r13
              refine ⟨fun k13 => ?_, fun k13 => hQ _ _ (Or.inl rfl) ⟨i13, by omega, by omega, fun q => absurd q (by decide)⟩ (by decide)⟩
              obtain ⟨n13, w13, d13⟩ := t13 (by omega)
              rw [w9, c9] at d13
              have J96 : ∀ t1 : Int, (0 ≤ t1 ∧ t1 ≤ 5) → qX12_readsRank_J96 (qX12_reads d) p1 (qX12_readsRank_L24 (qX12_reads d) p1 Q n) Q t1 (2000 + x9) M13 := by
                intro t1 ht1
                unfold qX12_readsRank_J96
                refine ⟨(by omega), ?_⟩
                refine sX12_codes i13 (by have := bm_c1_15.mp (i13.bx 1 15); omega) ?_
                intro M18 h18 c18 a18 n18 j18 v18
                have bb := bm_c1_25.mp (i13.bx 1 25)
                have bb9 := bm_c1_15.mp (h9.bx 1 15)
                have A := w13.add (g := M18 12) (v := 2000 + x9 + t1) bb.1 ⟨by omega, by omega, by omega⟩ (fun j a q => j18 j (by omega)) v18
                rw [if_neg (by omega), if_neg (by omega)] at A
                have hr18 : RP b M M18 1 := ⟨h18, by omega, by omega, fun _ => ⟨by omega, by rw [c18]; exact A.1, by rw [c18, A.2, d13, d4]; omega⟩⟩
                refine ⟨fun _ => ihn _ _ (Or.inl rfl) hr18 (by omega), fun _ => ihn _ _ (Or.inr rfl) hr18 (by omega)⟩
              refine ⟨fun _ => ⟨fun _ => J96 _ (by omega), fun _ => J96 _ (by omega)⟩, fun _ => J96 _ (by omega)⟩
            refine ⟨fun _ => ⟨fun _ => J 7 (by decide) (by decide), fun _ => J 6 (by decide) (by decide)⟩, fun _ => J 5 (by decide) (by decide)⟩
        exact ⟨162, loop _ _ _ (Or.inr rfl) r3 (by have := bm_c1_15.mp (r3.1.bx 1 15); omega)⟩
      · refine ih 0 0 b M _ ⟨hI, hW, hc, hn0, hn4⟩ (by omega) (by rw [if_pos rfl]; omega) ?_
        intro x21 M21 z21 r21 _ _ q21
        exact ⟨q21, hQ _ _ q21 r21 (r0 _ q21)⟩
theorem sX12_readsRule {b : Int} {M : Mem} {Q : Int → Mem → Prop} (hI : IM b M) (hQ : ∀ z : Int, ∀ M' : Mem, IM b M' → (-100 ≤ z ∧ z ≤ 0) → (z = 0 → WFC (M' 12) (M' 1 25)) → Q z M') : qX12_readsRule M Q := by
  unfold qX12_readsRule
  refine sX12_begins (p1 := 40) hI (by omega) ?_
  intro x1 M1 h1 g1 p1 _ M2 h2
  have i2 : IM b M2 := by rw [h2]; exact h1.up (by omega) (bm_c1_25.mpr (by decide))
  have c2 : M2 1 25 = 0 := by rw [h2, up2_s]
  have w2 : WFC (M2 12) (M2 1 25) := by rw [c2]; intro j hj; omega
  have a2 : M2 1 15 = 0 := by rw [h2, up2_j (by decide)]; exact p1.2.2.1
  have J29 : ∀ (t0 : Int) (M3 : Mem), IM b M3 → (t0 = 0 ∨ t0 = 1) → (t0 = 1 → WFC (M3 12) (M3 1 25)) → qX12_readsRule_J29 Q x1 t0 M3 := by
    intro t0 M3 i3 h0 w3
    unfold qX12_readsRule_J29
    refine ⟨(by omega), (by omega), ?_⟩
    refine sX12_faultOf (p1 := x1) (p2 := 40) (p3 := t0) i3 (by omega) ?_
    intro x6 p6 _
    exact hQ _ _ i3 ⟨p6.1, p6.2.1⟩ (fun q => w3 (by omega))
  refine ⟨fun k1 => ?_, fun k1 => ⟨140, by omega, ?_⟩⟩
  · unfold qX12_readsRule_J24
    exact J29 _ _ i2 (Or.inr rfl) (fun _ => w2)
  · have n2 : M2 1 17 = 0 := by
      rw [h2, up2_j (by decide)]
      exact p1.2.2.2.2.1
    show qX12_reads 140 1 0 M2 _
    refine sX12_reads 140 1 0 b M2 _ ⟨i2, w2, by omega, by omega, by omega⟩ (by omega) (by rw [if_neg (by decide)]; omega) ?_
    intro x7 M7 z7 r7 _ _ q7
    refine ⟨fun k7 => J29 _ _ r7.1 (Or.inl rfl) (fun q => absurd q (by decide)), fun k7 => ?_⟩
    unfold qX12_readsRule_J24
    exact J29 _ _ r7.1 (Or.inr rfl) (fun _ => (r7.2.2.2 (by omega)).2.1)
theorem sX12_rule {b : Int} {M : Mem} {Q : Int → Mem → Prop} (hI : IM b M) (hQ : ∀ z : Int, ∀ M' : Mem, IM b M' → Q z M') : qX12_rule M Q := by
  unfold qX12_rule
  intro M1 h1
  have i1 : IM b M1 := by rw [h1]; exact hI.up (by omega) (by simp [BM])
  refine sX12_readsRule i1 ?_
  intro x2 M2 h2 p2 w2 _
  refine ⟨fun c => hQ _ _ h2, fun c => ?_⟩
  intro x4 e4 _
  have b4 : 0 ≤ x4 ∧ x4 ≤ 80 := by rw [e4]; exact bm_c1_25.mp (h2.bx _ _)
  refine sX12_laysCode h2 b4 (by decide) (by rw [e4]; exact w2 c) ?_
  intro M5 h5 _
  exact hQ _ _ h5
theorem sX12_bitsBy_L6 {k1 : Nat} {p2 : Int} {p3 : Int}  {Q : Int → Mem → Prop} {b : Int} {M0 : Mem} (hk1 : isN k1) (hp : 0 ≤ p2 ∧ p2 ≤ 29) (hQ : ∀ z : Int, Q z M0) : ∀ (n : Nat) (v4 v5 : Int), IM (b) M0 → (0 ≤ v5 ∧ v5 ≤ 8) → iR v4 → 8 - v5 < (n : Int) → qX12_bitsBy_L6 k1 p2 p3 Q n v4 v5 M0 := by
  intro n
  induction n with
  | zero => intro v4 v5 hI hv hrv4 hm; exact absurd hm (by omega)
  | succ n ih =>
    intro v4 v5 hI hv hrv4 hm
    rw [qX12_bitsBy_L6]
    have hbn := hI.nn
    have ek1 : k1 = 5 ∨ k1 = 6 := hk1
    intro x1_568 ex1_568 rx1_568
    have bx1_568 : 0 ≤ x1_568 ∧ x1_568 ≤ 8 := by rw [ex1_568]; exact bm_c1_5.mp (hI.bx _ _)
    refine ⟨(by first | assumption | exact (by omega)), ?_⟩
    refine ⟨fun c => ?_, fun c => ?_⟩
    · refine ⟨(by first | assumption | exact (by omega)), ?_⟩
      exact hQ _
    · refine ⟨by omega, ?_⟩
      refine ⟨by omega, ?_⟩
      intro x7_571 ex7_571 rx7_571
      have rbx7_571 : -2147483648 ≤ x7_571 ∧ x7_571 ≤ 2147483647 := rx7_571
      have nbx7_571 : BN (b) (p2 + v5) x7_571 := by rw [ex7_571]; exact (bm_n hk1).mp (hI.bx _ _)
      first | (have bx7_571 : -1 ≤ x7_571 ∧ x7_571 ≤ 29 := nbx7_571.1 (by omega)) | (have bx7_571 : -1 ≤ x7_571 ∧ x7_571 ≤ 29 := nbx7_571.2.1 (by omega)) | skip
      refine ⟨fun c => ?_, fun c => ?_⟩
      · intro x9_573 ex9_573 rx9_573
        first | (have fx9_573 := oI_64 (a := v4) (b := 0) (by omega) (by omega); rw [← ex9_573] at fx9_573) | skip
        exact ih _ _ (hI.mono (by first | exact Int.le_refl _ | omega)) (by omega) (by first | assumption | exact (by omega)) (by omega)
      · intro x10_575 ex10_575 rx10_575
        first | (have fx10_575 := slI_1 (b := v5) (by omega); rw [← ex10_575] at fx10_575) | skip
        intro x11_576 ex11_576 rx11_576
        first | (have fx11_576 := oI_64 (a := v4) (b := x10_575) (by omega) (by omega); rw [← ex11_576] at fx11_576) | skip
        exact ih _ _ (hI.mono (by first | exact Int.le_refl _ | omega)) (by omega) (by first | assumption | exact (by omega)) (by omega)
theorem sX12_bitsBy {k1 : Nat} {p2 : Int} {p3 : Int} {b : Int} {M : Mem} {Q : Int → Mem → Prop} (hI : IM b M) (hk1 : isN k1) (hp : 0 ≤ p2 ∧ p2 ≤ 29) (hQ : ∀ z : Int, Q z M) : qX12_bitsBy k1 p2 p3 M Q := by
  unfold qX12_bitsBy
  have hbn := hI.nn
  have ek1 : k1 = 5 ∨ k1 = 6 := hk1
  refine ⟨9, ?_⟩
  refine sX12_bitsBy_L6 (b := b) (p2 := p2) (p3 := p3) (M0 := M) hk1 hp ?_ _ _ _ (hI.mono (by first | exact Int.le_refl _ | omega)) (by omega) (by first | assumption | exact (by omega)) (by omega)
  · exact hQ
theorem sX12_isHearse {p1 : Int} {b : Int} {M : Mem} {Q : Int → Mem → Prop} (hI : IM b M) (hQ : ∀ z : Int, (¬ z = 0 → 0 ≤ p1 ∧ p1 ≤ 5) → Q z M) : qX12_isHearse p1 M Q := by
  unfold qX12_isHearse
  have hbn := hI.nn
  intro x1_577 ex1_577 rx1_577
  have bx1_577 : 0 ≤ x1_577 ∧ x1_577 ≤ 6 := by rw [ex1_577]; exact bm_c1_4.mp (hI.bx _ _)
  refine ⟨(by first | assumption | exact (by omega)), ?_⟩
  refine sX12_in (p0 := p1) (p2 := 0) (p4 := x1_577 - 1) hI  ?_
  intro x3_578 p579 q580 q581
  refine ⟨by omega, ?_⟩
  exact hQ _ (by omega)
theorem sX12_owners_L4 {p1 : Int}  {Q : Int → Mem → Prop} {b : Int} {M0 : Mem} (hQ : ∀ z : Int, Q z M0) : ∀ (n : Nat) (v2 v3 : Int), IM (b) M0 → (0 ≤ v3 ∧ v3 ≤ 8) → iR v2 → 8 - v3 < (n : Int) → qX12_owners_L4 p1 Q n v2 v3 M0 := by
  intro n
  induction n with
  | zero => intro v2 v3 hI hv hrv2 hm; exact absurd hm (by omega)
  | succ n ih =>
    intro v2 v3 hI hv hrv2 hm
    rw [qX12_owners_L4]
    have hbn := hI.nn
    intro x1_582 ex1_582 rx1_582
    have bx1_582 : 0 ≤ x1_582 ∧ x1_582 ≤ 8 := by rw [ex1_582]; exact bm_c1_5.mp (hI.bx _ _)
    refine ⟨(by first | assumption | exact (by omega)), ?_⟩
    refine ⟨fun c => ?_, fun c => ?_⟩
    · refine ⟨(by first | assumption | exact (by omega)), ?_⟩
      exact hQ _
    · refine ⟨by omega, ?_⟩
      refine ⟨by omega, ?_⟩
      intro x7_585 ex7_585 rx7_585
      have bx7_585 : 0 ≤ x7_585 ∧ x7_585 ≤ 5 := by rw [ex7_585]; exact bm_c3.mp (hI.bx _ _)
      refine ⟨fun c => ?_, fun c => ?_⟩
      · intro x9_587 ex9_587 rx9_587
        first | (have fx9_587 := oI_64 (a := v2) (b := 0) (by omega) (by omega); rw [← ex9_587] at fx9_587) | skip
        exact ih _ _ (hI.mono (by first | exact Int.le_refl _ | omega)) (by omega) (by first | assumption | exact (by omega)) (by omega)
      · intro x10_589 ex10_589 rx10_589
        first | (have fx10_589 := slI_1 (b := v3) (by omega); rw [← ex10_589] at fx10_589) | skip
        intro x11_590 ex11_590 rx11_590
        first | (have fx11_590 := oI_64 (a := v2) (b := x10_589) (by omega) (by omega); rw [← ex11_590] at fx11_590) | skip
        exact ih _ _ (hI.mono (by first | exact Int.le_refl _ | omega)) (by omega) (by first | assumption | exact (by omega)) (by omega)
theorem sX12_owners {p1 : Int} {b : Int} {M : Mem} {Q : Int → Mem → Prop} (hI : IM b M) (hQ : ∀ z : Int, Q z M) : qX12_owners p1 M Q := by
  unfold qX12_owners
  have hbn := hI.nn
  refine ⟨9, ?_⟩
  refine sX12_owners_L4 (b := b) (p1 := p1) (M0 := M) ?_ _ _ _ (hI.mono (by first | exact Int.le_refl _ | omega)) (by omega) (by first | assumption | exact (by omega)) (by omega)
  · exact hQ
theorem sX12_freeAhead_L2 {k1 : Nat} {p2 : Int}  {Q : Int → Mem → Prop} {b : Int} {M0 : Mem} (hk1 : isN k1) (hp : 0 ≤ p2 ∧ p2 ≤ 29) (hQ : ∀ z : Int, (0 ≤ z ∧ z ≤ 30) → Q z M0) : ∀ (n : Nat) (v3 : Int), IM (b) M0 → (0 ≤ v3 ∧ v3 ≤ 30) → 30 - v3 < (n : Int) → qX12_freeAhead_L2 k1 p2 Q n v3 M0 := by
  intro n
  induction n with
  | zero => intro v3 hI hv hm; exact absurd hm (by omega)
  | succ n ih =>
    intro v3 hI hv hm
    rw [qX12_freeAhead_L2]
    have hbn := hI.nn
    have ek1 : k1 = 5 ∨ k1 = 6 := hk1
    refine sX12_gate  hI  ?_
    intro x1_591 p592 q593
    refine ⟨(by first | assumption | exact (by omega)), ?_⟩
    refine ⟨fun c => ?_, fun c => ?_⟩
    · refine ⟨(by first | assumption | exact (by omega)), ?_⟩
      exact hQ _ (by omega)
    · refine sX12_gate  hI  ?_
      intro x5_596 p597 q598
      refine ⟨(by first | assumption | exact (by omega)), ?_⟩
      refine ⟨fun c => ?_, fun c => ?_⟩
      · exact ih _ (hI.mono (by first | exact Int.le_refl _ | omega)) (by omega) (by omega)
      · refine sX12_onCell (p2 := p2 + v3 + 1) hI hk1 ?_
        intro x8_601 p602 q603
        refine ⟨fun c => ?_, fun c => ?_⟩
        · refine ⟨(by first | assumption | exact (by omega)), ?_⟩
          exact hQ _ (by omega)
        · exact ih _ (hI.mono (by first | exact Int.le_refl _ | omega)) (by omega) (by omega)
theorem sX12_freeAhead {k1 : Nat} {p2 : Int} {b : Int} {M : Mem} {Q : Int → Mem → Prop} (hI : IM b M) (hk1 : isN k1) (hp : 0 ≤ p2 ∧ p2 ≤ 29) (hQ : ∀ z : Int, (0 ≤ z ∧ z ≤ 30) → Q z M) : qX12_freeAhead k1 p2 M Q := by
  unfold qX12_freeAhead
  have hbn := hI.nn
  have ek1 : k1 = 5 ∨ k1 = 6 := hk1
  refine ⟨31, ?_⟩
  refine sX12_freeAhead_L2 (b := b) (p2 := p2) (M0 := M) hk1 hp ?_ _ _ (hI.mono (by first | exact Int.le_refl _ | omega)) (by omega) (by omega)
  · exact hQ
theorem sX12_isOn {k0 : Nat} {p1 : Int} {b : Int} {M : Mem} {Q : Int → Mem → Prop} (hI : IM b M) (hk0 : isN k0) (hp : 0 ≤ p1 ∧ p1 ≤ 37) (hQ : ∀ z : Int, ((z = 1 → 0 ≤ M k0 p1) ∧ (z = 0 → M k0 p1 < 0)) → Q z M) : qX12_isOn k0 p1 M Q := by
  unfold qX12_isOn
  have hbn := hI.nn
  have ek0 : k0 = 5 ∨ k0 = 6 := hk0
  refine ⟨by omega, ?_⟩
  refine ⟨by omega, ?_⟩
  intro x3_606 ex3_606 rx3_606
  have rbx3_606 : -2147483648 ≤ x3_606 ∧ x3_606 ≤ 2147483647 := rx3_606
  have nbx3_606 : BN (b) p1 x3_606 := by rw [ex3_606]; exact (bm_n hk0).mp (hI.bx _ _)
  first | (have bx3_606 : -1 ≤ x3_606 ∧ x3_606 ≤ 29 := nbx3_606.1 (by omega)) | (have bx3_606 : -1 ≤ x3_606 ∧ x3_606 ≤ 29 := nbx3_606.2.1 (by omega)) | skip
  refine ⟨fun c => ?_, fun c => ?_⟩
  · exact hQ _ (by omega)
  · exact hQ _ (by omega)
theorem sX12_worked {p0 : Int} {p1 : Int} {p2 : Int} {b : Int} {M : Mem} {Q : Int → Mem → Prop} (hI : IM b M) (hQ : ∀ z : Int, Q z M) : qX12_worked p0 p1 p2 M Q := by
  unfold qX12_worked
  have hbn := hI.nn
  refine ⟨fun c => ?_, fun c => ?_, fun c => ?_, fun c => ?_, fun c => ?_, fun c => ?_, fun c => ?_⟩
  · refine ⟨fun c => ?_, fun c => ?_⟩
    · unfold qX12_worked_J50
      refine ⟨(by first | assumption | exact (by omega)), ?_⟩
      refine sX12_flag (p0 := 0) hI  ?_
      intro x4_611 p612 q613
      exact hQ _
    · unfold qX12_worked_J50
      refine ⟨(by first | assumption | exact (by omega)), ?_⟩
      refine sX12_flag (p0 := 1) hI  ?_
      intro x4_615 p616 q617
      exact hQ _
  · refine ⟨fun c => ?_, fun c => ?_⟩
    · unfold qX12_worked_J64
      refine ⟨(by first | assumption | exact (by omega)), ?_⟩
      refine sX12_flag (p0 := 0) hI  ?_
      intro x7_620 p621 q622
      exact hQ _
    · unfold qX12_worked_J64
      refine ⟨(by first | assumption | exact (by omega)), ?_⟩
      refine sX12_flag (p0 := 1) hI  ?_
      intro x7_624 p625 q626
      exact hQ _
  · refine ⟨fun c => ?_, fun c => ?_⟩
    · unfold qX12_worked_J78
      refine ⟨(by first | assumption | exact (by omega)), ?_⟩
      refine sX12_flag (p0 := 0) hI  ?_
      intro x10_629 p630 q631
      exact hQ _
    · unfold qX12_worked_J78
      refine ⟨(by first | assumption | exact (by omega)), ?_⟩
      refine sX12_flag (p0 := 1) hI  ?_
      intro x10_633 p634 q635
      exact hQ _
  · intro x11_637 ex11_637 rx11_637
    first | (have fx11_637 : x11_637 = p1 + p2 := by rw [ex11_637]; exact w32_id (by omega)) | skip
    exact hQ _
  · intro x12_639 ex12_639 rx12_639
    first | (have fx12_639 : x12_639 = p1 - p2 := by rw [ex12_639]; exact w32_id (by omega)) | skip
    exact hQ _
  · intro x13_641 ex13_641 rx13_641
    first | (have fx13_641 : x13_641 = p1 * p2 := by rw [ex13_641]; exact w32_id (by omega)) | skip
    exact hQ _
  · refine ⟨fun c => ?_, fun c => ?_⟩
    · refine ⟨by omega, ?_⟩
      intro x16_644 ex16_644 rx16_644
      first | (have fx16_644 := dvI_b (a := p1) (b := p2) (by omega) (by omega); rw [← ex16_644] at fx16_644) | skip
      exact hQ _
    · exact hQ _
theorem sX12_ruled_L4 {X125 : Mem → Prop} {Q : Int → Mem → Prop} {b : Int} {M0 : Mem} (hX : ∀ M' : Mem, IM b M' → FrJ (fun k j => k = 13) M0 M' → X125 M') : ∀ (n : Nat) (v1 v2 : Int) (M : Mem), IM b M → FrJ (fun k j => k = 13) M0 M → (v1 = dpc (M 11) v2.toNat ∧ 0 ≤ v2 ∧ v2 ≤ 80) → 80 - v2 < (n : Int) → qX12_ruled_L4 X125 Q n v1 v2 M := by
  intro n
  induction n with
  | zero => intro v1 v2 M hI hF hv hm; exact absurd hm (by omega)
  | succ n ih =>
    intro v1 v2 M hI hF hv hm
    rw [qX12_ruled_L4]
    intro x1 e1 _
    have b1 : 0 ≤ x1 ∧ x1 ≤ 80 := by rw [e1]; exact bm_c1_24.mp (hI.bx _ _)
    refine ⟨(by omega), ⟨fun c => hX _ hI hF, fun c => ?_⟩⟩
    refine ⟨by omega, by omega, ?_⟩
    intro x6 e6 r6
    have hw := hI.2 v2.toNat (by omega)
    have hc : ((v2.toNat : Nat) : Int) = v2 := by omega
    have hn := dpc_nn hI.2 v2.toNat (by omega)
    have hl := dpc_le (M 11) v2.toNat
    rw [hc, ← e6] at hw
    have hs : dpc (M 11) (v2 + 1).toNat = dpc (M 11) v2.toNat + (if x6 = 3000 then 0 else if x6 < 2000 then 1 else -1) := by
      rw [show (v2 + 1).toNat = v2.toNat + 1 from by omega]
      show dpc (M 11) v2.toNat + (if M 11 (v2.toNat : Nat) = 3000 then 0 else if M 11 (v2.toNat : Nat) < 2000 then 1 else -1) = _
      rw [hc, ← e6]
    have key : ∀ (M' : Mem) (j v w : Int), M' = up2 M 13 j v → w = v1 + (if x6 = 3000 then 0 else if x6 < 2000 then 1 else -1) → qX12_ruled_L4 X125 Q n w (v2 + 1) M' := by
      intro M' j v w hM' hw'
      refine ih _ _ _ (by rw [hM']; exact hI.up (by omega) (by simp [BM])) (by rw [hM']; exact hF.up rfl) ⟨?_, by omega, by omega⟩ (by omega)
      rw [hM', up2_n (by decide), hs, ← hv.1]
      exact hw'
    refine ⟨fun c1 => ⟨fun c2 => ⟨fun c3 => ?_, fun c3 => ?_⟩, fun c2 => ?_⟩, fun c1 => ?_⟩
    · unfold qX12_ruled_J115
      refine ⟨by omega, by omega, r6, ?_⟩
      intro M13 h13
      exact key _ _ _ _ h13 (by rw [if_neg c1, if_pos c2])
    · intro x14 e14 _
      have f14 : x14 = x6 - 1000 := by rw [e14]; exact w32_id (by omega)
      have := hw.2.2 (by omega) (by omega)
      refine ⟨by omega, by omega, ?_⟩
      intro x17 e17 r17
      unfold qX12_ruled_J115
      refine ⟨by omega, by omega, r17, ?_⟩
      intro M13 h13
      exact key _ _ _ _ h13 (by rw [if_neg c1, if_pos c2])
    · have h2 := hw.2.1 (by omega) c1
      intro x18 e18 _ x19 e19 _ x20 e20 _
      have f18 : x18 = v1 + (-1) - 1 := by rw [e18]; exact w32_id (by omega)
      have f20 : x20 = v1 + (-1) - 1 := by rw [e20]; exact w32_id (by omega)
      refine ⟨by omega, by omega, ?_⟩
      intro x23 e23 _
      refine ⟨by omega, by omega, ?_⟩
      intro x26 e26 _
      refine sX12_worked (p0 := x19) (p1 := x23) (p2 := x26) hI ?_
      intro x27 _
      refine ⟨by omega, by omega, ?_⟩
      intro M30 h30
      exact key _ _ _ _ h30 (by rw [if_neg c1, if_neg c2])
    · have h1 := hw.1 c1
      intro x31 e31 _ x32 e32 _
      have f31 : x31 = v1 - 1 := by rw [e31]; exact w32_id (by omega)
      have f32 : x32 = v1 - 1 := by rw [e32]; exact w32_id (by omega)
      refine ⟨by omega, by omega, ?_⟩
      intro x35 e35 _ x36 e36 _
      refine ⟨by omega, by omega, ?_⟩
      intro M39 h39
      exact key _ _ _ _ h39 (by rw [if_pos c1]; omega)
theorem sX12_ruled {b : Int} {M : Mem} {Q : Int → Mem → Prop} (hI : IM b M) (hQ : ∀ z : Int, ∀ M' : Mem, IM b M' → FrJ (fun k j => k = 13) M M' → Q z M') : qX12_ruled M Q := by
  unfold qX12_ruled
  refine ⟨81, sX12_ruled_L4 (b := b) (M0 := M) ?_ _ _ _ _ hI FrJ.rf ⟨rfl, by omega, by omega⟩ (by omega)⟩
  intro M' h' hF x41 _ _
  refine ⟨fun c => fun x43 _ _ => hQ _ _ h' hF, fun c => ?_⟩
  intro x44 _ _
  refine ⟨fun c => ?_, fun c => ?_⟩ <;>
  · unfold qX12_ruled_J148
    refine ⟨by decide, ?_⟩
    refine sX12_flag h' ?_
    intro z _ _ x48 _ _
    exact hQ _ _ h' hF
theorem sX12_weatherOn {p1 : Int} {b : Int} {M : Mem} {Q : Int → Mem → Prop} (hI : IM b M) (hp : 0 ≤ p1 ∧ p1 ≤ 2147483647) (hQ : ∀ z : Int, Q z M) : qX12_weatherOn p1 M Q := by
  unfold qX12_weatherOn
  have hbn := hI.nn
  intro x1_646 ex1_646 rx1_646
  have bx1_646 : 1 ≤ x1_646 ∧ x1_646 ≤ 20 := by rw [ex1_646]; exact bm_c1_7.mp (hI.bx _ _)
  refine ⟨by omega, ?_⟩
  intro x3_647 ex3_647 rx3_647
  first | (have fx3_647 := rmI_b (a := p1) (b := x1_646) (by omega) (by omega); rw [← ex3_647] at fx3_647) | skip
  refine ⟨by omega, ?_⟩
  refine ⟨by omega, ?_⟩
  intro x6_648 ex6_648 rx6_648
  have bx6_648 : -2147483648 ≤ x6_648 ∧ x6_648 ≤ 2147483647 := rx6_648
  exact hQ _
theorem sX12_paceOf {k1 : Nat} {p2 : Int} {b : Int} {M : Mem} {Q : Int → Mem → Prop} (hI : IM b M) (hk1 : isN k1) (hp : 0 ≤ p2 ∧ p2 ≤ 5) (hQ : ∀ z : Int, ∀ M' : Mem, IM b M' → FrJ (fun k j => k = 14 ∨ k = 13) M M' → (0 ≤ z ∧ z ≤ 3) → Q z M') : qX12_paceOf k1 p2 M Q := by
  unfold qX12_paceOf
  have hbn := hI.nn
  have ek1 : k1 = 5 ∨ k1 = 6 := hk1
  refine sX12_isOn (p1 := p2) hI hk1 (by omega) ?_
  intro x1_649 p650 q651 q652
  refine ⟨fun c => ?_, fun c => ?_⟩
  · refine ⟨by omega, ?_⟩
    refine ⟨by omega, ?_⟩
    intro x5_654 ex5_654 rx5_654
    have rbx5_654 : -2147483648 ≤ x5_654 ∧ x5_654 ≤ 2147483647 := rx5_654
    have nbx5_654 : BN (b) p2 x5_654 := by rw [ex5_654]; exact (bm_n hk1).mp (hI.bx _ _)
    first | (have bx5_654 : -1 ≤ x5_654 ∧ x5_654 ≤ 29 := nbx5_654.1 (by omega)) | (have bx5_654 : -1 ≤ x5_654 ∧ x5_654 ≤ 29 := nbx5_654.2.1 (by omega)) | skip
    intro M6_655 h_M6_655
    have hM6_655 : IM (b) M6_655 := by rw [h_M6_655]; exact hI.up (by omega) (by simp [BM])
    have hFM6_655 : FrJ (fun k j => k = 14 ∨ k = 13) M M6_655 := by rw [h_M6_655]; exact (FrJ.rf).up (by omega)
    intro x7_656 ex7_656 rx7_656
    have rbx7_656 : -2147483648 ≤ x7_656 ∧ x7_656 ≤ 2147483647 := rx7_656
    have nbx7_656 : BN (b) p2 x7_656 := by rw [ex7_656]; exact (bm_n hk1).mp (hM6_655.bx _ _)
    first | (have bx7_656 : -1 ≤ x7_656 ∧ x7_656 ≤ 29 := nbx7_656.1 (by omega)) | (have bx7_656 : -1 ≤ x7_656 ∧ x7_656 ≤ 29 := nbx7_656.2.1 (by omega)) | skip
    have fx7_656 : x7_656 = M k1 p2 := by rw [ex7_656, h_M6_655, up2_n (by omega)]
    refine sX12_freeAhead (p2 := x7_656) hM6_655 hk1 (by omega) ?_
    intro x8_657 p658 q659
    intro M9_660 h_M9_660
    have hM9_660 : IM (b) M9_660 := by rw [h_M9_660]; exact hM6_655.up (by omega) (by simp [BM])
    have hFM9_660 : FrJ (fun k j => k = 14 ∨ k = 13) M M9_660 := by rw [h_M9_660]; exact (hFM6_655).up (by omega)
    intro x10_661 ex10_661 rx10_661
    have rbx10_661 : -2147483648 ≤ x10_661 ∧ x10_661 ≤ 2147483647 := rx10_661
    have nbx10_661 : BN (b) p2 x10_661 := by rw [ex10_661]; exact (bm_n hk1).mp (hM9_660.bx _ _)
    first | (have bx10_661 : -1 ≤ x10_661 ∧ x10_661 ≤ 29 := nbx10_661.1 (by omega)) | (have bx10_661 : -1 ≤ x10_661 ∧ x10_661 ≤ 29 := nbx10_661.2.1 (by omega)) | skip
    have fx10_661 : x10_661 = M k1 p2 := by rw [ex10_661, h_M9_660, up2_n (by omega), h_M6_655, up2_n (by omega)]
    refine ⟨by omega, ?_⟩
    refine ⟨by omega, ?_⟩
    intro x13_662 ex13_662 rx13_662
    have bx13_662 : -2147483648 ≤ x13_662 ∧ x13_662 ≤ 2147483647 := rx13_662
    have fx13_662 : x13_662 = M 2 x10_661 := by rw [ex13_662, h_M9_660, up2_n (by decide), h_M6_655, up2_n (by decide)]
    have cgx13_662 : x13_662 = M9_660 2 (M9_660 k1 p2) := by rw [ex13_662, ← ex10_661]
    refine sX12_flag (p0 := x13_662) hM9_660  ?_
    intro x14_663 p664 q665
    intro M15_666 h_M15_666
    have hM15_666 : IM (b) M15_666 := by rw [h_M15_666]; exact hM9_660.up (by omega) (by simp [BM])
    have hFM15_666 : FrJ (fun k j => k = 14 ∨ k = 13) M M15_666 := by rw [h_M15_666]; exact (hFM9_660).up (by omega)
    intro x16_667 ex16_667 rx16_667
    have rbx16_667 : -2147483648 ≤ x16_667 ∧ x16_667 ≤ 2147483647 := rx16_667
    first | (have bx16_667 : 0 ≤ x16_667 ∧ x16_667 ≤ (b) := by rw [ex16_667]; exact ((bm_n hk1).mp (hM15_666.bx _ _)).2.2.2 (by omega)) | skip
    have fx16_667 : x16_667 = M k1 37 := by rw [ex16_667, h_M15_666, up2_n (by omega), h_M9_660, up2_n (by omega), h_M6_655, up2_n (by omega)]
    refine sX12_weatherOn (p1 := x16_667) hM15_666 (by omega) ?_
    intro x17_668 q669
    intro M18_670 h_M18_670
    have hM18_670 : IM (b) M18_670 := by rw [h_M18_670]; exact hM15_666.up (by omega) (by simp [BM])
    have hFM18_670 : FrJ (fun k j => k = 14 ∨ k = 13) M M18_670 := by rw [h_M18_670]; exact (hFM15_666).up (by omega)
    intro x19_671 ex19_671 rx19_671
    have rbx19_671 : -2147483648 ≤ x19_671 ∧ x19_671 ≤ 2147483647 := rx19_671
    first | (have bx19_671 : 0 ≤ x19_671 ∧ x19_671 ≤ (b) := by rw [ex19_671]; exact ((bm_n hk1).mp (hM18_670.bx _ _)).2.2.2 (by omega)) | skip
    have fx19_671 : x19_671 = M k1 37 := by rw [ex19_671, h_M18_670, up2_n (by omega), h_M15_666, up2_n (by omega), h_M9_660, up2_n (by omega), h_M6_655, up2_n (by omega)]
    intro x20_672 ex20_672 rx20_672
    first | (have fx20_672 := rmI_b (a := x19_671) (b := 10) (by omega) (by omega); rw [← ex20_672] at fx20_672) | skip
    intro M21_673 h_M21_673
    have hM21_673 : IM (b) M21_673 := by rw [h_M21_673]; exact hM18_670.up (by omega) (by simp [BM])
    have hFM21_673 : FrJ (fun k j => k = 14 ∨ k = 13) M M21_673 := by rw [h_M21_673]; exact (hFM18_670).up (by omega)
    intro M22_674 h_M22_674
    have hM22_674 : IM (b) M22_674 := by rw [h_M22_674]; exact hM21_673.up (by omega) (by simp [BM])
    have hFM22_674 : FrJ (fun k j => k = 14 ∨ k = 13) M M22_674 := by rw [h_M22_674]; exact (hFM21_673).up (by omega)
    refine sX12_bitsBy (p2 := 21) (p3 := p2) hM22_674 hk1 (by omega) ?_
    intro x23_675 q676
    refine sJ6_bitCountM (p0 := x23_675) hM22_674  ?_
    intro x24_677 p678 q679
    intro M25_680 h_M25_680
    have hM25_680 : IM (b) M25_680 := by rw [h_M25_680]; exact hM22_674.up (by omega) (by simp [BM])
    have hFM25_680 : FrJ (fun k j => k = 14 ∨ k = 13) M M25_680 := by rw [h_M25_680]; exact (hFM22_674).up (by omega)
    refine sX12_ruled  hM25_680  ?_
    intro x26_681 M26_682 hM26_682 gM26_682 q683
    have hFM26_682 : FrJ (fun k j => k = 14 ∨ k = 13) M M26_682 := (hFM25_680).tr (gM26_682.mono (by intro k j h; omega))
    intro x27_684 ex27_684 rx27_684
    intro x28_685 ex28_685 rx28_685
    exact hQ _ _ (hM26_682.mono (by first | exact Int.le_refl _ | omega)) hFM26_682 (by omega)
  · exact hQ _ _ (hI.mono (by first | exact Int.le_refl _ | omega)) FrJ.rf (by omega)
theorem sX12_refuse  {b : Int} {M : Mem} {Q : Int → Mem → Prop} (hI : IM b M) (hQ : ∀ z : Int, ∀ M' : Mem, IM b M' → Q z M') : qX12_refuse M Q := by
  unfold qX12_refuse
  have hbn := hI.nn
  intro M1_687 h_M1_687
  have hM1_687 : IM (b) M1_687 := by rw [h_M1_687]; exact hI.up (by omega) (by simp [BM])
  exact hQ _ _ (hM1_687.mono (by first | exact Int.le_refl _ | omega))
theorem sX12_hearse {p1 : Int} {p2 : Int} {b : Int} {M : Mem} {Q : Int → Mem → Prop} (hI : IM b M) (hQ : ∀ z : Int, ∀ M' : Mem, IM b M' → Q z M') : qX12_hearse p1 p2 M Q := by
  unfold qX12_hearse
  have hbn := hI.nn
  intro M1_688 h_M1_688
  have hM1_688 : IM (b) M1_688 := by rw [h_M1_688]; exact hI.up (by omega) (by simp [BM])
  refine sX12_isHearse (p1 := p1) hM1_688  ?_
  intro x2_689 p690 q691 q692
  refine ⟨fun c => ?_, fun c => ?_⟩
  · unfold qX12_hearse_J25
    refine sX12_refuse  hM1_688  ?_
    intro x4_694 M4_695 hM4_695 q696
    exact hQ _ _ (hM4_695.mono (by first | exact Int.le_refl _ | omega))
  · refine sX12_in (p0 := p2) (p2 := 0) (p4 := 5) hM1_688  ?_
    intro x5_698 p699 q700 q701
    refine ⟨fun c => ?_, fun c => ?_⟩
    · refine ⟨fun c => ?_, fun c => ?_, fun c => ?_, fun c => ?_, fun c => ?_, fun c => ?_⟩
      · refine ⟨by omega, ?_⟩
        refine ⟨by omega, ?_⟩
        intro x10_704 ex10_704 rx10_704
        have rbx10_704 : -2147483648 ≤ x10_704 ∧ x10_704 ≤ 2147483647 := rx10_704
        have nbx10_704 : BN (b) p1 x10_704 := by rw [ex10_704]; exact (bm_n (Or.inl rfl)).mp (hM1_688.bx _ _)
        first | (have bx10_704 : -1 ≤ x10_704 ∧ x10_704 ≤ 29 := nbx10_704.1 (by omega)) | (have bx10_704 : -1 ≤ x10_704 ∧ x10_704 ≤ 29 := nbx10_704.2.1 (by omega)) | skip
        have fx10_704 : x10_704 = M 5 p1 := by rw [ex10_704, h_M1_688, up2_n (by decide)]
        exact hQ _ _ (hM1_688.mono (by first | exact Int.le_refl _ | omega))
      · refine ⟨by omega, ?_⟩
        refine ⟨by omega, ?_⟩
        intro x13_706 ex13_706 rx13_706
        have bx13_706 : -2147483648 ≤ x13_706 ∧ x13_706 ≤ 2147483647 := rx13_706
        have fx13_706 : x13_706 = M 5 (6 + p1) := by rw [ex13_706, h_M1_688, up2_n (by decide)]
        exact hQ _ _ (hM1_688.mono (by first | exact Int.le_refl _ | omega))
      · refine sX12_paceOf (p2 := p1) hM1_688 (Or.inl rfl) (by omega) ?_
        intro x14_708 M14_709 hM14_709 gM14_709 p710 q711
        exact hQ _ _ (hM14_709.mono (by first | exact Int.le_refl _ | omega))
      · refine sX12_bitsBy (p2 := 21) (p3 := p1) hM1_688 (Or.inl rfl) (by omega) ?_
        intro x15_713 q714
        exact hQ _ _ (hM1_688.mono (by first | exact Int.le_refl _ | omega))
      · refine sX12_bitsBy (p2 := 29) (p3 := p1) hM1_688 (Or.inl rfl) (by omega) ?_
        intro x16_716 q717
        exact hQ _ _ (hM1_688.mono (by first | exact Int.le_refl _ | omega))
      · refine sX12_owners (p1 := p1) hM1_688  ?_
        intro x17_719 q720
        exact hQ _ _ (hM1_688.mono (by first | exact Int.le_refl _ | omega))
    · unfold qX12_hearse_J25
      refine sX12_refuse  hM1_688  ?_
      intro x4_722 M4_723 hM4_723 q724
      exact hQ _ _ (hM4_723.mono (by first | exact Int.le_refl _ | omega))
theorem sX12_isMourner {p1 : Int} {b : Int} {M : Mem} {Q : Int → Mem → Prop} (hI : IM b M) (hQ : ∀ z : Int, (¬ z = 0 → 0 ≤ p1 ∧ p1 ≤ 7) → Q z M) : qX12_isMourner p1 M Q := by
  unfold qX12_isMourner
  have hbn := hI.nn
  intro x1_725 ex1_725 rx1_725
  have bx1_725 : 0 ≤ x1_725 ∧ x1_725 ≤ 8 := by rw [ex1_725]; exact bm_c1_5.mp (hI.bx _ _)
  refine ⟨(by first | assumption | exact (by omega)), ?_⟩
  refine sX12_in (p0 := p1) (p2 := 0) (p4 := x1_725 - 1) hI  ?_
  intro x3_726 p727 q728 q729
  refine ⟨by omega, ?_⟩
  exact hQ _ (by omega)
theorem sX12_nearest_L5 {k1 : Nat} {p2 : Int}  {Q : Int → Mem → Prop} {b : Int} {M0 : Mem} (hk1 : isN k1) (hp : -1 ≤ p2 ∧ p2 ≤ 29) (hQ : ∀ z : Int, (-1 ≤ z ∧ z ≤ 5 ∧ (0 ≤ z → 0 ≤ M0 k1 z)) → Q z M0) : ∀ (n : Nat) (v3 v4 : Int), IM (b) M0 → ((v3 = -1 ∨ 0 ≤ v3 ∧ v3 ≤ 5 ∧ 0 ≤ M0 k1 v3) ∧ 0 ≤ v4 ∧ v4 ≤ 6) → 6 - v4 < (n : Int) → qX12_nearest_L5 k1 p2 Q n v3 v4 M0 := by
  intro n
  induction n with
  | zero => intro v3 v4 hI hv hm; exact absurd hm (by omega)
  | succ n ih =>
    intro v3 v4 hI hv hm
    rw [qX12_nearest_L5]
    have hbn := hI.nn
    have ek1 : k1 = 5 ∨ k1 = 6 := hk1
    intro x1_730 ex1_730 rx1_730
    have bx1_730 : 0 ≤ x1_730 ∧ x1_730 ≤ 6 := by rw [ex1_730]; exact bm_c1_4.mp (hI.bx _ _)
    refine ⟨(by first | assumption | exact (by omega)), ?_⟩
    refine ⟨fun c => ?_, fun c => ?_⟩
    · refine ⟨(by first | assumption | exact (by omega)), ?_⟩
      exact hQ _ (by omega)
    · refine sX12_isOn (p1 := v4) hI hk1 (by omega) ?_
      intro x5_733 p734 q735 q736
      refine ⟨fun c => ?_, fun c => ?_⟩
      · exact ih _ _ (hI.mono (by first | exact Int.le_refl _ | omega)) (by omega) (by omega)
      · refine ⟨by omega, ?_⟩
        refine ⟨by omega, ?_⟩
        intro x9_739 ex9_739 rx9_739
        have rbx9_739 : -2147483648 ≤ x9_739 ∧ x9_739 ≤ 2147483647 := rx9_739
        have nbx9_739 : BN (b) v4 x9_739 := by rw [ex9_739]; exact (bm_n hk1).mp (hI.bx _ _)
        first | (have bx9_739 : -1 ≤ x9_739 ∧ x9_739 ≤ 29 := nbx9_739.1 (by omega)) | (have bx9_739 : -1 ≤ x9_739 ∧ x9_739 ≤ 29 := nbx9_739.2.1 (by omega)) | skip
        refine ⟨(by first | assumption | exact (by omega)), ?_⟩
        intro x11_740 px11_740 nx11_740
        have bx11_740 : 0 ≤ x11_740 ∧ (x9_739 - p2 = x11_740 ∨ x9_739 - p2 = -x11_740) := by omega
        refine ⟨(by first | assumption | exact (by omega)), ?_⟩
        refine ⟨fun c => ?_, fun c => ?_⟩
        · refine ⟨by omega, ?_⟩
          refine ⟨by omega, ?_⟩
          intro x16_742 ex16_742 rx16_742
          have rbx16_742 : -2147483648 ≤ x16_742 ∧ x16_742 ≤ 2147483647 := rx16_742
          have nbx16_742 : BN (b) v3 x16_742 := by rw [ex16_742]; exact (bm_n hk1).mp (hI.bx _ _)
          first | (have bx16_742 : -1 ≤ x16_742 ∧ x16_742 ≤ 29 := nbx16_742.1 (by omega)) | (have bx16_742 : -1 ≤ x16_742 ∧ x16_742 ≤ 29 := nbx16_742.2.1 (by omega)) | skip
          refine ⟨(by first | assumption | exact (by omega)), ?_⟩
          intro x18_743 px18_743 nx18_743
          have bx18_743 : 0 ≤ x18_743 ∧ (x16_742 - p2 = x18_743 ∨ x16_742 - p2 = -x18_743) := by omega
          unfold qX12_nearest_J52
          refine ⟨(by first | assumption | exact (by omega)), ?_⟩
          refine ⟨(by first | assumption | exact (by omega)), ?_⟩
          refine ⟨fun c => ?_, fun c => ?_⟩
          · exact ih _ _ (hI.mono (by first | exact Int.le_refl _ | omega)) (by omega) (by omega)
          · refine ⟨fun c => ?_, fun c => ?_⟩
            · exact ih _ _ (hI.mono (by first | exact Int.le_refl _ | omega)) (by omega) (by omega)
            · refine ⟨by omega, ?_⟩
              refine ⟨by omega, ?_⟩
              intro x25_748 ex25_748 rx25_748
              have rbx25_748 : -2147483648 ≤ x25_748 ∧ x25_748 ≤ 2147483647 := rx25_748
              have nbx25_748 : BN (b) v4 x25_748 := by rw [ex25_748]; exact (bm_n hk1).mp (hI.bx _ _)
              first | (have bx25_748 : -1 ≤ x25_748 ∧ x25_748 ≤ 29 := nbx25_748.1 (by omega)) | (have bx25_748 : -1 ≤ x25_748 ∧ x25_748 ≤ 29 := nbx25_748.2.1 (by omega)) | skip
              refine ⟨by omega, ?_⟩
              refine ⟨by omega, ?_⟩
              intro x28_749 ex28_749 rx28_749
              have rbx28_749 : -2147483648 ≤ x28_749 ∧ x28_749 ≤ 2147483647 := rx28_749
              have nbx28_749 : BN (b) v3 x28_749 := by rw [ex28_749]; exact (bm_n hk1).mp (hI.bx _ _)
              first | (have bx28_749 : -1 ≤ x28_749 ∧ x28_749 ≤ 29 := nbx28_749.1 (by omega)) | (have bx28_749 : -1 ≤ x28_749 ∧ x28_749 ≤ 29 := nbx28_749.2.1 (by omega)) | skip
              refine ⟨fun c => ?_, fun c => ?_⟩
              · exact ih _ _ (hI.mono (by first | exact Int.le_refl _ | omega)) (by omega) (by omega)
              · exact ih _ _ (hI.mono (by first | exact Int.le_refl _ | omega)) (by omega) (by omega)
        · unfold qX12_nearest_J52
          refine ⟨(by first | assumption | exact (by omega)), ?_⟩
          refine ⟨(by first | assumption | exact (by omega)), ?_⟩
          refine ⟨fun c => ?_, fun c => ?_⟩
          · exact ih _ _ (hI.mono (by first | exact Int.le_refl _ | omega)) (by omega) (by omega)
          · refine ⟨fun c => ?_, fun c => ?_⟩
            · exact ih _ _ (hI.mono (by first | exact Int.le_refl _ | omega)) (by omega) (by omega)
            · refine ⟨by omega, ?_⟩
              refine ⟨by omega, ?_⟩
              intro x25_757 ex25_757 rx25_757
              have rbx25_757 : -2147483648 ≤ x25_757 ∧ x25_757 ≤ 2147483647 := rx25_757
              have nbx25_757 : BN (b) v4 x25_757 := by rw [ex25_757]; exact (bm_n hk1).mp (hI.bx _ _)
              first | (have bx25_757 : -1 ≤ x25_757 ∧ x25_757 ≤ 29 := nbx25_757.1 (by omega)) | (have bx25_757 : -1 ≤ x25_757 ∧ x25_757 ≤ 29 := nbx25_757.2.1 (by omega)) | skip
              refine ⟨by omega, ?_⟩
              refine ⟨by omega, ?_⟩
              intro x28_758 ex28_758 rx28_758
              have rbx28_758 : -2147483648 ≤ x28_758 ∧ x28_758 ≤ 2147483647 := rx28_758
              have nbx28_758 : BN (b) v3 x28_758 := by rw [ex28_758]; exact (bm_n hk1).mp (hI.bx _ _)
              first | (have bx28_758 : -1 ≤ x28_758 ∧ x28_758 ≤ 29 := nbx28_758.1 (by omega)) | (have bx28_758 : -1 ≤ x28_758 ∧ x28_758 ≤ 29 := nbx28_758.2.1 (by omega)) | skip
              refine ⟨fun c => ?_, fun c => ?_⟩
              · exact ih _ _ (hI.mono (by first | exact Int.le_refl _ | omega)) (by omega) (by omega)
              · exact ih _ _ (hI.mono (by first | exact Int.le_refl _ | omega)) (by omega) (by omega)
end
