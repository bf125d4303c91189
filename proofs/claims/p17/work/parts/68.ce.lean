theorem sX6_takeAway {k0 : Nat} {p1 : Int} {M : Mem} {Q : Mem → Prop} (hI : IX M) (hk0 : isS k0) (hp : 0 ≤ p1 ∧ p1 ≤ 5) (hQ : ∀ M' : Mem, IX M' → Q M') : qX6_takeAway k0 p1 M Q := by
  unfold qX6_takeAway
  have ek0 : 0 < k0 ∧ k0 < 155 ∧ (k0 - 1) % 7 = 0 := hk0
  refine sX6_arrive (p1 := p1) hI hk0 (by omega) ?_
  intro M1_2388 hM1_2388
  refine ⟨9, ?_⟩
  refine sX6_takeAway_L7 hk0 hp ?_ _ _ _ hM1_2388 (by omega) (by omega)
  · exact hQ
theorem sX11_misleads_L27  {X129 : Int → Int → Int → Mem → Prop} {Q : Int → Mem → Prop} (hQ : ∀ z : Int, ∀ M' : Mem, IX M' → Q z M') (hX129 : ∀ w1 w2 w3 : Int, ∀ M' : Mem, IX M' → (-1 ≤ w2 ∧ w2 ≤ 5 ∧ -1 ≤ w3 ∧ w3 ≤ 63) → X129 w1 w2 w3 M') : ∀ (n : Nat) (v1 v2 v3 v4 : Int) (M : Mem), IX M → (-1 ≤ v2 ∧ v2 ≤ 5 ∧ -1 ≤ v3 ∧ v3 ≤ 63 ∧ 0 ≤ v4 ∧ v4 ≤ 6) → 6 - v4 < (n : Int) → qX11_misleads_L27 X129 Q n v1 v2 v3 v4 M := by
  intro n
  induction n with
  | zero => intro v1 v2 v3 v4 M hI hv hm; exact absurd hm (by omega)
  | succ n ih =>
    intro v1 v2 v3 v4 M hI hv hm
    rw [qX11_misleads_L27]
    intro x4_2389 ex4_2389 rx4_2389
    have bx4_2389 : 0 ≤ x4_2389 ∧ x4_2389 ≤ 6 := by rw [ex4_2389]; exact (bx_s0_6 (show isS 1 by decide)).mp (hI.bx _ _)
    refine ⟨(by first | assumption | exact (by omega)), ?_⟩
    refine ⟨fun c => ?_, fun c => ?_⟩
    · exact hX129 _ _ _ _ hI (by omega)
    · refine sX6_hasArrived (p1 := v4) hI (show isS 1 by decide) (by omega) ?_
      intro x7_2392 q2393 q2394
      refine ⟨fun c => ?_, fun c => ?_⟩
      · exact ih _ _ _ _ _ hI (by omega) (by omega)
      · refine sX6_copyFrom  hI (show isS 8 by decide) (show isS 1 by decide) ?_
        intro M9_2397 hM9_2397 gM9_2397
        refine sX6_takeAway (p1 := v4) hM9_2397 (show isS 8 by decide) (by omega) ?_
        intro M10_2398 hM10_2398
        refine ⟨(hM10_2398).l16, ?_⟩
        refine sX11_rightOnesOfTrial  hM10_2398 (hM10_2398).l16 ?_
        intro x12_2399 M12_2400 hM12_2400 q2401
        refine sX6_bitsOf (p2 := v4) hM12_2400 (show isS 1 by decide) ?_
        intro x13_2402 q2403
        intro x14_2404 ex14_2404 rx14_2404
        intro x15_2405 ex15_2405 rx15_2405
        refine sJ6_bitCount_0f7a4 (p0 := x15_2405) hM12_2400  ?_
        intro x16_2406 p2407 q2408
        refine ⟨(by first | assumption | exact (by omega)), ?_⟩
        refine ⟨fun c => ?_, fun c => ?_⟩
        · unfold qX11_misleads_J115
          refine ⟨(by first | assumption | exact (by omega)), ?_⟩
          refine ⟨(by first | assumption | exact (by omega)), ?_⟩
          intro x21_2410 ex21_2410 rx21_2410
          exact ih _ _ _ _ _ hM12_2400 (by omega) (by omega)
        · unfold qX11_misleads_J115
          refine ⟨(by first | assumption | exact (by omega)), ?_⟩
          refine ⟨(by first | assumption | exact (by omega)), ?_⟩
          intro x21_2412 ex21_2412 rx21_2412
          exact ih _ _ _ _ _ hM12_2400 (by omega) (by omega)
theorem sX11_misleads  {M : Mem} {Q : Int → Mem → Prop} (hI : IX M) (hQ : ∀ z : Int, ∀ M' : Mem, IX M' → Q z M') : qX11_misleads M Q := by
  unfold qX11_misleads
  refine sX6_copyFrom  hI (show isS 8 by decide) (show isS 1 by decide) ?_
  intro M1_2413 hM1_2413 gM1_2413
  refine ⟨(hM1_2413).l16, ?_⟩
  refine sX11_rightOnesOfTrial  hM1_2413 (hM1_2413).l16 ?_
  intro x3_2414 M3_2415 hM3_2415 q2416
  refine ⟨7, ?_⟩
  refine sX11_misleads_L27 ?_ ?_ _ _ _ _ _ _ hM3_2415 (by omega) (by omega)
  · exact hQ
  · intro v1_2417 v2_2418 v3_2419 M_2420 hM_2420 p2421
    refine ⟨(by first | assumption | exact (by omega)), ?_⟩
    refine ⟨fun c => ?_, fun c => ?_⟩
    · refine ⟨(by first | assumption | exact (by omega)), ?_⟩
      refine sX6_bitsOf (p2 := v2_2418) hM_2420 (show isS 1 by decide) ?_
      intro x26_2423 q2424
      intro x27_2425 ex27_2425 rx27_2425
      intro x28_2426 ex28_2426 rx28_2426
      refine sJ6_bitCount_0f7a4 (p0 := x28_2426) hM_2420  ?_
      intro x29_2427 p2428 q2429
      refine sX4_tellTwo (p1 := v3_2419) (p3 := x29_2427) hM_2420  ?_
      intro M30_2430 hM30_2430
      exact hQ _ _ hM30_2430
    · exact hQ _ _ hM_2420
theorem sX11_crowd_L45  {X101 : Int → Int → Mem → Prop} {Q : Int → Mem → Prop} (hQ : ∀ z : Int, ∀ M' : Mem, IX M' → Q z M') (hX101 : ∀ w1 w2 : Int, ∀ M' : Mem, IX M' → (0 ≤ w1 ∧ w1 ≤ 5 ∧ -1 ≤ w2 ∧ w2 ≤ 63) → X101 w1 w2 M') : ∀ (n : Nat) (v1 v2 v3 : Int) (M : Mem), IX M → (0 ≤ v1 ∧ v1 ≤ 5 ∧ -1 ≤ v2 ∧ v2 ≤ 63 ∧ 0 ≤ v3 ∧ v3 ≤ 6) → 6 - v3 < (n : Int) → qX11_crowd_L45 X101 Q n v1 v2 v3 M := by
  intro n
  induction n with
  | zero => intro v1 v2 v3 M hI hv hm; exact absurd hm (by omega)
  | succ n ih =>
    intro v1 v2 v3 M hI hv hm
    rw [qX11_crowd_L45]
    intro x6_2432 ex6_2432 rx6_2432
    have bx6_2432 : 0 ≤ x6_2432 ∧ x6_2432 ≤ 6 := by rw [ex6_2432]; exact (bx_s0_6 (show isS 8 by decide)).mp (hI.bx _ _)
    refine ⟨(by first | assumption | exact (by omega)), ?_⟩
    refine ⟨fun c => ?_, fun c => ?_⟩
    · exact hX101 _ _ _ hI (by omega)
    · refine sX6_bitsOf (p2 := v3) hI (show isS 8 by decide) ?_
      intro x9_2435 q2436
      refine sJ6_bitCount_0f7a4 (p0 := x9_2435) hI  ?_
      intro x10_2437 p2438 q2439
      refine ⟨(by first | assumption | exact (by omega)), ?_⟩
      refine ⟨fun c => ?_, fun c => ?_⟩
      · unfold qX11_crowd_J87
        refine ⟨(by first | assumption | exact (by omega)), ?_⟩
        refine ⟨(by first | assumption | exact (by omega)), ?_⟩
        intro x15_2441 ex15_2441 rx15_2441
        exact ih _ _ _ _ hI (by omega) (by omega)
      · unfold qX11_crowd_J87
        refine ⟨(by first | assumption | exact (by omega)), ?_⟩
        refine ⟨(by first | assumption | exact (by omega)), ?_⟩
        intro x15_2443 ex15_2443 rx15_2443
        exact ih _ _ _ _ hI (by omega) (by omega)
theorem sX11_crowd  {M : Mem} {Q : Int → Mem → Prop} (hI : IX M) (hQ : ∀ z : Int, ∀ M' : Mem, IX M' → Q z M') : qX11_crowd M Q := by
  unfold qX11_crowd
  intro x1_2444 ex1_2444 rx1_2444
  have bx1_2444 : 0 ≤ x1_2444 ∧ x1_2444 ≤ 6 := by rw [ex1_2444]; exact (bx_s0_6 (show isS 1 by decide)).mp (hI.bx _ _)
  refine ⟨fun c => ?_, fun c => ?_⟩
  · refine sX6_copyFrom  hI (show isS 8 by decide) (show isS 1 by decide) ?_
    intro M3_2446 hM3_2446 gM3_2446
    refine ⟨(hM3_2446).l16, ?_⟩
    refine sX10_toEnd  hM3_2446 (show isS 8 by decide) (hM3_2446).l16 ?_
    intro M5_2447 hM5_2447
    refine ⟨7, ?_⟩
    refine sX11_crowd_L45 ?_ ?_ _ _ _ _ _ hM5_2447 (by omega) (by omega)
    · exact hQ
    · intro v1_2448 v2_2449 M_2450 hM_2450 p2451
      refine ⟨(by first | assumption | exact (by omega)), ?_⟩
      refine sX6_rightBits  hM_2450 (show isS 8 by decide) ?_
      intro x18_2452 q2453
      refine ⟨(by first | assumption | exact (by omega)), ?_⟩
      refine sX6_bitsOf (p2 := v1_2448) hM_2450 (show isS 8 by decide) ?_
      intro x20_2454 q2455
      intro x21_2456 ex21_2456 rx21_2456
      refine sJ6_bitCount_0f7a4 (p0 := x21_2456) hM_2450  ?_
      intro x22_2457 p2458 q2459
      refine sX4_tellTwo (p1 := v2_2449) (p3 := x22_2457) hM_2450  ?_
      intro M23_2460 hM23_2460
      exact hQ _ _ hM23_2460
  · exact hQ _ _ hI
theorem sX7_canHave {k1 : Nat} {p2 : Int} {p3 : Int} {p4 : Int} {M : Mem} {Q : Int → Mem → Prop} (hI : IX M) (hk1 : isS k1) (hp : 0 ≤ p2 ∧ p2 ≤ 7 ∧ 0 ≤ p3 ∧ p3 ≤ 5) (hQ : ∀ z : Int, Q z M) : qX7_canHave k1 p2 p3 p4 M Q := by
  unfold qX7_canHave
  have ek1 : 0 < k1 ∧ k1 < 155 ∧ (k1 - 1) % 7 = 0 := hk1
  intro x1_2462 ex1_2462 rx1_2462
  intro x2_2463 ex2_2463 rx2_2463
  have fx2_2463 := aI_1 x1_2462; rw [← ex2_2463] at fx2_2463
  refine ⟨fun c => ?_, fun c => ?_⟩
  · exact hQ _
  · refine sX6_hasEnded (p1 := p2) hI hk1 (by omega) ?_
    intro x4_2466 q2467 q2468
    refine ⟨fun c => ?_, fun c => ?_⟩
    · exact hQ _
    · refine sX6_hasArrived (p1 := p3) hI hk1 (by omega) ?_
      intro x6_2471 q2472 q2473
      refine ⟨fun c => ?_, fun c => ?_⟩
      · exact hQ _
      · refine ⟨by omega, ?_⟩
        refine ⟨by omega, ?_⟩
        intro x10_2476 ex10_2476 rx10_2476
        have bx10_2476 : -1 ≤ x10_2476 ∧ x10_2476 ≤ 29 := by rw [ex10_2476]; exact (bx_s1 hk1).mp (hI.bx _ _)
        refine ⟨by omega, ?_⟩
        refine ⟨by omega, ?_⟩
        intro x13_2477 ex13_2477 rx13_2477
        have bx13_2477 : -1 ≤ x13_2477 ∧ x13_2477 ≤ 29 := by rw [ex13_2477]; exact (bx_s3 hk1).mp (hI.bx _ _)
        refine ⟨(by first | assumption | exact (by omega)), ?_⟩
        intro x15_2478 px15_2478 nx15_2478
        have bx15_2478 : 0 ≤ x15_2478 ∧ (x10_2476 - x13_2477 = x15_2478 ∨ x10_2476 - x13_2477 = -x15_2478) := by omega
        intro x16_2479 ex16_2479 rx16_2479
        have bx16_2479 : 0 ≤ x16_2479 ∧ x16_2479 ≤ 30 := by rw [ex16_2479]; exact (bx_c168_1).mp (hI.bx _ _)
        refine ⟨(by first | assumption | exact (by omega)), ?_⟩
        refine ⟨fun c => ?_, fun c => ?_⟩
        · exact hQ _
        · exact hQ _
theorem sX7_choice_L30 {k1 : Nat} {p2 : Int} {p3 : Int}  {Q : Int → Mem → Prop} {M0 : Mem} (hk1 : isS k1) (hp : 0 ≤ p2 ∧ p2 ≤ 7 ∧ 0 ≤ p3 ∧ p3 ≤ 63) (hQ : ∀ z : Int, (-1 ≤ z ∧ z ≤ 5) → Q z M0) : ∀ (n : Nat) (v4 v5 : Int), IX M0 → (0 ≤ v5 ∧ v5 ≤ 6) → iR v4 → 6 - v5 < (n : Int) → qX7_choice_L30 k1 p2 p3 Q n v4 v5 M0 := by
  intro n
  induction n with
  | zero => intro v4 v5 hI hv hrv4 hm; exact absurd hm (by omega)
  | succ n ih =>
    intro v4 v5 hI hv hrv4 hm
    rw [qX7_choice_L30]
    have ek1 : 0 < k1 ∧ k1 < 155 ∧ (k1 - 1) % 7 = 0 := hk1
    intro x10_2482 ex10_2482 rx10_2482
    have bx10_2482 : 0 ≤ x10_2482 ∧ x10_2482 ≤ 6 := by rw [ex10_2482]; exact (bx_s0_6 hk1).mp (hI.bx _ _)
    refine ⟨(by first | assumption | exact (by omega)), ?_⟩
    refine ⟨fun c => ?_, fun c => ?_⟩
    · exact hQ _ (by omega)
    · refine sX7_canHave (p2 := p2) (p3 := v5) (p4 := p3) hI hk1 (by omega) ?_
      intro x13_2485 q2486 q2487
      refine ⟨fun c => ?_, fun c => ?_⟩
      · exact ih _ _ hI (by omega) (by first | assumption | exact (by omega)) (by omega)
      · refine ⟨by omega, ?_⟩
        refine ⟨by omega, ?_⟩
        intro x17_2490 ex17_2490 rx17_2490
        first | (have fx17_2490 := slI_1 (b := v5) (by omega); rw [← ex17_2490] at fx17_2490) | skip
        intro x18_2491 ex18_2491 rx18_2491
        first | (have fx18_2491 := oI_64 (a := p3) (b := x17_2490) (by omega) (by omega); rw [← ex18_2491] at fx18_2491) | skip
        refine ⟨by omega, ?_⟩
        refine ⟨by omega, ?_⟩
        intro x21_2492 ex21_2492 rx21_2492
        have bx21_2492 : 0 ≤ x21_2492 ∧ x21_2492 ≤ 8 - (p2 + 1) := by rw [ex21_2492]; exact (bx_sh (e := p2 + 1) (by omega) (by omega)).mp (hI.bx _ _)
        refine ⟨(by first | assumption | exact (by omega)), ?_⟩
        refine ⟨(by first | assumption | exact (by omega)), ?_⟩
        refine ⟨fun c => ?_, fun c => ?_⟩
        · exact ih _ _ hI (by omega) (by first | assumption | exact (by omega)) (by omega)
        · exact hQ _ (by omega)
theorem sX7_choice {k1 : Nat} {p2 : Int} {p3 : Int} {M : Mem} {Q : Int → Mem → Prop} (hI : IX M) (hk1 : isS k1) (hp : 0 ≤ p2 ∧ p2 ≤ 7 ∧ 0 ≤ p3 ∧ p3 ≤ 63) (hQ : ∀ z : Int, (-1 ≤ z ∧ z ≤ 5) → Q z M) : qX7_choice k1 p2 p3 M Q := by
  unfold qX7_choice
  have ek1 : 0 < k1 ∧ k1 < 155 ∧ (k1 - 1) % 7 = 0 := hk1
  refine ⟨by omega, ?_⟩
  refine ⟨by omega, ?_⟩
  refine ⟨by omega, ?_⟩
  refine ⟨by omega, ?_⟩
  intro x5_2495 ex5_2495 rx5_2495
  have bx5_2495 : 0 ≤ x5_2495 ∧ x5_2495 ≤ 8 - (p2) := by rw [ex5_2495]; exact (bx_sh (e := p2) (by omega) (by omega)).mp (hI.bx _ _)
  refine ⟨by omega, ?_⟩
  refine ⟨by omega, ?_⟩
  intro x8_2496 ex8_2496 rx8_2496
  have bx8_2496 : 0 ≤ x8_2496 ∧ x8_2496 ≤ 8 - (p2 + 1) := by rw [ex8_2496]; exact (bx_sh (e := p2 + 1) (by omega) (by omega)).mp (hI.bx _ _)
  refine ⟨fun c => ?_, fun c => ?_⟩
  · refine ⟨7, ?_⟩
    refine sX7_choice_L30 hk1 hp ?_ _ _ _ hI (by omega) (by first | assumption | exact (by omega)) (by omega)
    · exact hQ
  · exact hQ _ (by omega)
theorem sX7_mostFrom_L15 {k1 : Nat} {p2 : Int} {p3 : Int}  {Q : Int → Mem → Prop} {M0 : Mem} (hk1 : isS k1) (hp : 0 ≤ p2 ∧ p2 ≤ 7 ∧ 0 ≤ p3 ∧ p3 ≤ 63) (hQ : ∀ z : Int, (0 ≤ z ∧ z ≤ 8 - p2) → Q z M0) : ∀ (n : Nat) (v4 v5 : Int), IX M0 → (0 ≤ v4 ∧ v4 ≤ 8 - p2 ∧ 0 ≤ v5 ∧ v5 ≤ 6) → 6 - v5 < (n : Int) → qX7_mostFrom_L15 k1 p2 p3 Q n v4 v5 M0 := by
  intro n
  induction n with
  | zero => intro v4 v5 hI hv hm; exact absurd hm (by omega)
  | succ n ih =>
    intro v4 v5 hI hv hm
    rw [qX7_mostFrom_L15]
    have ek1 : 0 < k1 ∧ k1 < 155 ∧ (k1 - 1) % 7 = 0 := hk1
    intro x6_2499 ex6_2499 rx6_2499
    have bx6_2499 : 0 ≤ x6_2499 ∧ x6_2499 ≤ 6 := by rw [ex6_2499]; exact (bx_s0_6 hk1).mp (hI.bx _ _)
    refine ⟨(by first | assumption | exact (by omega)), ?_⟩
    refine ⟨fun c => ?_, fun c => ?_⟩
    · refine ⟨(by first | assumption | exact (by omega)), ?_⟩
      exact hQ _ (by omega)
    · refine sX7_canHave (p2 := p2) (p3 := v5) (p4 := p3) hI hk1 (by omega) ?_
      intro x10_2502 q2503 q2504
      refine ⟨fun c => ?_, fun c => ?_⟩
      · exact ih _ _ hI (by omega) (by omega)
      · refine ⟨by omega, ?_⟩
        refine ⟨by omega, ?_⟩
        intro x14_2507 ex14_2507 rx14_2507
        first | (have fx14_2507 := slI_1 (b := v5) (by omega); rw [← ex14_2507] at fx14_2507) | skip
        intro x15_2508 ex15_2508 rx15_2508
        first | (have fx15_2508 := oI_64 (a := p3) (b := x14_2507) (by omega) (by omega); rw [← ex15_2508] at fx15_2508) | skip
        refine ⟨by omega, ?_⟩
        refine ⟨by omega, ?_⟩
        intro x18_2509 ex18_2509 rx18_2509
        have bx18_2509 : 0 ≤ x18_2509 ∧ x18_2509 ≤ 8 - (p2 + 1) := by rw [ex18_2509]; exact (bx_sh (e := p2 + 1) (by omega) (by omega)).mp (hI.bx _ _)
        refine ⟨(by first | assumption | exact (by omega)), ?_⟩
        refine ⟨(by first | assumption | exact (by omega)), ?_⟩
        intro x21_2510 ex21_2510 rx21_2510
        exact ih _ _ hI (by omega) (by omega)
theorem sX7_mostFrom {k1 : Nat} {p2 : Int} {p3 : Int} {M : Mem} {Q : Int → Mem → Prop} (hI : IX M) (hk1 : isS k1) (hp : 0 ≤ p2 ∧ p2 ≤ 7 ∧ 0 ≤ p3 ∧ p3 ≤ 63) (hQ : ∀ z : Int, (0 ≤ z ∧ z ≤ 8 - p2) → Q z M) : qX7_mostFrom k1 p2 p3 M Q := by
  unfold qX7_mostFrom
  have ek1 : 0 < k1 ∧ k1 < 155 ∧ (k1 - 1) % 7 = 0 := hk1
  refine ⟨by omega, ?_⟩
  refine ⟨by omega, ?_⟩
  refine ⟨by omega, ?_⟩
  refine ⟨by omega, ?_⟩
  intro x5_2511 ex5_2511 rx5_2511
  have bx5_2511 : 0 ≤ x5_2511 ∧ x5_2511 ≤ 8 - (p2 + 1) := by rw [ex5_2511]; exact (bx_sh (e := p2 + 1) (by omega) (by omega)).mp (hI.bx _ _)
  refine ⟨7, ?_⟩
  refine sX7_mostFrom_L15 hk1 hp ?_ _ _ _ hI (by omega) (by omega)
  · exact hQ
theorem sX7_weigh_L15 {k1 : Nat} {p2 : Int} {X40 : Int → Mem → Prop} {Q : Int → Mem → Prop} (hk1 : isS k1) (hp : 0 ≤ p2 ∧ p2 ≤ 30) (hQ : ∀ z : Int, ∀ M' : Mem, IX M' → (0 ≤ z ∧ z ≤ 8) → Q z M') (hX40 : ∀ w1 : Int, ∀ M' : Mem, IX M' → (1 ≤ w1 ∧ w1 ≤ 64) → X40 w1 M') : ∀ (n : Nat) (v3 v4 : Int) (M : Mem), IX M → (1 ≤ v3 ∧ v3 ≤ 64 ∧ 0 ≤ v4 ∧ v4 ≤ 64) → 64 - v4 < (n : Int) → qX7_weigh_L15 k1 p2 X40 Q n v3 v4 M := by
  intro n
  induction n with
  | zero => intro v3 v4 M hI hv hm; exact absurd hm (by omega)
  | succ n ih =>
    intro v3 v4 M hI hv hm
    rw [qX7_weigh_L15]
    have ek1 : 0 < k1 ∧ k1 < 155 ∧ (k1 - 1) % 7 = 0 := hk1
    refine ⟨(by first | assumption | exact (by omega)), ?_⟩
    refine ⟨(by first | assumption | exact (by omega)), ?_⟩
    refine ⟨fun c => ?_, fun c => ?_⟩
    · exact hX40 _ _ hI (by omega)
    · intro x7_2514 ex7_2514 rx7_2514
      have bx7_2514 : 0 ≤ x7_2514 ∧ x7_2514 ≤ 8 := by rw [ex7_2514]; exact (bx_s0_7 hk1).mp (hI.bx _ _)
      refine ⟨by omega, ?_⟩
      refine ⟨by omega, ?_⟩
      refine ⟨by omega, ?_⟩
      refine ⟨by omega, ?_⟩
      intro M12_2515 h_M12_2515
      have hM12_2515 : IX M12_2515 := by rw [h_M12_2515]; exact hI.up (sh_nsp (e := x7_2514) (by omega) (by omega)) ((bx_sh (e := x7_2514) (by omega) (by omega)).mpr (by omega))
      exact ih _ _ _ hM12_2515 (by omega) (by omega)
theorem sX7_weigh_L56 {k1 : Nat} {p2 : Int} {X87 : Int → Int → Mem → Prop} {Q : Int → Mem → Prop} {g0 : Int} (hk1 : isS k1) (hp : 0 ≤ p2 ∧ p2 ≤ 30) (hQ : ∀ z : Int, ∀ M' : Mem, IX M' → (0 ≤ z ∧ z ≤ 8) → Q z M') (hX87 : ∀ w1 w2 : Int, ∀ M' : Mem, IX M' → (w2 = g0 ∧ 1 ≤ w1 ∧ w1 ≤ 64 ∧ 0 ≤ w2 ∧ w2 ≤ 7) → X87 w1 w2 M') : ∀ (n : Nat) (v3 v4 v5 : Int) (M : Mem), IX M → (v4 = g0 ∧ 1 ≤ v3 ∧ v3 ≤ 64 ∧ 0 ≤ v4 ∧ v4 ≤ 7 ∧ 0 ≤ v5 ∧ v5 ≤ 64) → 64 - v5 < (n : Int) → qX7_weigh_L56 k1 p2 X87 Q n v3 v4 v5 M := by
  intro n
  induction n with
  | zero => intro v3 v4 v5 M hI hv hm; exact absurd hm (by omega)
  | succ n ih =>
    intro v3 v4 v5 M hI hv hm
    rw [qX7_weigh_L56]
    have ek1 : 0 < k1 ∧ k1 < 155 ∧ (k1 - 1) % 7 = 0 := hk1
    refine ⟨(by first | assumption | exact (by omega)), ?_⟩
    refine ⟨(by first | assumption | exact (by omega)), ?_⟩
    refine ⟨fun c => ?_, fun c => ?_⟩
    · exact hX87 _ _ _ hI (by omega)
    · refine ⟨by omega, ?_⟩
      refine ⟨by omega, ?_⟩
      refine ⟨(by first | assumption | exact (by omega)), ?_⟩
      refine sX7_mostFrom (p2 := v4) (p3 := v5) hI hk1 (by omega) ?_
      intro x24_2518 p2519 q2520
      refine ⟨by omega, ?_⟩
      refine ⟨by omega, ?_⟩
      intro M27_2521 h_M27_2521
      have hM27_2521 : IX M27_2521 := by rw [h_M27_2521]; exact hI.up (sh_nsp (e := v4) (by omega) (by omega)) ((bx_sh (e := v4) (by omega) (by omega)).mpr (by omega))
      exact ih _ _ _ _ hM27_2521 (by omega) (by omega)
theorem sX7_weigh_L48 {k1 : Nat} {p2 : Int}  {Q : Int → Mem → Prop} (hk1 : isS k1) (hp : 0 ≤ p2 ∧ p2 ≤ 30) (hQ : ∀ z : Int, ∀ M' : Mem, IX M' → (0 ≤ z ∧ z ≤ 8) → Q z M') : ∀ (n : Nat) (v3 v4 : Int) (M : Mem), IX M → (1 ≤ v3 ∧ v3 ≤ 64 ∧ -1 ≤ v4 ∧ v4 ≤ 7) → v4 + 1 < (n : Int) → qX7_weigh_L48 k1 p2 Q n v3 v4 M := by
  intro n
  induction n with
  | zero => intro v3 v4 M hI hv hm; exact absurd hm (by omega)
  | succ n ih =>
    intro v3 v4 M hI hv hm
    rw [qX7_weigh_L48]
    have ek1 : 0 < k1 ∧ k1 < 155 ∧ (k1 - 1) % 7 = 0 := hk1
    refine ⟨(by first | assumption | exact (by omega)), ?_⟩
    refine ⟨fun c => ?_, fun c => ?_⟩
    · intro x17_2523 ex17_2523 rx17_2523
      have bx17_2523 : 0 ≤ x17_2523 ∧ x17_2523 ≤ 8 - (0) := by rw [ex17_2523]; exact (bx_sh (e := 0) (by omega) (by omega)).mp (hI.bx _ _)
      exact hQ _ _ hI (by omega)
    · refine ⟨65, ?_⟩
      refine sX7_weigh_L56 (g0 := v4) hk1 hp ?_ ?_ _ _ _ _ _ hI (by omega) (by omega)
      · exact hQ
      · intro v3_2525 v4_2526 M_2527 hM_2527 p2528
        exact ih _ _ _ hM_2527 (by omega) (by omega)
theorem sX7_weigh {k1 : Nat} {p2 : Int} {M : Mem} {Q : Int → Mem → Prop} (hI : IX M) (hk1 : isS k1) (hp : 0 ≤ p2 ∧ p2 ≤ 30) (hQ : ∀ z : Int, ∀ M' : Mem, IX M' → (0 ≤ z ∧ z ≤ 8) → Q z M') : qX7_weigh k1 p2 M Q := by
  unfold qX7_weigh
  have ek1 : 0 < k1 ∧ k1 < 155 ∧ (k1 - 1) % 7 = 0 := hk1
  intro M1_2529 h_M1_2529
  have hM1_2529 : IX M1_2529 := by rw [h_M1_2529]; exact hI.up (by decide) ((bx_c168_1).mpr (by omega))
  intro x2_2530 ex2_2530 rx2_2530
  have bx2_2530 : 0 ≤ x2_2530 ∧ x2_2530 ≤ 6 := by rw [ex2_2530]; exact (bx_s0_6 hk1).mp (hM1_2529.bx _ _)
  have fx2_2530 : x2_2530 = M k1 6 := by rw [ex2_2530, h_M1_2529, up2_n (by omega)]
  intro x3_2531 ex3_2531 rx3_2531
  first | (have fx3_2531 := slI_1 (b := x2_2530) (by omega); rw [← ex3_2531] at fx3_2531) | skip
  refine ⟨65, ?_⟩
  refine sX7_weigh_L15 hk1 hp ?_ ?_ _ _ _ _ hM1_2529 (by omega) (by omega)
  · exact hQ
  · intro v3_2532 M_2533 hM_2533 p2534
    intro x14_2535 ex14_2535 rx14_2535
    have bx14_2535 : 0 ≤ x14_2535 ∧ x14_2535 ≤ 8 := by rw [ex14_2535]; exact (bx_s0_7 hk1).mp (hM_2533.bx _ _)
    refine ⟨10, ?_⟩
    refine sX7_weigh_L48 hk1 hp ?_ _ _ _ _ hM_2533 (by omega) (by omega)
    · exact hQ
theorem sX11_shares_L37 {p1 : Int}  {Q : Int → Mem → Prop} (hQ : ∀ z : Int, ∀ M' : Mem, IX M' → Q z M') : ∀ (n : Nat) (v2 v3 v4 : Int) (M : Mem), IX M → (0 ≤ v2 ∧ v2 ≤ 8 ∧ 0 ≤ v3 ∧ v3 ≤ 63 ∧ 0 ≤ v4 ∧ v4 ≤ 8) → 8 - v4 < (n : Int) → qX11_shares_L37 p1 Q n v2 v3 v4 M := by
  intro n
  induction n with
  | zero => intro v2 v3 v4 M hI hv hm; exact absurd hm (by omega)
  | succ n ih =>
    intro v2 v3 v4 M hI hv hm
    rw [qX11_shares_L37]
    intro x5_2536 ex5_2536 rx5_2536
    have bx5_2536 : 0 ≤ x5_2536 ∧ x5_2536 ≤ 8 := by rw [ex5_2536]; exact (bx_s0_7 (show isS 1 by decide)).mp (hI.bx _ _)
    refine ⟨(by first | assumption | exact (by omega)), ?_⟩
    refine ⟨fun c => ?_, fun c => ?_⟩
    · refine ⟨(by first | assumption | exact (by omega)), ?_⟩
      exact hQ _ _ hI
    · refine ⟨(by first | assumption | exact (by omega)), ?_⟩
      refine sX7_choice (p2 := v4) (p3 := v3) hI (show isS 1 by decide) (by omega) ?_
      intro x10_2539 p2540 q2541
      refine ⟨fun c => ?_, fun c => ?_⟩
      · intro x12_2543 ex12_2543 rx12_2543
        first | (have fx12_2543 := slI_1 (b := x10_2539) (by omega); rw [← ex12_2543] at fx12_2543) | skip
        unfold qX11_shares_J80
        intro x13_2544 ex13_2544 rx13_2544
        first | (have fx13_2544 := oI_64 (a := v3) (b := x12_2543) (by omega) (by omega); rw [← ex13_2544] at fx13_2544) | skip
        refine ⟨(by first | assumption | exact (by omega)), ?_⟩
        refine sX4_add (p1 := x10_2539) hI  ?_
        intro M15_2545 hM15_2545
        exact ih _ _ _ _ hM15_2545 (by omega) (by omega)
      · unfold qX11_shares_J80
        intro x13_2547 ex13_2547 rx13_2547
        first | (have fx13_2547 := oI_64 (a := v3) (b := 0) (by omega) (by omega); rw [← ex13_2547] at fx13_2547) | skip
        refine ⟨(by first | assumption | exact (by omega)), ?_⟩
        refine sX4_add (p1 := x10_2539) hI  ?_
        intro M15_2548 hM15_2548
        exact ih _ _ _ _ hM15_2548 (by omega) (by omega)
theorem sX11_shares {p1 : Int} {M : Mem} {Q : Int → Mem → Prop} (hI : IX M) (hQ : ∀ z : Int, ∀ M' : Mem, IX M' → Q z M') : qX11_shares p1 M Q := by
  unfold qX11_shares
  refine ⟨fun c => ?_, fun c => ?_⟩
  · exact hQ _ _ hI
  · refine ⟨fun c => ?_, fun c => ?_⟩
    · refine sX7_weigh (p2 := p1) hI (show isS 1 by decide) (by omega) ?_
      intro x3_2552 M3_2553 hM3_2553 p2554 q2555
      refine sX4_clear  hM3_2553  ?_
      intro M4_2556 hM4_2556
      refine ⟨9, ?_⟩
      refine sX11_shares_L37 ?_ _ _ _ _ _ hM4_2556 (by omega) (by omega)
      · exact hQ
    · exact hQ _ _ hI
theorem sX11_strangers_L20  {X136 : Int → Int → Mem → Prop} {Q : Int → Mem → Prop} {g0 : Int} (hQ : ∀ z : Int, ∀ M' : Mem, IX M' → Q z M') (hX136 : ∀ w1 w2 : Int, ∀ M' : Mem, IX M' → (w2 = g0 ∧ 0 ≤ w1 ∧ w1 ≤ 30 ∧ 0 ≤ w2 ∧ w2 ≤ 7) → X136 w1 w2 M') : ∀ (n : Nat) (v1 v2 v3 : Int) (M : Mem), IX M → (v2 = g0 ∧ 0 ≤ v1 ∧ v1 ≤ 30 ∧ 0 ≤ v2 ∧ v2 ≤ 7 ∧ 0 ≤ v3 ∧ v3 ≤ 8) → 8 - v3 < (n : Int) → qX11_strangers_L20 X136 Q n v1 v2 v3 M := by
  intro n
  induction n with
  | zero => intro v1 v2 v3 M hI hv hm; exact absurd hm (by omega)
  | succ n ih =>
    intro v1 v2 v3 M hI hv hm
    rw [qX11_strangers_L20]
    intro x4_2558 ex4_2558 rx4_2558
    have bx4_2558 : 0 ≤ x4_2558 ∧ x4_2558 ≤ 8 := by rw [ex4_2558]; exact (bx_s0_7 (show isS 1 by decide)).mp (hI.bx _ _)
    refine ⟨(by first | assumption | exact (by omega)), ?_⟩
    refine ⟨fun c => ?_, fun c => ?_⟩
    · exact hX136 _ _ _ hI (by omega)
    · refine ⟨(by first | assumption | exact (by omega)), ?_⟩
      refine sX6_hasEnded (p1 := v2) hI (show isS 1 by decide) (by omega) ?_
      intro x8_2561 q2562 q2563
      refine ⟨fun c => ?_, fun c => ?_⟩
      · unfold qX11_strangers_J78
        unfold qX11_strangers_J79
        refine ⟨by omega, ?_⟩
        refine ⟨by omega, ?_⟩
        intro x12_2565 ex12_2565 rx12_2565
        have bx12_2565 : -1 ≤ x12_2565 ∧ x12_2565 ≤ 29 := by rw [ex12_2565]; exact (bx_s3 (show isS 1 by decide)).mp (hI.bx _ _)
        refine ⟨by omega, ?_⟩
        refine ⟨by omega, ?_⟩
        intro x15_2566 ex15_2566 rx15_2566
        have bx15_2566 : -1 ≤ x15_2566 ∧ x15_2566 ≤ 29 := by rw [ex15_2566]; exact (bx_s3 (show isS 1 by decide)).mp (hI.bx _ _)
        refine ⟨(by first | assumption | exact (by omega)), ?_⟩
        intro x17_2567 px17_2567 nx17_2567
        have bx17_2567 : 0 ≤ x17_2567 ∧ (x12_2565 - x15_2566 = x17_2567 ∨ x12_2565 - x15_2566 = -x17_2567) := by omega
        refine ⟨(by first | assumption | exact (by omega)), ?_⟩
        refine ⟨fun c => ?_, fun c => ?_⟩
        · exact ih _ _ _ _ hI (by omega) (by omega)
        · refine ⟨(by first | assumption | exact (by omega)), ?_⟩
          refine ⟨(by first | assumption | exact (by omega)), ?_⟩
          refine ⟨fun c => ?_, fun c => ?_⟩
          · exact ih _ _ _ _ hI (by omega) (by omega)
          · refine ⟨(by first | assumption | exact (by omega)), ?_⟩
            refine ⟨(by first | assumption | exact (by omega)), ?_⟩
            refine sX4_tellTwo (p1 := v2) (p3 := v3) hI  ?_
            intro M25_2572 hM25_2572
            exact ih _ _ _ _ hM25_2572 (by omega) (by omega)
      · refine sX6_hasEnded (p1 := v3) hI (show isS 1 by decide) (by omega) ?_
        intro x26_2574 q2575 q2576
        refine ⟨fun c => ?_, fun c => ?_⟩
        · unfold qX11_strangers_J78
          unfold qX11_strangers_J79
          refine ⟨by omega, ?_⟩
          refine ⟨by omega, ?_⟩
          intro x12_2578 ex12_2578 rx12_2578
          have bx12_2578 : -1 ≤ x12_2578 ∧ x12_2578 ≤ 29 := by rw [ex12_2578]; exact (bx_s3 (show isS 1 by decide)).mp (hI.bx _ _)
          refine ⟨by omega, ?_⟩
          refine ⟨by omega, ?_⟩
          intro x15_2579 ex15_2579 rx15_2579
          have bx15_2579 : -1 ≤ x15_2579 ∧ x15_2579 ≤ 29 := by rw [ex15_2579]; exact (bx_s3 (show isS 1 by decide)).mp (hI.bx _ _)
          refine ⟨(by first | assumption | exact (by omega)), ?_⟩
          intro x17_2580 px17_2580 nx17_2580
          have bx17_2580 : 0 ≤ x17_2580 ∧ (x12_2578 - x15_2579 = x17_2580 ∨ x12_2578 - x15_2579 = -x17_2580) := by omega
          refine ⟨(by first | assumption | exact (by omega)), ?_⟩
          refine ⟨fun c => ?_, fun c => ?_⟩
          · exact ih _ _ _ _ hI (by omega) (by omega)
          · refine ⟨(by first | assumption | exact (by omega)), ?_⟩
            refine ⟨(by first | assumption | exact (by omega)), ?_⟩
            refine ⟨fun c => ?_, fun c => ?_⟩
            · exact ih _ _ _ _ hI (by omega) (by omega)
            · refine ⟨(by first | assumption | exact (by omega)), ?_⟩
              refine ⟨(by first | assumption | exact (by omega)), ?_⟩
              refine sX4_tellTwo (p1 := v2) (p3 := v3) hI  ?_
              intro M25_2585 hM25_2585
              exact ih _ _ _ _ hM25_2585 (by omega) (by omega)
        · refine ⟨by omega, ?_⟩
          refine ⟨by omega, ?_⟩
          intro x30_2587 ex30_2587 rx30_2587
          have bx30_2587 : 0 ≤ x30_2587 ∧ x30_2587 ≤ 5 := by rw [ex30_2587]; exact (bx_s4 (show isS 1 by decide)).mp (hI.bx _ _)
          refine ⟨by omega, ?_⟩
          refine ⟨by omega, ?_⟩
          intro x33_2588 ex33_2588 rx33_2588
          have bx33_2588 : 0 ≤ x33_2588 ∧ x33_2588 ≤ 5 := by rw [ex33_2588]; exact (bx_s4 (show isS 1 by decide)).mp (hI.bx _ _)
          refine ⟨fun c => ?_, fun c => ?_⟩
          · unfold qX11_strangers_J78
            unfold qX11_strangers_J79
            refine ⟨by omega, ?_⟩
            refine ⟨by omega, ?_⟩
            intro x12_2590 ex12_2590 rx12_2590
            have bx12_2590 : -1 ≤ x12_2590 ∧ x12_2590 ≤ 29 := by rw [ex12_2590]; exact (bx_s3 (show isS 1 by decide)).mp (hI.bx _ _)
            refine ⟨by omega, ?_⟩
            refine ⟨by omega, ?_⟩
            intro x15_2591 ex15_2591 rx15_2591
            have bx15_2591 : -1 ≤ x15_2591 ∧ x15_2591 ≤ 29 := by rw [ex15_2591]; exact (bx_s3 (show isS 1 by decide)).mp (hI.bx _ _)
            refine ⟨(by first | assumption | exact (by omega)), ?_⟩
            intro x17_2592 px17_2592 nx17_2592
            have bx17_2592 : 0 ≤ x17_2592 ∧ (x12_2590 - x15_2591 = x17_2592 ∨ x12_2590 - x15_2591 = -x17_2592) := by omega
            refine ⟨(by first | assumption | exact (by omega)), ?_⟩
            refine ⟨fun c => ?_, fun c => ?_⟩
            · exact ih _ _ _ _ hI (by omega) (by omega)
            · refine ⟨(by first | assumption | exact (by omega)), ?_⟩
              refine ⟨(by first | assumption | exact (by omega)), ?_⟩
              refine ⟨fun c => ?_, fun c => ?_⟩
              · exact ih _ _ _ _ hI (by omega) (by omega)
              · refine ⟨(by first | assumption | exact (by omega)), ?_⟩
                refine ⟨(by first | assumption | exact (by omega)), ?_⟩
                refine sX4_tellTwo (p1 := v2) (p3 := v3) hI  ?_
                intro M25_2597 hM25_2597
                exact ih _ _ _ _ hM25_2597 (by omega) (by omega)
          · unfold qX11_strangers_J79
            refine ⟨by omega, ?_⟩
            refine ⟨by omega, ?_⟩
            intro x12_2599 ex12_2599 rx12_2599
            have bx12_2599 : -1 ≤ x12_2599 ∧ x12_2599 ≤ 29 := by rw [ex12_2599]; exact (bx_s3 (show isS 1 by decide)).mp (hI.bx _ _)
            refine ⟨by omega, ?_⟩
            refine ⟨by omega, ?_⟩
            intro x15_2600 ex15_2600 rx15_2600
            have bx15_2600 : -1 ≤ x15_2600 ∧ x15_2600 ≤ 29 := by rw [ex15_2600]; exact (bx_s3 (show isS 1 by decide)).mp (hI.bx _ _)
            refine ⟨(by first | assumption | exact (by omega)), ?_⟩
            intro x17_2601 px17_2601 nx17_2601
            have bx17_2601 : 0 ≤ x17_2601 ∧ (x12_2599 - x15_2600 = x17_2601 ∨ x12_2599 - x15_2600 = -x17_2601) := by omega
            refine ⟨(by first | assumption | exact (by omega)), ?_⟩
            refine ⟨fun c => ?_, fun c => ?_⟩
            · exact ih _ _ _ _ hI (by omega) (by omega)
            · refine ⟨(by first | assumption | exact (by omega)), ?_⟩
              refine ⟨(by first | assumption | exact (by omega)), ?_⟩
              refine ⟨fun c => ?_, fun c => ?_⟩
              · exact ih _ _ _ _ hI (by omega) (by omega)
              · refine ⟨(by first | assumption | exact (by omega)), ?_⟩
                refine ⟨(by first | assumption | exact (by omega)), ?_⟩
                refine sX4_tellTwo (p1 := v2) (p3 := v3) hI  ?_
                intro M25_2606 hM25_2606
                exact ih _ _ _ _ hM25_2606 (by omega) (by omega)
theorem sX11_strangers_L5  {X142 : Int → Mem → Prop} {Q : Int → Mem → Prop} (hQ : ∀ z : Int, ∀ M' : Mem, IX M' → Q z M') (hX142 : ∀ w1 : Int, ∀ M' : Mem, IX M' → (0 ≤ w1 ∧ w1 ≤ 30) → X142 w1 M') : ∀ (n : Nat) (v1 v2 : Int) (M : Mem), IX M → (0 ≤ v1 ∧ v1 ≤ 30 ∧ 0 ≤ v2 ∧ v2 ≤ 8) → 8 - v2 < (n : Int) → qX11_strangers_L5 X142 Q n v1 v2 M := by
  intro n
  induction n with
  | zero => intro v1 v2 M hI hv hm; exact absurd hm (by omega)
  | succ n ih =>
    intro v1 v2 M hI hv hm
    rw [qX11_strangers_L5]
    intro x1_2607 ex1_2607 rx1_2607
    have bx1_2607 : 0 ≤ x1_2607 ∧ x1_2607 ≤ 8 := by rw [ex1_2607]; exact (bx_s0_7 (show isS 1 by decide)).mp (hI.bx _ _)
    refine ⟨(by first | assumption | exact (by omega)), ?_⟩
    refine ⟨fun c => ?_, fun c => ?_⟩
    · exact hX142 _ _ hI (by omega)
    · refine ⟨9, ?_⟩
      refine sX11_strangers_L20 (g0 := v2) ?_ ?_ _ _ _ _ _ hI (by omega) (by omega)
      · exact hQ
      · intro v1_2610 v2_2611 M_2612 hM_2612 p2613
        exact ih _ _ _ hM_2612 (by omega) (by omega)
theorem sX11_strangers  {M : Mem} {Q : Int → Mem → Prop} (hI : IX M) (hQ : ∀ z : Int, ∀ M' : Mem, IX M' → Q z M') : qX11_strangers M Q := by
  unfold qX11_strangers
  refine ⟨9, ?_⟩
  refine sX11_strangers_L5 ?_ ?_ _ _ _ _ hI (by omega) (by omega)
  · exact hQ
  · intro v1_2614 M_2615 hM_2615 p2616
    refine ⟨(by first | assumption | exact (by omega)), ?_⟩
    refine ⟨fun c => ?_, fun c => ?_⟩
    · exact hQ _ _ hM_2615
    · exact hQ _ _ hM_2615
theorem sX6_isInDoubt {k0 : Nat} {p1 : Int} {M : Mem} {Q : Int → Mem → Prop} (hI : IX M) (hk0 : isS k0) (hp : 0 ≤ p1 ∧ p1 ≤ 7) (hQ : ∀ z : Int, Q z M) : qX6_isInDoubt k0 p1 M Q := by
  unfold qX6_isInDoubt
  have ek0 : 0 < k0 ∧ k0 < 155 ∧ (k0 - 1) % 7 = 0 := hk0
  refine ⟨by omega, ?_⟩
  refine ⟨by omega, ?_⟩
  intro x3_2619 ex3_2619 rx3_2619
  have bx3_2619 : -1 ≤ x3_2619 ∧ x3_2619 ≤ 29 := by rw [ex3_2619]; exact (bx_s3 hk0).mp (hI.bx _ _)
  refine sX6_nearestTo (p1 := x3_2619) hI hk0 (by omega) ?_
  intro x4_2620 p2621 q2622
  refine ⟨fun c => ?_, fun c => ?_⟩
  · refine ⟨by omega, ?_⟩
    refine ⟨by omega, ?_⟩
    intro x8_2624 ex8_2624 rx8_2624
    have bx8_2624 : -1 ≤ x8_2624 ∧ x8_2624 ≤ 29 := by rw [ex8_2624]; exact (bx_s1 hk0).mp (hI.bx _ _)
    refine ⟨(by first | assumption | exact (by omega)), ?_⟩
    refine ⟨fun c => ?_, fun c => ?_⟩
    · exact hQ _
    · intro x11_2627 ex11_2627 rx11_2627
      have bx11_2627 : -1 ≤ x11_2627 ∧ x11_2627 ≤ 29 := by rw [ex11_2627]; exact (bx_s1 hk0).mp (hI.bx _ _)
      refine ⟨fun c => ?_, fun c => ?_⟩
      · exact hQ _
      · refine sX6_hearseOn (p1 := 2 * x3_2619 - x8_2624) hI hk0 ?_
        intro x13_2630 p2631 q2632
        refine ⟨fun c => ?_, fun c => ?_⟩
        · exact hQ _
        · exact hQ _
  · exact hQ _
theorem sX11_doubts_L4  {X42 : Int → Mem → Prop} {Q : Int → Mem → Prop} (hQ : ∀ z : Int, ∀ M' : Mem, IX M' → Q z M') (hX42 : ∀ w1 : Int, ∀ M' : Mem, IX M' → iR w1 → X42 w1 M') : ∀ (n : Nat) (v1 v2 : Int) (M : Mem), IX M → (0 ≤ v2 ∧ v2 ≤ 8) → iR v1 → 8 - v2 < (n : Int) → qX11_doubts_L4 X42 Q n v1 v2 M := by
  intro n
  induction n with
  | zero => intro v1 v2 M hI hv hrv1 hm; exact absurd hm (by omega)
  | succ n ih =>
    intro v1 v2 M hI hv hrv1 hm
    rw [qX11_doubts_L4]
    intro x1_2636 ex1_2636 rx1_2636
    have bx1_2636 : 0 ≤ x1_2636 ∧ x1_2636 ≤ 8 := by rw [ex1_2636]; exact (bx_s0_7 (show isS 1 by decide)).mp (hI.bx _ _)
    refine ⟨(by first | assumption | exact (by omega)), ?_⟩
    refine ⟨fun c => ?_, fun c => ?_⟩
    · exact hX42 _ _ hI (by first | assumption | exact (by omega))
    · refine sX6_isInDoubt (p1 := v2) hI (show isS 1 by decide) (by omega) ?_
      intro x4_2639 q2640 q2641
      refine ⟨fun c => ?_, fun c => ?_⟩
      · intro x6_2643 ex6_2643 rx6_2643
        first | (have fx6_2643 := oI_64 (a := v1) (b := 0) (by omega) (by omega); rw [← ex6_2643] at fx6_2643) | skip
        exact ih _ _ _ hI (by omega) (by first | assumption | exact (by omega)) (by omega)
      · intro x7_2645 ex7_2645 rx7_2645
        first | (have fx7_2645 := slI_1 (b := v2) (by omega); rw [← ex7_2645] at fx7_2645) | skip
        intro x8_2646 ex8_2646 rx8_2646
        first | (have fx8_2646 := oI_64 (a := v1) (b := x7_2645) (by omega) (by omega); rw [← ex8_2646] at fx8_2646) | skip
        exact ih _ _ _ hI (by omega) (by first | assumption | exact (by omega)) (by omega)
theorem sX11_doubts  {M : Mem} {Q : Int → Mem → Prop} (hI : IX M) (hQ : ∀ z : Int, ∀ M' : Mem, IX M' → Q z M') : qX11_doubts M Q := by
  unfold qX11_doubts
  refine ⟨9, ?_⟩
  refine sX11_doubts_L4 ?_ ?_ _ _ _ _ hI (by omega) (by first | assumption | exact (by omega)) (by omega)
  · exact hQ
  · intro v1_2647 M_2648 hM_2648 r2649
    refine ⟨(by first | assumption | exact (by omega)), ?_⟩
    refine sJ6_bitCount_0f7a4 (p0 := v1_2647) hM_2648  ?_
    intro x11_2650 p2651 q2652
    refine sX4_tellOne (p1 := x11_2650) hM_2648  ?_
    intro M12_2653 hM12_2653
    exact hQ _ _ hM12_2653
theorem sX0_isOneTrueOf {k1 : Nat} {p2 : Int} {p3 : Int} {M : Mem} {Q : Int → Mem → Prop} (hI : IX M) (hk1 : isS k1) (hp : 0 ≤ p3 ∧ p3 ≤ 7 ∧ 0 ≤ p2 ∧ p2 ≤ 5) (hQ : ∀ z : Int, Q z M) : qX0_isOneTrueOf k1 p2 p3 M Q := by
  unfold qX0_isOneTrueOf
  have ek1 : 0 < k1 ∧ k1 < 155 ∧ (k1 - 1) % 7 = 0 := hk1
  refine ⟨by omega, ?_⟩
  refine ⟨by omega, ?_⟩
  intro x3_2698 ex3_2698 rx3_2698
  have bx3_2698 : -2147483648 ≤ x3_2698 ∧ x3_2698 ≤ 2147483647 := rx3_2698
  refine ⟨fun c => ?_, fun c => ?_, fun c => ?_, fun c => ?_⟩
  · refine sX6_bitsOf (p2 := p2) hI hk1 ?_
    intro x5_2700 q2701
    refine sJ6_bitCount_0f7a4 (p0 := x5_2700) hI  ?_
    intro x6_2702 p2703 q2704
    intro x7_2705 ex7_2705 rx7_2705
    have bx7_2705 : -2147483648 ≤ x7_2705 ∧ x7_2705 ≤ 2147483647 := rx7_2705
    refine ⟨fun c => ?_, fun c => ?_⟩
    · exact hQ _
    · exact hQ _
  · refine ⟨by omega, ?_⟩
    refine ⟨by omega, ?_⟩
    intro x11_2709 ex11_2709 rx11_2709
    have bx11_2709 : -2147483648 ≤ x11_2709 ∧ x11_2709 ≤ 2147483647 := rx11_2709
    intro x12_2710 ex12_2710 rx12_2710
    have bx12_2710 : -2147483648 ≤ x12_2710 ∧ x12_2710 ≤ 2147483647 := rx12_2710
    refine ⟨fun c => ?_, fun c => ?_⟩
    · exact hQ _
    · exact hQ _
  · refine sX6_bitsOf (p2 := p2) hI hk1 ?_
    intro x14_2714 q2715
    refine sJ6_bitCount_0f7a4 (p0 := x14_2714) hI  ?_
    intro x15_2716 p2717 q2718
    intro x16_2719 ex16_2719 rx16_2719
    have bx16_2719 : -2147483648 ≤ x16_2719 ∧ x16_2719 ≤ 2147483647 := rx16_2719
    refine ⟨fun c => ?_, fun c => ?_⟩
    · exact hQ _
    · exact hQ _
  · intro x18_2723 ex18_2723 rx18_2723
    first | (have fx18_2723 := rmI_b (a := p2) (b := 2) (by omega) (by omega); rw [← ex18_2723] at fx18_2723) | skip
    intro x19_2724 ex19_2724 rx19_2724
    have bx19_2724 : -2147483648 ≤ x19_2724 ∧ x19_2724 ≤ 2147483647 := rx19_2724
    refine ⟨fun c => ?_, fun c => ?_⟩
    · exact hQ _
    · exact hQ _
theorem sX0_isTrueOf_L2 {k1 : Nat} {p2 : Int}  {Q : Int → Mem → Prop} {M0 : Mem} (hk1 : isS k1) (hp : 0 ≤ p2 ∧ p2 ≤ 5) (hQ : ∀ z : Int, Q z M0) : ∀ (n : Nat) (v3 : Int), IX M0 → (0 ≤ v3 ∧ v3 ≤ 8) → 8 - v3 < (n : Int) → qX0_isTrueOf_L2 k1 p2 Q n v3 M0 := by
  intro n
  induction n with
  | zero => intro v3 hI hv hm; exact absurd hm (by omega)
  | succ n ih =>
    intro v3 hI hv hm
    rw [qX0_isTrueOf_L2]
    have ek1 : 0 < k1 ∧ k1 < 155 ∧ (k1 - 1) % 7 = 0 := hk1
    intro x1_2727 ex1_2727 rx1_2727
    have bx1_2727 : 0 ≤ x1_2727 ∧ x1_2727 ≤ 8 := by rw [ex1_2727]; exact (bx_c182_2).mp (hI.bx _ _)
    refine ⟨(by first | assumption | exact (by omega)), ?_⟩
    refine ⟨fun c => ?_, fun c => ?_⟩
    · exact hQ _
    · refine sX0_isOneTrueOf (p2 := p2) (p3 := v3) hI hk1 (by omega) ?_
      intro x4_2730 q2731 q2732
      refine ⟨fun c => ?_, fun c => ?_⟩
      · exact ih _ hI (by omega) (by omega)
      · exact hQ _
theorem sX0_isTrueOf {k1 : Nat} {p2 : Int} {M : Mem} {Q : Int → Mem → Prop} (hI : IX M) (hk1 : isS k1) (hp : 0 ≤ p2 ∧ p2 ≤ 5) (hQ : ∀ z : Int, Q z M) : qX0_isTrueOf k1 p2 M Q := by
  unfold qX0_isTrueOf
  have ek1 : 0 < k1 ∧ k1 < 155 ∧ (k1 - 1) % 7 = 0 := hk1
  refine ⟨9, ?_⟩
  refine sX0_isTrueOf_L2 hk1 hp ?_ _ _ hI (by omega) (by omega)
  · exact hQ
theorem sX11_fits_L33  {X75 : Int → Mem → Prop} {Q : Int → Mem → Prop} (hQ : ∀ z : Int, ∀ M' : Mem, IX M' → Q z M') (hX75 : ∀ w1 : Int, ∀ M' : Mem, IX M' → iR w1 → X75 w1 M') : ∀ (n : Nat) (v1 v2 : Int) (M : Mem), IX M → (0 ≤ v2 ∧ v2 ≤ 6) → iR v1 → 6 - v2 < (n : Int) → qX11_fits_L33 X75 Q n v1 v2 M := by
  intro n
  induction n with
  | zero => intro v1 v2 M hI hv hrv1 hm; exact absurd hm (by omega)
  | succ n ih =>
    intro v1 v2 M hI hv hrv1 hm
    rw [qX11_fits_L33]
    intro x4_2735 ex4_2735 rx4_2735
    have bx4_2735 : 0 ≤ x4_2735 ∧ x4_2735 ≤ 6 := by rw [ex4_2735]; exact (bx_s0_6 (show isS 8 by decide)).mp (hI.bx _ _)
    refine ⟨(by first | assumption | exact (by omega)), ?_⟩
    refine ⟨fun c => ?_, fun c => ?_⟩
    · exact hX75 _ _ hI (by first | assumption | exact (by omega))
    · refine sX0_isTrueOf (p2 := v2) hI (show isS 8 by decide) (by omega) ?_
      intro x7_2738 q2739 q2740
      refine ⟨fun c => ?_, fun c => ?_⟩
      · intro x9_2742 ex9_2742 rx9_2742
        first | (have fx9_2742 := oI_64 (a := v1) (b := 0) (by omega) (by omega); rw [← ex9_2742] at fx9_2742) | skip
        exact ih _ _ _ hI (by omega) (by first | assumption | exact (by omega)) (by omega)
      · intro x10_2744 ex10_2744 rx10_2744
        first | (have fx10_2744 := slI_1 (b := v2) (by omega); rw [← ex10_2744] at fx10_2744) | skip
        intro x11_2745 ex11_2745 rx11_2745
        first | (have fx11_2745 := oI_64 (a := v1) (b := x10_2744) (by omega) (by omega); rw [← ex11_2745] at fx11_2745) | skip
        exact ih _ _ _ hI (by omega) (by first | assumption | exact (by omega)) (by omega)
theorem sX11_fits  {M : Mem} {Q : Int → Mem → Prop} (hI : IX M) (hQ : ∀ z : Int, ∀ M' : Mem, IX M' → Q z M') : qX11_fits M Q := by
  unfold qX11_fits
  refine sX6_copyFrom  hI (show isS 8 by decide) (show isS 1 by decide) ?_
  intro M1_2746 hM1_2746 gM1_2746
  refine ⟨(hM1_2746).l16, ?_⟩
  refine sX10_walk (p3 := 200) hM1_2746 (show isS 8 by decide) (hM1_2746).l16 (by omega) ?_
  intro M3_2747 hM3_2747
  refine ⟨7, ?_⟩
  refine sX11_fits_L33 ?_ ?_ _ _ _ _ hM3_2747 (by omega) (by first | assumption | exact (by omega)) (by omega)
  · exact hQ
  · intro v1_2748 M_2749 hM_2749 r2750
    refine ⟨(by first | assumption | exact (by omega)), ?_⟩
    refine sJ6_bitCount_0f7a4 (p0 := v1_2748) hM_2749  ?_
    intro x14_2751 p2752 q2753
    refine sX4_tellOne (p1 := x14_2751) hM_2749  ?_
    intro M15_2754 hM15_2754
    exact hQ _ _ hM15_2754
theorem sX11_power_L5 {p0 : Int} {p2 : Int}  {Q : Int → Mem → Prop} {M0 : Mem} (hp : p2 ≤ 12) (hQ : ∀ z : Int, Q z M0) : ∀ (n : Nat) (v3 v5 : Int), IX M0 → (0 ≤ v5 ∧ v5 ≤ 12) → lR v3 → 12 - v5 < (n : Int) → qX11_power_L5 p0 p2 Q n v3 v5 M0 := by
  intro n
  induction n with
  | zero => intro v3 v5 hI hv hrv3 hm; exact absurd hm (by omega)
  | succ n ih =>
    intro v3 v5 hI hv hrv3 hm
    rw [qX11_power_L5]
    refine ⟨(by first | assumption | exact (by omega)), ?_⟩
    refine ⟨fun c => ?_, fun c => ?_⟩
    · refine ⟨(by first | assumption | exact (by omega) | exact iR_lR (by first | assumption | exact (by omega))), ?_⟩
      exact hQ _
    · intro x4_2763 ex4_2763 rx4_2763
      exact ih _ _ hI (by omega) (by first | assumption | exact (by omega) | exact iR_lR (by assumption)) (by omega)
theorem sX11_power {p0 : Int} {p2 : Int} {M : Mem} {Q : Int → Mem → Prop} (hI : IX M) (hp : p2 ≤ 12) (hQ : ∀ z : Int, Q z M) : qX11_power p0 p2 M Q := by
  unfold qX11_power
  refine ⟨13, ?_⟩
  refine sX11_power_L5 hp ?_ _ _ _ hI (by omega) (by first | assumption | exact (by omega) | exact iR_lR (by assumption)) (by omega)
  · exact hQ
theorem sX11_rains_L42 {p1 : Int} {p2 : Int} {p3 : Int} {X112 : Int → Mem → Prop} {Q : Int → Mem → Prop} (hQ : ∀ z : Int, ∀ M' : Mem, IX M' → Q z M') (hX112 : ∀ w1 : Int, ∀ M' : Mem, IX M' → lR w1 → X112 w1 M') : ∀ (n : Nat) (v4 v6 v8 : Int) (M : Mem), IX M → (0 ≤ v8 ∧ v8 ≤ 12 ∧ 1 ≤ p1 ∧ p1 ≤ 12) → lR v4 → lR v6 → 12 - v8 < (n : Int) → qX11_rains_L42 p1 p2 p3 X112 Q n v4 v6 v8 M := by
  intro n
  induction n with
  | zero => intro v4 v6 v8 M hI hv hrv4 hrv6 hm; exact absurd hm (by omega)
  | succ n ih =>
    intro v4 v6 v8 M hI hv hrv4 hrv6 hm
    rw [qX11_rains_L42]
    refine ⟨(by first | assumption | exact (by omega)), ?_⟩
    refine ⟨fun c => ?_, fun c => ?_⟩
    · exact hX112 _ _ hI (by first | assumption | exact (by omega) | exact iR_lR (by assumption))
    · refine ⟨(by first | assumption | exact (by omega)), ?_⟩
      refine ⟨fun c => ?_, fun c => ?_⟩
      · unfold qX11_rains_J88
        intro x11_2767 ex11_2767 rx11_2767
        first | (have fx11_2767 : x11_2767 = p1 - 1 := by rw [ex11_2767]; exact w32_id (by omega)) | skip
        intro x12_2768 ex12_2768 rx12_2768
        first | (have fx12_2768 : x12_2768 = x11_2767 - v8 := by rw [ex12_2768]; exact w32_id (by omega)) | skip
        intro x13_2769 ex13_2769 rx13_2769
        refine ⟨(by first | assumption | exact (by omega)), ?_⟩
        refine ⟨by omega, ?_⟩
        intro x16_2770 ex16_2770 rx16_2770
        exact ih _ _ _ _ hI (by omega) (by first | assumption | exact (by omega) | exact iR_lR (by assumption)) (by first | assumption | exact (by omega) | exact iR_lR (by assumption)) (by omega)
      · refine sX11_power (p0 := p3) (p2 := v8 + 1) hI (by omega) ?_
        intro x17_2772 q2773
        intro x18_2774 ex18_2774 rx18_2774
        intro x19_2775 ex19_2775 rx19_2775
        first | (have fx19_2775 : x19_2775 = 10 - p3 := by rw [ex19_2775]; exact w32_id (by omega)) | skip
        intro x20_2776 ex20_2776 rx20_2776
        first | (have fx20_2776 : x20_2776 = p1 - 1 := by rw [ex20_2776]; exact w32_id (by omega)) | skip
        intro x21_2777 ex21_2777 rx21_2777
        first | (have fx21_2777 : x21_2777 = x20_2776 - v8 := by rw [ex21_2777]; exact w32_id (by omega)) | skip
        refine sX11_power (p0 := x19_2775) (p2 := x21_2777) hI (by omega) ?_
        intro x22_2778 q2779
        intro x23_2780 ex23_2780 rx23_2780
        intro x24_2781 ex24_2781 rx24_2781
        unfold qX11_rains_J88
        intro x11_2782 ex11_2782 rx11_2782
        first | (have fx11_2782 : x11_2782 = p1 - 1 := by rw [ex11_2782]; exact w32_id (by omega)) | skip
        intro x12_2783 ex12_2783 rx12_2783
        first | (have fx12_2783 : x12_2783 = x11_2782 - v8 := by rw [ex12_2783]; exact w32_id (by omega)) | skip
        intro x13_2784 ex13_2784 rx13_2784
        refine ⟨(by first | assumption | exact (by omega)), ?_⟩
        refine ⟨by omega, ?_⟩
        intro x16_2785 ex16_2785 rx16_2785
        exact ih _ _ _ _ hI (by omega) (by first | assumption | exact (by omega) | exact iR_lR (by assumption)) (by first | assumption | exact (by omega) | exact iR_lR (by assumption)) (by omega)
