theorem sX12_hearses_L81  {X135 : Mem → Prop} {Q : Int → Mem → Prop} {b : Int} (hb : b + 1 ≤ 2000000000) (hQ : ∀ z : Int, ∀ M' : Mem, IM (b + 1) M' → Q z M') (hX135 : ∀ M' : Mem, IM (b) M' → X135 M') : ∀ (n : Nat) (v5 : Int) (M : Mem), IM (b) M → (0 ≤ v5 ∧ v5 ≤ 8 ∧ M 1 4 + M 1 20 - v5 ≤ 6) → 8 - v5 < (n : Int) → qX12_hearses_L81 X135 Q n v5 M := by
  intro n
  induction n with
  | zero => intro v5 M hI hv hm; exact absurd hm (by omega)
  | succ n ih =>
    intro v5 M hI hv hm
    rw [qX12_hearses_L81]
    have hbn := hI.nn
    have u461 : 0 ≤ M 1 4 ∧ M 1 4 ≤ 6 := bm_c1_4.mp (hI.bx _ _)
    have u462 : 0 ≤ M 1 20 ∧ M 1 20 ≤ 8 := bm_c1_20.mp (hI.bx _ _)
    intro x16_463 ex16_463 rx16_463
    have bx16_463 : 0 ≤ x16_463 ∧ x16_463 ≤ 8 := by rw [ex16_463]; exact bm_c1_20.mp (hI.bx _ _)
    refine ⟨(by first | assumption | exact ⟨by omega, by omega⟩), ?_⟩
    refine ⟨fun c => ?_, fun c => ?_⟩
    · have u465 : 0 ≤ M 1 4 ∧ M 1 4 ≤ 6 := bm_c1_4.mp (hI.bx _ _)
      have u466 : 0 ≤ M 1 20 ∧ M 1 20 ≤ 8 := bm_c1_20.mp (hI.bx _ _)
      exact hX135 _ (hI.mono (by omega))
    · intro x19_468 ex19_468 rx19_468
      have bx19_468 : 0 ≤ x19_468 ∧ x19_468 ≤ 6 := by rw [ex19_468]; exact bm_c1_4.mp (hI.bx _ _)
      refine ⟨by omega, ?_⟩
      refine ⟨by omega, ?_⟩
      intro x22_469 ex22_469 rx22_469
      have bx22_469 : -1 ≤ x22_469 ∧ x22_469 ≤ 29 := by rw [ex22_469]; exact bm_c9.mp (hI.bx _ _)
      refine ⟨by omega, ?_⟩
      refine ⟨by omega, ?_⟩
      intro M25_470 h_M25_470
      have hM25_470 : IM (b) M25_470 := by rw [h_M25_470]; exact hI.up (by omega) ((bm_n (Or.inl rfl)).mpr (by first | assumption | exact ⟨by omega, by omega, by omega, by omega⟩))
      intro x26_471 ex26_471 rx26_471
      have bx26_471 : 0 ≤ x26_471 ∧ x26_471 ≤ 6 := by rw [ex26_471]; exact bm_c1_4.mp (hM25_470.bx _ _)
      have fx26_471 : x26_471 = M 1 4 := by rw [ex26_471, h_M25_470, up2_n (by decide)]
      refine ⟨by omega, ?_⟩
      refine ⟨by omega, ?_⟩
      intro M29_472 h_M29_472
      have hM29_472 : IM (b) M29_472 := by rw [h_M29_472]; exact hM25_470.up (by omega) ((bm_n (Or.inl rfl)).mpr (by first | assumption | exact ⟨by omega, by omega, by omega, by omega⟩))
      intro x30_473 ex30_473 rx30_473
      have bx30_473 : 0 ≤ x30_473 ∧ x30_473 ≤ 6 := by rw [ex30_473]; exact bm_c1_4.mp (hM29_472.bx _ _)
      have fx30_473 : x30_473 = M 1 4 := by rw [ex30_473, h_M29_472, up2_n (by decide), h_M25_470, up2_n (by decide)]
      refine ⟨(by first | assumption | exact ⟨by omega, by omega⟩), ?_⟩
      intro M32_474 h_M32_474
      have hM32_474 : IM (b) M32_474 := by rw [h_M32_474]; exact hM29_472.up (by omega) (bm_c1_4.mpr ⟨by omega, by omega⟩)
      have u475 : 0 ≤ M32_474 1 4 ∧ M32_474 1 4 ≤ 6 := bm_c1_4.mp (hM32_474.bx _ _)
      have u476 : 0 ≤ M32_474 1 20 ∧ M32_474 1 20 ≤ 8 := bm_c1_20.mp (hM32_474.bx _ _)
      have t477 : M32_474 1 4 = x30_473 + 1 := by rw [h_M32_474, up2_s]
      have t478 : M32_474 1 20 = M 1 20 := by rw [h_M32_474, up2_j (by decide), h_M29_472, up2_n (by decide), h_M25_470, up2_n (by decide)]
      exact ih _ _ (hM32_474.mono (by omega)) (by omega) (by omega)
theorem sX12_hearses  {b : Int} {M : Mem} {Q : Int → Mem → Prop} (hI : IM b M) (hb : b + 1 ≤ 2000000000) (hQ : ∀ z : Int, ∀ M' : Mem, IM (b + 1) M' → Q z M') : qX12_hearses M Q := by
  unfold qX12_hearses
  have hbn := hI.nn
  intro M1_479 h_M1_479
  have hM1_479 : IM (b) M1_479 := by rw [h_M1_479]; exact hI.up (by omega) (by simp [BM])
  refine sX12_begins (p1 := 17) hM1_479 (by omega) ?_
  intro x2_480 M2_481 hM2_481 gM2_481 p482 q483
  first | (have t484 : M2_481 1 4 = M1_479 1 4 := gM2_481 1 4 (by omega)) | skip
  first | (have t485 : M2_481 1 20 = M1_479 1 20 := gM2_481 1 20 (by omega)) | skip
  first | (have t486 : M2_481 1 4 = M1_479 1 4 := gM2_481 1 4 (by omega)) | skip
  first | (have t487 : M2_481 1 20 = M1_479 1 20 := gM2_481 1 20 (by omega)) | skip
  intro M3_488 h_M3_488
  have hM3_488 : IM (b) M3_488 := by rw [h_M3_488]; exact hM2_481.up (by omega) (bm_c1_20.mpr ⟨by omega, by omega⟩)
  refine ⟨fun c => ?_, fun c => ?_⟩
  · refine ⟨10, ?_⟩
    have u490 : 0 ≤ M3_488 1 4 ∧ M3_488 1 4 ≤ 6 := bm_c1_4.mp (hM3_488.bx _ _)
    have u491 : 0 ≤ M3_488 1 20 ∧ M3_488 1 20 ≤ 8 := bm_c1_20.mp (hM3_488.bx _ _)
    have t492 : M3_488 1 4 = M2_481 1 4 := by rw [h_M3_488, up2_j (by decide)]
    have t493 : M3_488 1 20 = 0 := by rw [h_M3_488, up2_s]
    refine sX12_hearses_L29 (b := b)  hb ?_ ?_ _ _ _ _ _ (hM3_488.mono (by omega)) (by omega) (by omega)
    · exact hQ
    · intro v1_494 v2_495 M_496 hM_496 p497
      refine ⟨(by first | assumption | exact ⟨by omega, by omega⟩), ?_⟩
      refine ⟨(by first | assumption | exact ⟨by omega, by omega⟩), ?_⟩
      refine sX12_faultOf (p1 := v1_494) (p2 := 17) (p3 := v2_495) hM_496 (by omega) ?_
      intro x14_498 p499 q500
      refine ⟨fun c => ?_, fun c => ?_⟩
      · refine ⟨9, ?_⟩
        have u502 : 0 ≤ M_496 1 4 ∧ M_496 1 4 ≤ 6 := bm_c1_4.mp (hM_496.bx _ _)
        have u503 : 0 ≤ M_496 1 20 ∧ M_496 1 20 ≤ 8 := bm_c1_20.mp (hM_496.bx _ _)
        refine sX12_hearses_L81 (b := b)  hb ?_ ?_ _ _ _ (hM_496.mono (by omega)) (by omega) (by omega)
        · exact hQ
        · intro M_504 hM_504
          refine sX12_isNew  hM_504 (by omega) ?_
          intro x34_505 M34_506 hM34_506 q507
          exact hQ _ _ (hM34_506.mono (by omega))
      · exact hQ _ _ (hM_496.mono (by omega))
  · refine ⟨10, ?_⟩
    have u510 : 0 ≤ M3_488 1 4 ∧ M3_488 1 4 ≤ 6 := bm_c1_4.mp (hM3_488.bx _ _)
    have u511 : 0 ≤ M3_488 1 20 ∧ M3_488 1 20 ≤ 8 := bm_c1_20.mp (hM3_488.bx _ _)
    have t512 : M3_488 1 4 = M2_481 1 4 := by rw [h_M3_488, up2_j (by decide)]
    have t513 : M3_488 1 20 = 0 := by rw [h_M3_488, up2_s]
    refine sX12_hearses_L29 (b := b)  hb ?_ ?_ _ _ _ _ _ (hM3_488.mono (by omega)) (by omega) (by omega)
    · exact hQ
    · intro v1_514 v2_515 M_516 hM_516 p517
      refine ⟨(by first | assumption | exact ⟨by omega, by omega⟩), ?_⟩
      refine ⟨(by first | assumption | exact ⟨by omega, by omega⟩), ?_⟩
      refine sX12_faultOf (p1 := v1_514) (p2 := 17) (p3 := v2_515) hM_516 (by omega) ?_
      intro x38_518 p519 q520
      refine ⟨fun c => ?_, fun c => ?_⟩
      · refine ⟨9, ?_⟩
        have u522 : 0 ≤ M_516 1 4 ∧ M_516 1 4 ≤ 6 := bm_c1_4.mp (hM_516.bx _ _)
        have u523 : 0 ≤ M_516 1 20 ∧ M_516 1 20 ≤ 8 := bm_c1_20.mp (hM_516.bx _ _)
        refine sX12_hearses_L81 (b := b)  hb ?_ ?_ _ _ _ (hM_516.mono (by omega)) (by omega) (by omega)
        · exact hQ
        · intro M_524 hM_524
          refine sX12_isNew  hM_524 (by omega) ?_
          intro x41_525 M41_526 hM41_526 q527
          exact hQ _ _ (hM41_526.mono (by omega))
      · exact hQ _ _ (hM_516.mono (by omega))
theorem sX12_mourners  {b : Int} {M : Mem} {Q : Int → Mem → Prop} (hI : IM b M) (hb : b + 1 ≤ 2000000000) (hQ : ∀ z : Int, Q z M) : qX12_mourners M Q := sorry
theorem sX12_weather_L14  {X44 : Int → Mem → Prop} {Q : Int → Mem → Prop} {b : Int} (hQ : ∀ z : Int, ∀ M' : Mem, IM b M' → Q z M') (hX44 : ∀ w1 : Int, ∀ M' : Mem, IM (b) M' → (0 ≤ w1 ∧ w1 ≤ 20) → X44 w1 M') : ∀ (n : Nat) (v1 : Int) (M : Mem), IM (b) M → (0 ≤ v1 ∧ v1 ≤ 20) → 20 - v1 < (n : Int) → qX12_weather_L14 X44 Q n v1 M := by
  intro n
  induction n with
  | zero => intro v1 M hI hv hm; exact absurd hm (by omega)
  | succ n ih =>
    intro v1 M hI hv hm
    rw [qX12_weather_L14]
    have hbn := hI.nn
    refine ⟨(by first | assumption | exact ⟨by omega, by omega⟩), ?_⟩
    refine ⟨fun c => ?_, fun c => ?_⟩
    · exact hX44 _ _ (hI.mono (by omega)) (by omega)
    · refine sX12_isDigit  hI  ?_
      intro x5_531 p532 q533 q534
      refine ⟨fun c => ?_, fun c => ?_⟩
      · exact hX44 _ _ (hI.mono (by omega)) (by omega)
      · refine sX12_number (p1 := 1) hI (by omega) ?_
        intro x7_537 M7_538 hM7_538 gM7_538 p539 q540
        refine ⟨by omega, ?_⟩
        refine ⟨by omega, ?_⟩
        intro M10_541 h_M10_541
        have hM10_541 : IM (b) M10_541 := by rw [h_M10_541]; exact hM7_538.up (by omega) (by simp [BM])
        exact ih _ _ (hM10_541.mono (by omega)) (by omega) (by omega)
theorem sX12_weather_L73   {Q : Int → Mem → Prop} {b : Int} (hQ : ∀ z : Int, ∀ M' : Mem, IM b M' → Q z M') : ∀ (n : Nat) (v1 v2 : Int) (M : Mem), IM (b) M → (1 ≤ v1 ∧ v1 ≤ 20 ∧ 0 ≤ v2 ∧ v2 ≤ 20) → 20 - v2 < (n : Int) → qX12_weather_L73 Q n v1 v2 M := by
  intro n
  induction n with
  | zero => intro v1 v2 M hI hv hm; exact absurd hm (by omega)
  | succ n ih =>
    intro v1 v2 M hI hv hm
    rw [qX12_weather_L73]
    have hbn := hI.nn
    refine ⟨(by first | assumption | exact ⟨by omega, by omega⟩), ?_⟩
    refine ⟨(by first | assumption | exact ⟨by omega, by omega⟩), ?_⟩
    refine ⟨fun c => ?_, fun c => ?_⟩
    · exact hQ _ _ (hI.mono (by omega))
    · refine ⟨by omega, ?_⟩
      refine ⟨by omega, ?_⟩
      intro x25_544 ex25_544 rx25_544
      have bx25_544 : -2147483648 ≤ x25_544 ∧ x25_544 ≤ 2147483647 := rx25_544
      intro M26_545 h_M26_545
      have hM26_545 : IM (b) M26_545 := by rw [h_M26_545]; exact hI.up (by omega) (by simp [BM])
      exact ih _ _ _ (hM26_545.mono (by omega)) (by omega) (by omega)
theorem sX12_weather  {b : Int} {M : Mem} {Q : Int → Mem → Prop} (hI : IM b M) (hQ : ∀ z : Int, ∀ M' : Mem, IM b M' → Q z M') : qX12_weather M Q := by
  unfold qX12_weather
  have hbn := hI.nn
  intro M1_546 h_M1_546
  have hM1_546 : IM (b) M1_546 := by rw [h_M1_546]; exact hI.up (by omega) (by simp [BM])
  refine sX12_begins (p1 := 80) hM1_546 (by omega) ?_
  intro x2_547 M2_548 hM2_548 gM2_548 p549 q550
  refine ⟨21, ?_⟩
  refine sX12_weather_L14 (b := b)  ?_ ?_ _ _ _ (hM2_548.mono (by omega)) (by omega) (by omega)
  · exact hQ
  · intro v1_551 M_552 hM_552 p553
    unfold qX12_weather_J44
    refine ⟨(by first | assumption | exact ⟨by omega, by omega⟩), ?_⟩
    refine ⟨fun c => ?_, fun c => ?_⟩
    · intro x14_555 ex14_555 rx14_555
      have bx14_555 : 0 ≤ x14_555 ∧ x14_555 ≤ 80 := by rw [ex14_555]; exact bm_c1_15.mp (hM_552.bx _ _)
      refine ⟨(by first | assumption | exact ⟨by omega, by omega⟩), ?_⟩
      exact hQ _ _ (hM_552.mono (by omega))
    · intro x16_557 ex16_557 rx16_557
      have bx16_557 : 0 ≤ x16_557 ∧ x16_557 ≤ 80 := by rw [ex16_557]; exact bm_c1_15.mp (hM_552.bx _ _)
      intro x17_558 ex17_558 rx17_558
      have bx17_558 : 0 ≤ x17_558 ∧ x17_558 ≤ 80 := by rw [ex17_558]; exact bm_c1_16.mp (hM_552.bx _ _)
      refine ⟨fun c => ?_, fun c => ?_⟩
      · intro M19_560 h_M19_560
        have hM19_560 : IM (b) M19_560 := by rw [h_M19_560]; exact hM_552.up (by omega) (bm_c1_7.mpr ⟨by omega, by omega⟩)
        refine ⟨21, ?_⟩
        refine sX12_weather_L73 (b := b)  ?_ _ _ _ _ (hM19_560.mono (by omega)) (by omega) (by omega)
        · exact hQ
      · intro x28_562 ex28_562 rx28_562
        have bx28_562 : 0 ≤ x28_562 ∧ x28_562 ≤ 80 := by rw [ex28_562]; exact bm_c1_15.mp (hM_552.bx _ _)
        refine ⟨(by first | assumption | exact ⟨by omega, by omega⟩), ?_⟩
        exact hQ _ _ (hM_552.mono (by omega))
theorem sX12_laysCode {k1 : Nat} {p2 : Int} {b : Int} {M : Mem} {Q : Mem → Prop} (hI : IM b M) (hQ : Q M) : qX12_laysCode k1 p2 M Q := sorry
theorem sX12_readsRule  {b : Int} {M : Mem} {Q : Int → Mem → Prop} (hI : IM b M) (hQ : ∀ z : Int, (-100 ≤ z ∧ z ≤ 0) → Q z M) : qX12_readsRule M Q := sorry
theorem sX12_rule  {b : Int} {M : Mem} {Q : Int → Mem → Prop} (hI : IM b M) (hQ : ∀ z : Int, Q z M) : qX12_rule M Q := sorry
theorem sX12_bitsBy_L6 {k1 : Nat} {p2 : Int} {p3 : Int}  {Q : Int → Mem → Prop} {b : Int} {M0 : Mem} (hk1 : isN k1) (hp : 0 ≤ p2 ∧ p2 ≤ 29) (hQ : ∀ z : Int, Q z M0) : ∀ (n : Nat) (v4 v5 : Int), IM (b) M0 → (0 ≤ v5 ∧ v5 ≤ 8) → iR v4 → 8 - v5 < (n : Int) → qX12_bitsBy_L6 k1 p2 p3 Q n v4 v5 M0 := by
  intro n
  induction n with
  | zero => intro v4 v5 hI hv hrv4 hm; exact absurd hm (by omega)
  | succ n ih =>
    intro v4 v5 hI hv hrv4 hm
    rw [qX12_bitsBy_L6]
    have hbn := hI.nn
    have ek1 : k1 = 5 ∨ k1 = 6 := hk1
    intro x1_563 ex1_563 rx1_563
    have bx1_563 : 0 ≤ x1_563 ∧ x1_563 ≤ 8 := by rw [ex1_563]; exact bm_c1_5.mp (hI.bx _ _)
    refine ⟨(by first | assumption | exact ⟨by omega, by omega⟩), ?_⟩
    refine ⟨fun c => ?_, fun c => ?_⟩
    · refine ⟨(by first | assumption | exact ⟨by omega, by omega⟩), ?_⟩
      exact hQ _
    · refine ⟨by omega, ?_⟩
      refine ⟨by omega, ?_⟩
      intro x7_566 ex7_566 rx7_566
      have rbx7_566 : -2147483648 ≤ x7_566 ∧ x7_566 ≤ 2147483647 := rx7_566
      have nbx7_566 : BN (b) (p2 + v5) x7_566 := by rw [ex7_566]; exact (bm_n hk1).mp (hI.bx _ _)
      first | (have bx7_566 : -1 ≤ x7_566 ∧ x7_566 ≤ 29 := nbx7_566.1 ⟨by omega, by omega⟩) | (have bx7_566 : -1 ≤ x7_566 ∧ x7_566 ≤ 29 := nbx7_566.2.1 ⟨by omega, by omega⟩) | skip
      refine ⟨fun c => ?_, fun c => ?_⟩
      · intro x9_568 ex9_568 rx9_568
        first | (have fx9_568 := oI_64 (a := v4) (b := 0) ⟨by omega, by omega⟩ ⟨by omega, by omega⟩; rw [← ex9_568] at fx9_568) | skip
        exact ih _ _ (hI.mono (by omega)) (by omega) (by first | assumption | exact ⟨by omega, by omega⟩) (by omega)
      · intro x10_570 ex10_570 rx10_570
        first | (have fx10_570 := slI_1 (b := v5) ⟨by omega, by omega⟩; rw [← ex10_570] at fx10_570) | skip
        intro x11_571 ex11_571 rx11_571
        first | (have fx11_571 := oI_64 (a := v4) (b := x10_570) ⟨by omega, by omega⟩ ⟨by omega, by omega⟩; rw [← ex11_571] at fx11_571) | skip
        exact ih _ _ (hI.mono (by omega)) (by omega) (by first | assumption | exact ⟨by omega, by omega⟩) (by omega)
theorem sX12_bitsBy {k1 : Nat} {p2 : Int} {p3 : Int} {b : Int} {M : Mem} {Q : Int → Mem → Prop} (hI : IM b M) (hk1 : isN k1) (hp : 0 ≤ p2 ∧ p2 ≤ 29) (hQ : ∀ z : Int, Q z M) : qX12_bitsBy k1 p2 p3 M Q := by
  unfold qX12_bitsBy
  have hbn := hI.nn
  have ek1 : k1 = 5 ∨ k1 = 6 := hk1
  refine ⟨9, ?_⟩
  refine sX12_bitsBy_L6 (b := b) (p2 := p2) (p3 := p3) (M0 := M) hk1 hp ?_ _ _ _ (hI.mono (by omega)) (by omega) (by first | assumption | exact ⟨by omega, by omega⟩) (by omega)
  · exact hQ
theorem sX12_isHearse {p1 : Int} {b : Int} {M : Mem} {Q : Int → Mem → Prop} (hI : IM b M) (hQ : ∀ z : Int, (¬ z = 0 → 0 ≤ p1 ∧ p1 ≤ 5) → Q z M) : qX12_isHearse p1 M Q := by
  unfold qX12_isHearse
  have hbn := hI.nn
  intro x1_572 ex1_572 rx1_572
  have bx1_572 : 0 ≤ x1_572 ∧ x1_572 ≤ 6 := by rw [ex1_572]; exact bm_c1_4.mp (hI.bx _ _)
  refine ⟨(by first | assumption | exact ⟨by omega, by omega⟩), ?_⟩
  refine sX12_in (p0 := p1) (p2 := 0) (p4 := x1_572 - 1) hI  ?_
  intro x3_573 p574 q575 q576
  refine ⟨by omega, ?_⟩
  exact hQ _ (by omega)
theorem sX12_owners_L4 {p1 : Int}  {Q : Int → Mem → Prop} {b : Int} {M0 : Mem} (hQ : ∀ z : Int, Q z M0) : ∀ (n : Nat) (v2 v3 : Int), IM (b) M0 → (0 ≤ v3 ∧ v3 ≤ 8) → iR v2 → 8 - v3 < (n : Int) → qX12_owners_L4 p1 Q n v2 v3 M0 := by
  intro n
  induction n with
  | zero => intro v2 v3 hI hv hrv2 hm; exact absurd hm (by omega)
  | succ n ih =>
    intro v2 v3 hI hv hrv2 hm
    rw [qX12_owners_L4]
    have hbn := hI.nn
    intro x1_577 ex1_577 rx1_577
    have bx1_577 : 0 ≤ x1_577 ∧ x1_577 ≤ 8 := by rw [ex1_577]; exact bm_c1_5.mp (hI.bx _ _)
    refine ⟨(by first | assumption | exact ⟨by omega, by omega⟩), ?_⟩
    refine ⟨fun c => ?_, fun c => ?_⟩
    · refine ⟨(by first | assumption | exact ⟨by omega, by omega⟩), ?_⟩
      exact hQ _
    · refine ⟨by omega, ?_⟩
      refine ⟨by omega, ?_⟩
      intro x7_580 ex7_580 rx7_580
      have bx7_580 : 0 ≤ x7_580 ∧ x7_580 ≤ 5 := by rw [ex7_580]; exact bm_c3.mp (hI.bx _ _)
      refine ⟨fun c => ?_, fun c => ?_⟩
      · intro x9_582 ex9_582 rx9_582
        first | (have fx9_582 := oI_64 (a := v2) (b := 0) ⟨by omega, by omega⟩ ⟨by omega, by omega⟩; rw [← ex9_582] at fx9_582) | skip
        exact ih _ _ (hI.mono (by omega)) (by omega) (by first | assumption | exact ⟨by omega, by omega⟩) (by omega)
      · intro x10_584 ex10_584 rx10_584
        first | (have fx10_584 := slI_1 (b := v3) ⟨by omega, by omega⟩; rw [← ex10_584] at fx10_584) | skip
        intro x11_585 ex11_585 rx11_585
        first | (have fx11_585 := oI_64 (a := v2) (b := x10_584) ⟨by omega, by omega⟩ ⟨by omega, by omega⟩; rw [← ex11_585] at fx11_585) | skip
        exact ih _ _ (hI.mono (by omega)) (by omega) (by first | assumption | exact ⟨by omega, by omega⟩) (by omega)
theorem sX12_owners {p1 : Int} {b : Int} {M : Mem} {Q : Int → Mem → Prop} (hI : IM b M) (hQ : ∀ z : Int, Q z M) : qX12_owners p1 M Q := by
  unfold qX12_owners
  have hbn := hI.nn
  refine ⟨9, ?_⟩
  refine sX12_owners_L4 (b := b) (p1 := p1) (M0 := M) ?_ _ _ _ (hI.mono (by omega)) (by omega) (by first | assumption | exact ⟨by omega, by omega⟩) (by omega)
  · exact hQ
theorem sX12_freeAhead_L2 {k1 : Nat} {p2 : Int}  {Q : Int → Mem → Prop} {b : Int} {M0 : Mem} (hk1 : isN k1) (hp : 0 ≤ p2 ∧ p2 ≤ 29) (hQ : ∀ z : Int, (0 ≤ z ∧ z ≤ 30) → Q z M0) : ∀ (n : Nat) (v3 : Int), IM (b) M0 → (0 ≤ v3 ∧ v3 ≤ 30) → 30 - v3 < (n : Int) → qX12_freeAhead_L2 k1 p2 Q n v3 M0 := by
  intro n
  induction n with
  | zero => intro v3 hI hv hm; exact absurd hm (by omega)
  | succ n ih =>
    intro v3 hI hv hm
    rw [qX12_freeAhead_L2]
    have hbn := hI.nn
    have ek1 : k1 = 5 ∨ k1 = 6 := hk1
    refine sX12_gate  hI  ?_
    intro x1_586 p587 q588
    refine ⟨(by first | assumption | exact ⟨by omega, by omega⟩), ?_⟩
    refine ⟨fun c => ?_, fun c => ?_⟩
    · refine ⟨(by first | assumption | exact ⟨by omega, by omega⟩), ?_⟩
      exact hQ _ (by omega)
    · refine sX12_gate  hI  ?_
      intro x5_591 p592 q593
      refine ⟨(by first | assumption | exact ⟨by omega, by omega⟩), ?_⟩
      refine ⟨fun c => ?_, fun c => ?_⟩
      · exact ih _ (hI.mono (by omega)) (by omega) (by omega)
      · refine sX12_onCell (p2 := p2 + v3 + 1) hI hk1 ?_
        intro x8_596 p597 q598
        refine ⟨fun c => ?_, fun c => ?_⟩
        · refine ⟨(by first | assumption | exact ⟨by omega, by omega⟩), ?_⟩
          exact hQ _ (by omega)
        · exact ih _ (hI.mono (by omega)) (by omega) (by omega)
theorem sX12_freeAhead {k1 : Nat} {p2 : Int} {b : Int} {M : Mem} {Q : Int → Mem → Prop} (hI : IM b M) (hk1 : isN k1) (hp : 0 ≤ p2 ∧ p2 ≤ 29) (hQ : ∀ z : Int, (0 ≤ z ∧ z ≤ 30) → Q z M) : qX12_freeAhead k1 p2 M Q := by
  unfold qX12_freeAhead
  have hbn := hI.nn
  have ek1 : k1 = 5 ∨ k1 = 6 := hk1
  refine ⟨31, ?_⟩
  refine sX12_freeAhead_L2 (b := b) (p2 := p2) (M0 := M) hk1 hp ?_ _ _ (hI.mono (by omega)) (by omega) (by omega)
  · exact hQ
theorem sX12_isOn {k0 : Nat} {p1 : Int} {b : Int} {M : Mem} {Q : Int → Mem → Prop} (hI : IM b M) (hk0 : isN k0) (hp : 0 ≤ p1 ∧ p1 ≤ 37) (hQ : ∀ z : Int, ((z = 1 → 0 ≤ M k0 p1) ∧ (z = 0 → M k0 p1 < 0)) → Q z M) : qX12_isOn k0 p1 M Q := by
  unfold qX12_isOn
  have hbn := hI.nn
  have ek0 : k0 = 5 ∨ k0 = 6 := hk0
  refine ⟨by omega, ?_⟩
  refine ⟨by omega, ?_⟩
  intro x3_601 ex3_601 rx3_601
  have rbx3_601 : -2147483648 ≤ x3_601 ∧ x3_601 ≤ 2147483647 := rx3_601
  have nbx3_601 : BN (b) p1 x3_601 := by rw [ex3_601]; exact (bm_n hk0).mp (hI.bx _ _)
  first | (have bx3_601 : -1 ≤ x3_601 ∧ x3_601 ≤ 29 := nbx3_601.1 ⟨by omega, by omega⟩) | (have bx3_601 : -1 ≤ x3_601 ∧ x3_601 ≤ 29 := nbx3_601.2.1 ⟨by omega, by omega⟩) | skip
  refine ⟨fun c => ?_, fun c => ?_⟩
  · exact hQ _ (by omega)
  · exact hQ _ (by omega)
theorem sX12_worked {p0 : Int} {p1 : Int} {p2 : Int} {b : Int} {M : Mem} {Q : Int → Mem → Prop} (hI : IM b M) (hQ : ∀ z : Int, Q z M) : qX12_worked p0 p1 p2 M Q := by
  unfold qX12_worked
  have hbn := hI.nn
  refine ⟨fun c => ?_, fun c => ?_, fun c => ?_, fun c => ?_, fun c => ?_, fun c => ?_, fun c => ?_⟩
  · refine ⟨fun c => ?_, fun c => ?_⟩
    · unfold qX12_worked_J50
      refine ⟨(by first | assumption | exact ⟨by omega, by omega⟩), ?_⟩
      refine sX12_flag (p0 := 0) hI  ?_
      intro x4_606 p607 q608
      exact hQ _
    · unfold qX12_worked_J50
      refine ⟨(by first | assumption | exact ⟨by omega, by omega⟩), ?_⟩
      refine sX12_flag (p0 := 1) hI  ?_
      intro x4_610 p611 q612
      exact hQ _
  · refine ⟨fun c => ?_, fun c => ?_⟩
    · unfold qX12_worked_J64
      refine ⟨(by first | assumption | exact ⟨by omega, by omega⟩), ?_⟩
      refine sX12_flag (p0 := 0) hI  ?_
      intro x7_615 p616 q617
      exact hQ _
    · unfold qX12_worked_J64
      refine ⟨(by first | assumption | exact ⟨by omega, by omega⟩), ?_⟩
      refine sX12_flag (p0 := 1) hI  ?_
      intro x7_619 p620 q621
      exact hQ _
  · refine ⟨fun c => ?_, fun c => ?_⟩
    · unfold qX12_worked_J78
      refine ⟨(by first | assumption | exact ⟨by omega, by omega⟩), ?_⟩
      refine sX12_flag (p0 := 0) hI  ?_
      intro x10_624 p625 q626
      exact hQ _
    · unfold qX12_worked_J78
      refine ⟨(by first | assumption | exact ⟨by omega, by omega⟩), ?_⟩
      refine sX12_flag (p0 := 1) hI  ?_
      intro x10_628 p629 q630
      exact hQ _
  · intro x11_632 ex11_632 rx11_632
    first | (have fx11_632 : x11_632 = p1 + p2 := by rw [ex11_632]; exact w32_id ⟨by omega, by omega⟩) | skip
    exact hQ _
  · intro x12_634 ex12_634 rx12_634
    first | (have fx12_634 : x12_634 = p1 - p2 := by rw [ex12_634]; exact w32_id ⟨by omega, by omega⟩) | skip
    exact hQ _
  · intro x13_636 ex13_636 rx13_636
    first | (have fx13_636 : x13_636 = p1 * p2 := by rw [ex13_636]; exact w32_id ⟨by omega, by omega⟩) | skip
    exact hQ _
  · refine ⟨fun c => ?_, fun c => ?_⟩
    · refine ⟨by omega, ?_⟩
      intro x16_639 ex16_639 rx16_639
      first | (have fx16_639 := dvI_b (a := p1) (b := p2) ⟨by omega, by omega⟩ ⟨by omega, by omega⟩; rw [← ex16_639] at fx16_639) | skip
      exact hQ _
    · exact hQ _
theorem dpc_le (f : Int → Int) (n : Nat) : dpc f n ≤ n := by
  induction n with
  | zero => exact Int.le_refl _
  | succ n ih =>
    unfold dpc
    split
    · omega
    · split <;> omega
theorem dpc_nn {f : Int → Int} {m : Int} (h : WFC f m) (n : Nat) (hn : (n : Int) ≤ m) : 0 ≤ dpc f n := by
  induction n with
  | zero => exact Int.le_refl _
  | succ n ih =>
    have i := ih (by omega)
    obtain ⟨a, b, _⟩ := h n (by omega)
    unfold dpc
    split
    · omega
    · rename_i c
      split
      · omega
      · have := b (by omega) c
        omega
theorem sX12_ruled_L4 {X125 : Mem → Prop} {Q : Int → Mem → Prop} {b : Int} {M0 : Mem} (hX : ∀ M' : Mem, IM b M' → FrJ (fun k j => k = 13) M0 M' → X125 M') : ∀ (n : Nat) (v1 v2 : Int) (M : Mem), IM b M → FrJ (fun k j => k = 13) M0 M → (v1 = dpc (M 11) v2.toNat ∧ 0 ≤ v2 ∧ v2 ≤ 80) → 80 - v2 < (n : Int) → qX12_ruled_L4 X125 Q n v1 v2 M := by
  intro n
  induction n with
  | zero => intro v1 v2 M hI hF hv hm; exact absurd hm (by omega)
  | succ n ih =>
    intro v1 v2 M hI hF hv hm
    rw [qX12_ruled_L4]
    intro x1 e1 _
    have b1 : 0 ≤ x1 ∧ x1 ≤ 80 := by rw [e1]; exact bm_c1_24.mp (hI.bx _ _)
    refine ⟨⟨by omega, by omega⟩, ⟨fun c => hX _ hI hF, fun c => ?_⟩⟩
    refine ⟨by omega, by omega, ?_⟩
    intro x6 e6 r6
    have hw := hI.2 v2.toNat (by omega)
    have hc : ((v2.toNat : Nat) : Int) = v2 := by omega
    have hn := dpc_nn hI.2 v2.toNat (by omega)
    have hl := dpc_le (M 11) v2.toNat
    rw [hc, ← e6] at hw
    have hs : dpc (M 11) (v2 + 1).toNat = dpc (M 11) v2.toNat + (if x6 = 3000 then 0 else if x6 < 2000 then 1 else -1) := by
      rw [show (v2 + 1).toNat = v2.toNat + 1 from by omega]
      show dpc (M 11) v2.toNat + (if M 11 (v2.toNat : Nat) = 3000 then 0 else if M 11 (v2.toNat : Nat) < 2000 then 1 else -1) = _
      rw [hc, ← e6]
    have key : ∀ (M' : Mem) (j v w : Int), M' = up2 M 13 j v → w = v1 + (if x6 = 3000 then 0 else if x6 < 2000 then 1 else -1) → qX12_ruled_L4 X125 Q n w (v2 + 1) M' := by
      intro M' j v w hM' hw'
      refine ih _ _ _ (by rw [hM']; exact hI.up (by omega) (by simp [BM])) (by rw [hM']; exact hF.up rfl) ⟨?_, by omega, by omega⟩ (by omega)
      rw [hM', up2_n (by decide), hs, ← hv.1]
      exact hw'
    refine ⟨fun c1 => ⟨fun c2 => ⟨fun c3 => ?_, fun c3 => ?_⟩, fun c2 => ?_⟩, fun c1 => ?_⟩
    · unfold qX12_ruled_J115
      refine ⟨by omega, by omega, r6, ?_⟩
      intro M13 h13
      exact key _ _ _ _ h13 (by rw [if_neg c1, if_pos c2])
    · intro x14 e14 _
      have f14 : x14 = x6 - 1000 := by rw [e14]; exact w32_id ⟨by omega, by omega⟩
      have := hw.2.2 (by omega) (by omega)
      refine ⟨by omega, by omega, ?_⟩
      intro x17 e17 r17
      unfold qX12_ruled_J115
      refine ⟨by omega, by omega, r17, ?_⟩
      intro M13 h13
      exact key _ _ _ _ h13 (by rw [if_neg c1, if_pos c2])
    · have h2 := hw.2.1 (by omega) c1
      intro x18 e18 _ x19 e19 _ x20 e20 _
      have f18 : x18 = v1 + (-1) - 1 := by rw [e18]; exact w32_id ⟨by omega, by omega⟩
      have f20 : x20 = v1 + (-1) - 1 := by rw [e20]; exact w32_id ⟨by omega, by omega⟩
      refine ⟨by omega, by omega, ?_⟩
      intro x23 e23 _
      refine ⟨by omega, by omega, ?_⟩
      intro x26 e26 _
      refine sX12_worked (p0 := x19) (p1 := x23) (p2 := x26) hI ?_
      intro x27 _
      refine ⟨by omega, by omega, ?_⟩
      intro M30 h30
      exact key _ _ _ _ h30 (by rw [if_neg c1, if_neg c2])
    · have h1 := hw.1 c1
      intro x31 e31 _ x32 e32 _
      have f31 : x31 = v1 - 1 := by rw [e31]; exact w32_id ⟨by omega, by omega⟩
      have f32 : x32 = v1 - 1 := by rw [e32]; exact w32_id ⟨by omega, by omega⟩
      refine ⟨by omega, by omega, ?_⟩
      intro x35 e35 _ x36 e36 _
      refine ⟨by omega, by omega, ?_⟩
      intro M39 h39
      exact key _ _ _ _ h39 (by rw [if_pos c1]; omega)
theorem sX12_ruled {b : Int} {M : Mem} {Q : Int → Mem → Prop} (hI : IM b M) (hQ : ∀ z : Int, ∀ M' : Mem, IM b M' → FrJ (fun k j => k = 13) M M' → Q z M') : qX12_ruled M Q := by
  unfold qX12_ruled
  refine ⟨81, sX12_ruled_L4 (b := b) (M0 := M) ?_ _ _ _ _ hI FrJ.rf ⟨rfl, by omega, by omega⟩ (by omega)⟩
  intro M' h' hF x41 _ _
  refine ⟨fun c => fun x43 _ _ => hQ _ _ h' hF, fun c => ?_⟩
  intro x44 _ _
  refine ⟨fun c => ?_, fun c => ?_⟩ <;>
  · unfold qX12_ruled_J148
    refine ⟨by decide, ?_⟩
    refine sX12_flag h' ?_
    intro z _ _ x48 _ _
    exact hQ _ _ h' hF
theorem sX12_weatherOn {p1 : Int} {b : Int} {M : Mem} {Q : Int → Mem → Prop} (hI : IM b M) (hp : 0 ≤ p1 ∧ p1 ≤ 2147483647) (hQ : ∀ z : Int, Q z M) : qX12_weatherOn p1 M Q := by
  unfold qX12_weatherOn
  have hbn := hI.nn
  intro x1_641 ex1_641 rx1_641
  have bx1_641 : 1 ≤ x1_641 ∧ x1_641 ≤ 20 := by rw [ex1_641]; exact bm_c1_7.mp (hI.bx _ _)
  refine ⟨by omega, ?_⟩
  intro x3_642 ex3_642 rx3_642
  first | (have fx3_642 := rmI_b (a := p1) (b := x1_641) ⟨by omega, by omega⟩ ⟨by omega, by omega⟩; rw [← ex3_642] at fx3_642) | skip
  refine ⟨by omega, ?_⟩
  refine ⟨by omega, ?_⟩
  intro x6_643 ex6_643 rx6_643
  have bx6_643 : -2147483648 ≤ x6_643 ∧ x6_643 ≤ 2147483647 := rx6_643
  exact hQ _
theorem sX12_paceOf {k1 : Nat} {p2 : Int} {b : Int} {M : Mem} {Q : Int → Mem → Prop} (hI : IM b M) (hk1 : isN k1) (hp : 0 ≤ p2 ∧ p2 ≤ 5) (hQ : ∀ z : Int, ∀ M' : Mem, IM b M' → FrJ (fun k j => k = 14 ∨ k = 13) M M' → (0 ≤ z ∧ z ≤ 3) → Q z M') : qX12_paceOf k1 p2 M Q := by
  unfold qX12_paceOf
  have hbn := hI.nn
  have ek1 : k1 = 5 ∨ k1 = 6 := hk1
  refine sX12_isOn (p1 := p2) hI hk1 (by omega) ?_
  intro x1_644 p645 q646 q647
  refine ⟨fun c => ?_, fun c => ?_⟩
  · refine ⟨by omega, ?_⟩
    refine ⟨by omega, ?_⟩
    intro x5_649 ex5_649 rx5_649
    have rbx5_649 : -2147483648 ≤ x5_649 ∧ x5_649 ≤ 2147483647 := rx5_649
    have nbx5_649 : BN (b) p2 x5_649 := by rw [ex5_649]; exact (bm_n hk1).mp (hI.bx _ _)
    first | (have bx5_649 : -1 ≤ x5_649 ∧ x5_649 ≤ 29 := nbx5_649.1 ⟨by omega, by omega⟩) | (have bx5_649 : -1 ≤ x5_649 ∧ x5_649 ≤ 29 := nbx5_649.2.1 ⟨by omega, by omega⟩) | skip
    intro M6_650 h_M6_650
    have hM6_650 : IM (b) M6_650 := by rw [h_M6_650]; exact hI.up (by omega) (by simp [BM])
    have hFM6_650 : FrJ (fun k j => k = 14 ∨ k = 13) M M6_650 := by rw [h_M6_650]; exact (FrJ.rf).up (by omega)
    intro x7_651 ex7_651 rx7_651
    have rbx7_651 : -2147483648 ≤ x7_651 ∧ x7_651 ≤ 2147483647 := rx7_651
    have nbx7_651 : BN (b) p2 x7_651 := by rw [ex7_651]; exact (bm_n hk1).mp (hM6_650.bx _ _)
    first | (have bx7_651 : -1 ≤ x7_651 ∧ x7_651 ≤ 29 := nbx7_651.1 ⟨by omega, by omega⟩) | (have bx7_651 : -1 ≤ x7_651 ∧ x7_651 ≤ 29 := nbx7_651.2.1 ⟨by omega, by omega⟩) | skip
    have fx7_651 : x7_651 = M k1 p2 := by rw [ex7_651, h_M6_650, up2_n (by omega)]
    refine sX12_freeAhead (p2 := x7_651) hM6_650 hk1 (by omega) ?_
    intro x8_652 p653 q654
    intro M9_655 h_M9_655
    have hM9_655 : IM (b) M9_655 := by rw [h_M9_655]; exact hM6_650.up (by omega) (by simp [BM])
    have hFM9_655 : FrJ (fun k j => k = 14 ∨ k = 13) M M9_655 := by rw [h_M9_655]; exact (hFM6_650).up (by omega)
    intro x10_656 ex10_656 rx10_656
    have rbx10_656 : -2147483648 ≤ x10_656 ∧ x10_656 ≤ 2147483647 := rx10_656
    have nbx10_656 : BN (b) p2 x10_656 := by rw [ex10_656]; exact (bm_n hk1).mp (hM9_655.bx _ _)
    first | (have bx10_656 : -1 ≤ x10_656 ∧ x10_656 ≤ 29 := nbx10_656.1 ⟨by omega, by omega⟩) | (have bx10_656 : -1 ≤ x10_656 ∧ x10_656 ≤ 29 := nbx10_656.2.1 ⟨by omega, by omega⟩) | skip
    have fx10_656 : x10_656 = M k1 p2 := by rw [ex10_656, h_M9_655, up2_n (by omega), h_M6_650, up2_n (by omega)]
    refine ⟨by omega, ?_⟩
    refine ⟨by omega, ?_⟩
    intro x13_657 ex13_657 rx13_657
    have bx13_657 : -2147483648 ≤ x13_657 ∧ x13_657 ≤ 2147483647 := rx13_657
    have fx13_657 : x13_657 = M 2 x10_656 := by rw [ex13_657, h_M9_655, up2_n (by decide), h_M6_650, up2_n (by decide)]
    have cgx13_657 : x13_657 = M9_655 2 (M9_655 k1 p2) := by rw [ex13_657, ← ex10_656]
    refine sX12_flag (p0 := x13_657) hM9_655  ?_
    intro x14_658 p659 q660
    intro M15_661 h_M15_661
    have hM15_661 : IM (b) M15_661 := by rw [h_M15_661]; exact hM9_655.up (by omega) (by simp [BM])
    have hFM15_661 : FrJ (fun k j => k = 14 ∨ k = 13) M M15_661 := by rw [h_M15_661]; exact (hFM9_655).up (by omega)
    intro x16_662 ex16_662 rx16_662
    have rbx16_662 : -2147483648 ≤ x16_662 ∧ x16_662 ≤ 2147483647 := rx16_662
    first | (have bx16_662 : 0 ≤ x16_662 ∧ x16_662 ≤ (b) := by rw [ex16_662]; exact ((bm_n hk1).mp (hM15_661.bx _ _)).2.2.2 (by omega)) | skip
    have fx16_662 : x16_662 = M k1 37 := by rw [ex16_662, h_M15_661, up2_n (by omega), h_M9_655, up2_n (by omega), h_M6_650, up2_n (by omega)]
    refine sX12_weatherOn (p1 := x16_662) hM15_661 (by omega) ?_
    intro x17_663 q664
    intro M18_665 h_M18_665
    have hM18_665 : IM (b) M18_665 := by rw [h_M18_665]; exact hM15_661.up (by omega) (by simp [BM])
    have hFM18_665 : FrJ (fun k j => k = 14 ∨ k = 13) M M18_665 := by rw [h_M18_665]; exact (hFM15_661).up (by omega)
    intro x19_666 ex19_666 rx19_666
    have rbx19_666 : -2147483648 ≤ x19_666 ∧ x19_666 ≤ 2147483647 := rx19_666
    first | (have bx19_666 : 0 ≤ x19_666 ∧ x19_666 ≤ (b) := by rw [ex19_666]; exact ((bm_n hk1).mp (hM18_665.bx _ _)).2.2.2 (by omega)) | skip
    have fx19_666 : x19_666 = M k1 37 := by rw [ex19_666, h_M18_665, up2_n (by omega), h_M15_661, up2_n (by omega), h_M9_655, up2_n (by omega), h_M6_650, up2_n (by omega)]
    intro x20_667 ex20_667 rx20_667
    first | (have fx20_667 := rmI_b (a := x19_666) (b := 10) ⟨by omega, by omega⟩ ⟨by omega, by omega⟩; rw [← ex20_667] at fx20_667) | skip
    intro M21_668 h_M21_668
    have hM21_668 : IM (b) M21_668 := by rw [h_M21_668]; exact hM18_665.up (by omega) (by simp [BM])
    have hFM21_668 : FrJ (fun k j => k = 14 ∨ k = 13) M M21_668 := by rw [h_M21_668]; exact (hFM18_665).up (by omega)
    intro M22_669 h_M22_669
    have hM22_669 : IM (b) M22_669 := by rw [h_M22_669]; exact hM21_668.up (by omega) (by simp [BM])
    have hFM22_669 : FrJ (fun k j => k = 14 ∨ k = 13) M M22_669 := by rw [h_M22_669]; exact (hFM21_668).up (by omega)
    refine sX12_bitsBy (p2 := 21) (p3 := p2) hM22_669 hk1 (by omega) ?_
    intro x23_670 q671
    refine sJ6_bitCountM (p0 := x23_670) hM22_669  ?_
    intro x24_672 p673 q674
    intro M25_675 h_M25_675
    have hM25_675 : IM (b) M25_675 := by rw [h_M25_675]; exact hM22_669.up (by omega) (by simp [BM])
    have hFM25_675 : FrJ (fun k j => k = 14 ∨ k = 13) M M25_675 := by rw [h_M25_675]; exact (hFM22_669).up (by omega)
    refine sX12_ruled  hM25_675  ?_
    intro x26_676 M26_677 hM26_677 gM26_677 q678
    have hFM26_677 : FrJ (fun k j => k = 14 ∨ k = 13) M M26_677 := (hFM25_675).tr (gM26_677.mono (by intro k j h; omega))
    intro x27_679 ex27_679 rx27_679
    intro x28_680 ex28_680 rx28_680
    exact hQ _ _ (hM26_677.mono (by omega)) hFM26_677 (by omega)
  · exact hQ _ _ (hI.mono (by omega)) FrJ.rf (by omega)
theorem sX12_refuse  {b : Int} {M : Mem} {Q : Int → Mem → Prop} (hI : IM b M) (hQ : ∀ z : Int, ∀ M' : Mem, IM b M' → Q z M') : qX12_refuse M Q := by
  unfold qX12_refuse
  have hbn := hI.nn
  intro M1_682 h_M1_682
  have hM1_682 : IM (b) M1_682 := by rw [h_M1_682]; exact hI.up (by omega) (by simp [BM])
  exact hQ _ _ (hM1_682.mono (by omega))
theorem sX12_hearse {p1 : Int} {p2 : Int} {b : Int} {M : Mem} {Q : Int → Mem → Prop} (hI : IM b M) (hQ : ∀ z : Int, ∀ M' : Mem, IM b M' → Q z M') : qX12_hearse p1 p2 M Q := by
  unfold qX12_hearse
  have hbn := hI.nn
  intro M1_683 h_M1_683
  have hM1_683 : IM (b) M1_683 := by rw [h_M1_683]; exact hI.up (by omega) (by simp [BM])
  refine sX12_isHearse (p1 := p1) hM1_683  ?_
  intro x2_684 p685 q686 q687
  refine ⟨fun c => ?_, fun c => ?_⟩
  · unfold qX12_hearse_J25
    refine sX12_refuse  hM1_683  ?_
    intro x4_689 M4_690 hM4_690 q691
    exact hQ _ _ (hM4_690.mono (by omega))
  · refine sX12_in (p0 := p2) (p2 := 0) (p4 := 5) hM1_683  ?_
    intro x5_693 p694 q695 q696
    refine ⟨fun c => ?_, fun c => ?_⟩
    · refine ⟨fun c => ?_, fun c => ?_, fun c => ?_, fun c => ?_, fun c => ?_, fun c => ?_⟩
      · refine ⟨by omega, ?_⟩
        refine ⟨by omega, ?_⟩
        intro x10_699 ex10_699 rx10_699
        have rbx10_699 : -2147483648 ≤ x10_699 ∧ x10_699 ≤ 2147483647 := rx10_699
        have nbx10_699 : BN (b) p1 x10_699 := by rw [ex10_699]; exact (bm_n (Or.inl rfl)).mp (hM1_683.bx _ _)
        first | (have bx10_699 : -1 ≤ x10_699 ∧ x10_699 ≤ 29 := nbx10_699.1 ⟨by omega, by omega⟩) | (have bx10_699 : -1 ≤ x10_699 ∧ x10_699 ≤ 29 := nbx10_699.2.1 ⟨by omega, by omega⟩) | skip
        have fx10_699 : x10_699 = M 5 p1 := by rw [ex10_699, h_M1_683, up2_n (by decide)]
        exact hQ _ _ (hM1_683.mono (by omega))
      · refine ⟨by omega, ?_⟩
        refine ⟨by omega, ?_⟩
        intro x13_701 ex13_701 rx13_701
        have bx13_701 : -2147483648 ≤ x13_701 ∧ x13_701 ≤ 2147483647 := rx13_701
        have fx13_701 : x13_701 = M 5 (6 + p1) := by rw [ex13_701, h_M1_683, up2_n (by decide)]
        exact hQ _ _ (hM1_683.mono (by omega))
      · refine sX12_paceOf (p2 := p1) hM1_683 (Or.inl rfl) (by omega) ?_
        intro x14_703 M14_704 hM14_704 gM14_704 p705 q706
        exact hQ _ _ (hM14_704.mono (by omega))
      · refine sX12_bitsBy (p2 := 21) (p3 := p1) hM1_683 (Or.inl rfl) (by omega) ?_
        intro x15_708 q709
        exact hQ _ _ (hM1_683.mono (by omega))
      · refine sX12_bitsBy (p2 := 29) (p3 := p1) hM1_683 (Or.inl rfl) (by omega) ?_
        intro x16_711 q712
        exact hQ _ _ (hM1_683.mono (by omega))
      · refine sX12_owners (p1 := p1) hM1_683  ?_
        intro x17_714 q715
        exact hQ _ _ (hM1_683.mono (by omega))
    · unfold qX12_hearse_J25
      refine sX12_refuse  hM1_683  ?_
      intro x4_717 M4_718 hM4_718 q719
      exact hQ _ _ (hM4_718.mono (by omega))
theorem sX12_isMourner {p1 : Int} {b : Int} {M : Mem} {Q : Int → Mem → Prop} (hI : IM b M) (hQ : ∀ z : Int, (¬ z = 0 → 0 ≤ p1 ∧ p1 ≤ 7) → Q z M) : qX12_isMourner p1 M Q := by
  unfold qX12_isMourner
  have hbn := hI.nn
  intro x1_720 ex1_720 rx1_720
  have bx1_720 : 0 ≤ x1_720 ∧ x1_720 ≤ 8 := by rw [ex1_720]; exact bm_c1_5.mp (hI.bx _ _)
  refine ⟨(by first | assumption | exact ⟨by omega, by omega⟩), ?_⟩
  refine sX12_in (p0 := p1) (p2 := 0) (p4 := x1_720 - 1) hI  ?_
  intro x3_721 p722 q723 q724
  refine ⟨by omega, ?_⟩
  exact hQ _ (by omega)
theorem sX12_nearest_L5 {k1 : Nat} {p2 : Int}  {Q : Int → Mem → Prop} {b : Int} {M0 : Mem} (hk1 : isN k1) (hp : -1 ≤ p2 ∧ p2 ≤ 29) (hQ : ∀ z : Int, (-1 ≤ z ∧ z ≤ 5 ∧ (0 ≤ z → 0 ≤ M0 k1 z)) → Q z M0) : ∀ (n : Nat) (v3 v4 : Int), IM (b) M0 → ((v3 = -1 ∨ 0 ≤ v3 ∧ v3 ≤ 5 ∧ 0 ≤ M0 k1 v3) ∧ 0 ≤ v4 ∧ v4 ≤ 6) → 6 - v4 < (n : Int) → qX12_nearest_L5 k1 p2 Q n v3 v4 M0 := by
  intro n
  induction n with
  | zero => intro v3 v4 hI hv hm; exact absurd hm (by omega)
  | succ n ih =>
    intro v3 v4 hI hv hm
    rw [qX12_nearest_L5]
    have hbn := hI.nn
    have ek1 : k1 = 5 ∨ k1 = 6 := hk1
    intro x1_725 ex1_725 rx1_725
    have bx1_725 : 0 ≤ x1_725 ∧ x1_725 ≤ 6 := by rw [ex1_725]; exact bm_c1_4.mp (hI.bx _ _)
    refine ⟨(by first | assumption | exact ⟨by omega, by omega⟩), ?_⟩
    refine ⟨fun c => ?_, fun c => ?_⟩
    · refine ⟨(by first | assumption | exact ⟨by omega, by omega⟩), ?_⟩
      exact hQ _ (by omega)
    · refine sX12_isOn (p1 := v4) hI hk1 (by omega) ?_
      intro x5_728 p729 q730 q731
      refine ⟨fun c => ?_, fun c => ?_⟩
      · exact ih _ _ (hI.mono (by omega)) (by omega) (by omega)
      · refine ⟨by omega, ?_⟩
        refine ⟨by omega, ?_⟩
        intro x9_734 ex9_734 rx9_734
        have rbx9_734 : -2147483648 ≤ x9_734 ∧ x9_734 ≤ 2147483647 := rx9_734
        have nbx9_734 : BN (b) v4 x9_734 := by rw [ex9_734]; exact (bm_n hk1).mp (hI.bx _ _)
        first | (have bx9_734 : -1 ≤ x9_734 ∧ x9_734 ≤ 29 := nbx9_734.1 ⟨by omega, by omega⟩) | (have bx9_734 : -1 ≤ x9_734 ∧ x9_734 ≤ 29 := nbx9_734.2.1 ⟨by omega, by omega⟩) | skip
        refine ⟨(by first | assumption | exact ⟨by omega, by omega⟩), ?_⟩
        intro x11_735 px11_735 nx11_735
        have bx11_735 : 0 ≤ x11_735 ∧ (x9_734 - p2 = x11_735 ∨ x9_734 - p2 = -x11_735) := by omega
        refine ⟨(by first | assumption | exact ⟨by omega, by omega⟩), ?_⟩
        refine ⟨fun c => ?_, fun c => ?_⟩
        · refine ⟨by omega, ?_⟩
          refine ⟨by omega, ?_⟩
          intro x16_737 ex16_737 rx16_737
          have rbx16_737 : -2147483648 ≤ x16_737 ∧ x16_737 ≤ 2147483647 := rx16_737
          have nbx16_737 : BN (b) v3 x16_737 := by rw [ex16_737]; exact (bm_n hk1).mp (hI.bx _ _)
          first | (have bx16_737 : -1 ≤ x16_737 ∧ x16_737 ≤ 29 := nbx16_737.1 ⟨by omega, by omega⟩) | (have bx16_737 : -1 ≤ x16_737 ∧ x16_737 ≤ 29 := nbx16_737.2.1 ⟨by omega, by omega⟩) | skip
          refine ⟨(by first | assumption | exact ⟨by omega, by omega⟩), ?_⟩
          intro x18_738 px18_738 nx18_738
          have bx18_738 : 0 ≤ x18_738 ∧ (x16_737 - p2 = x18_738 ∨ x16_737 - p2 = -x18_738) := by omega
          unfold qX12_nearest_J52
          refine ⟨(by first | assumption | exact ⟨by omega, by omega⟩), ?_⟩
          refine ⟨(by first | assumption | exact ⟨by omega, by omega⟩), ?_⟩
          refine ⟨fun c => ?_, fun c => ?_⟩
          · exact ih _ _ (hI.mono (by omega)) (by omega) (by omega)
          · refine ⟨fun c => ?_, fun c => ?_⟩
            · exact ih _ _ (hI.mono (by omega)) (by omega) (by omega)
            · refine ⟨by omega, ?_⟩
              refine ⟨by omega, ?_⟩
              intro x25_743 ex25_743 rx25_743
              have rbx25_743 : -2147483648 ≤ x25_743 ∧ x25_743 ≤ 2147483647 := rx25_743
              have nbx25_743 : BN (b) v4 x25_743 := by rw [ex25_743]; exact (bm_n hk1).mp (hI.bx _ _)
              first | (have bx25_743 : -1 ≤ x25_743 ∧ x25_743 ≤ 29 := nbx25_743.1 ⟨by omega, by omega⟩) | (have bx25_743 : -1 ≤ x25_743 ∧ x25_743 ≤ 29 := nbx25_743.2.1 ⟨by omega, by omega⟩) | skip
              refine ⟨by omega, ?_⟩
              refine ⟨by omega, ?_⟩
              intro x28_744 ex28_744 rx28_744
              have rbx28_744 : -2147483648 ≤ x28_744 ∧ x28_744 ≤ 2147483647 := rx28_744
              have nbx28_744 : BN (b) v3 x28_744 := by rw [ex28_744]; exact (bm_n hk1).mp (hI.bx _ _)
              first | (have bx28_744 : -1 ≤ x28_744 ∧ x28_744 ≤ 29 := nbx28_744.1 ⟨by omega, by omega⟩) | (have bx28_744 : -1 ≤ x28_744 ∧ x28_744 ≤ 29 := nbx28_744.2.1 ⟨by omega, by omega⟩) | skip
              refine ⟨fun c => ?_, fun c => ?_⟩
              · exact ih _ _ (hI.mono (by omega)) (by omega) (by omega)
              · exact ih _ _ (hI.mono (by omega)) (by omega) (by omega)
        · unfold qX12_nearest_J52
          refine ⟨(by first | assumption | exact ⟨by omega, by omega⟩), ?_⟩
          refine ⟨(by first | assumption | exact ⟨by omega, by omega⟩), ?_⟩
          refine ⟨fun c => ?_, fun c => ?_⟩
          · exact ih _ _ (hI.mono (by omega)) (by omega) (by omega)
          · refine ⟨fun c => ?_, fun c => ?_⟩
            · exact ih _ _ (hI.mono (by omega)) (by omega) (by omega)
            · refine ⟨by omega, ?_⟩
              refine ⟨by omega, ?_⟩
              intro x25_752 ex25_752 rx25_752
              have rbx25_752 : -2147483648 ≤ x25_752 ∧ x25_752 ≤ 2147483647 := rx25_752
              have nbx25_752 : BN (b) v4 x25_752 := by rw [ex25_752]; exact (bm_n hk1).mp (hI.bx _ _)
              first | (have bx25_752 : -1 ≤ x25_752 ∧ x25_752 ≤ 29 := nbx25_752.1 ⟨by omega, by omega⟩) | (have bx25_752 : -1 ≤ x25_752 ∧ x25_752 ≤ 29 := nbx25_752.2.1 ⟨by omega, by omega⟩) | skip
              refine ⟨by omega, ?_⟩
              refine ⟨by omega, ?_⟩
              intro x28_753 ex28_753 rx28_753
              have rbx28_753 : -2147483648 ≤ x28_753 ∧ x28_753 ≤ 2147483647 := rx28_753
              have nbx28_753 : BN (b) v3 x28_753 := by rw [ex28_753]; exact (bm_n hk1).mp (hI.bx _ _)
              first | (have bx28_753 : -1 ≤ x28_753 ∧ x28_753 ≤ 29 := nbx28_753.1 ⟨by omega, by omega⟩) | (have bx28_753 : -1 ≤ x28_753 ∧ x28_753 ≤ 29 := nbx28_753.2.1 ⟨by omega, by omega⟩) | skip
              refine ⟨fun c => ?_, fun c => ?_⟩
              · exact ih _ _ (hI.mono (by omega)) (by omega) (by omega)
              · exact ih _ _ (hI.mono (by omega)) (by omega) (by omega)
