theorem sX12_heard {p1 : Int} {p2 : Int} {b : Int} {M : Mem} {Q : Int → Mem → Prop} (hI : IM b M) (hp : -2147483648 ≤ p2 ∧ p2 ≤ 2147483647) (hQ : ∀ z : Int, ∀ M' : Mem, IM b M' → Q z M') : qX12_heard p1 p2 M Q := by
  unfold qX12_heard
  have hbn := hI.nn
  intro M1_2490 h_M1_2490
  have hM1_2490 : IM (b) M1_2490 := by rw [h_M1_2490]; exact hI.up (by omega) (by simp [BM])
  refine ⟨fun c => ?_, fun c => ?_⟩
  · refine ⟨fun c => ?_, fun c => ?_⟩
    · unfold qX12_heard_J26
      refine sX12_in (p0 := p1) (p2 := 0) (p4 := 3) hM1_2490  ?_
      intro x4_2493 p2494 q2495 q2496
      refine ⟨fun c => ?_, fun c => ?_⟩
      · exact hQ _ _ (hM1_2490.mono (by omega))
      · refine ⟨fun c => ?_, fun c => ?_⟩
        · unfold qX12_heard_J51
          refine ⟨(by first | assumption | exact ⟨by omega, by omega⟩), ?_⟩
          refine sX12_flag (p0 := 0) hM1_2490  ?_
          intro x8_2500 p2501 q2502
          refine ⟨(by first | assumption | exact ⟨by omega, by omega⟩), ?_⟩
          refine ⟨(by first | assumption | exact ⟨by omega, by omega⟩ | exact iR_lR (by assumption)), ?_⟩
          refine sX12_in (p0 := p2) (p2 := x8_2500) (p4 := 8) hM1_2490  ?_
          intro x11_2503 p2504 q2505 q2506
          refine ⟨fun c => ?_, fun c => ?_⟩
          · exact hQ _ _ (hM1_2490.mono (by omega))
          · intro x13_2509 ex13_2509 rx13_2509
            have bx13_2509 : 0 ≤ x13_2509 ∧ x13_2509 ≤ 8 := by rw [ex13_2509]; exact bm_c1_45.mp (hM1_2490.bx _ _)
            have fx13_2509 : x13_2509 = M 1 45 := by rw [ex13_2509, h_M1_2490, up2_j (by decide)]
            refine ⟨fun c => ?_, fun c => ?_⟩
            · intro x15_2511 ex15_2511 rx15_2511
              have bx15_2511 : 0 ≤ x15_2511 ∧ x15_2511 ≤ 8 := by rw [ex15_2511]; exact bm_c1_45.mp (hM1_2490.bx _ _)
              have fx15_2511 : x15_2511 = M 1 45 := by rw [ex15_2511, h_M1_2490, up2_j (by decide)]
              refine ⟨by omega, ?_⟩
              refine ⟨by omega, ?_⟩
              intro M18_2512 h_M18_2512
              have hM18_2512 : IM (b) M18_2512 := by rw [h_M18_2512]; exact hM1_2490.up (by omega) (by simp [BM])
              intro x19_2513 ex19_2513 rx19_2513
              have bx19_2513 : 0 ≤ x19_2513 ∧ x19_2513 ≤ 8 := by rw [ex19_2513]; exact bm_c1_45.mp (hM18_2512.bx _ _)
              have fx19_2513 : x19_2513 = M 1 45 := by rw [ex19_2513, h_M18_2512, up2_n (by decide), h_M1_2490, up2_j (by decide)]
              refine ⟨by omega, ?_⟩
              refine ⟨by omega, ?_⟩
              intro M22_2514 h_M22_2514
              have hM22_2514 : IM (b) M22_2514 := by rw [h_M22_2514]; exact hM18_2512.up (by omega) (by simp [BM])
              intro x23_2515 ex23_2515 rx23_2515
              have bx23_2515 : 0 ≤ x23_2515 ∧ x23_2515 ≤ 8 := by rw [ex23_2515]; exact bm_c1_45.mp (hM22_2514.bx _ _)
              have fx23_2515 : x23_2515 = M 1 45 := by rw [ex23_2515, h_M22_2514, up2_n (by decide), h_M18_2512, up2_n (by decide), h_M1_2490, up2_j (by decide)]
              refine ⟨(by first | assumption | exact ⟨by omega, by omega⟩), ?_⟩
              intro M25_2516 h_M25_2516
              have hM25_2516 : IM (b) M25_2516 := by rw [h_M25_2516]; exact hM22_2514.up (by omega) (bm_c1_45.mpr ⟨by omega, by omega⟩)
              intro x26_2517 ex26_2517 rx26_2517
              have bx26_2517 : 0 ≤ x26_2517 ∧ x26_2517 ≤ 8 := by rw [ex26_2517]; exact bm_c1_45.mp (hM25_2516.bx _ _)
              have fx26_2517 : x26_2517 = x23_2515 + 1 := by rw [ex26_2517, h_M25_2516, up2_s]
              exact hQ _ _ (hM25_2516.mono (by omega))
            · exact hQ _ _ (hM1_2490.mono (by omega))
        · unfold qX12_heard_J51
          refine ⟨(by first | assumption | exact ⟨by omega, by omega⟩), ?_⟩
          refine sX12_flag (p0 := 1) hM1_2490  ?_
          intro x8_2520 p2521 q2522
          refine ⟨(by first | assumption | exact ⟨by omega, by omega⟩), ?_⟩
          refine ⟨(by first | assumption | exact ⟨by omega, by omega⟩ | exact iR_lR (by assumption)), ?_⟩
          refine sX12_in (p0 := p2) (p2 := x8_2520) (p4 := 8) hM1_2490  ?_
          intro x11_2523 p2524 q2525 q2526
          refine ⟨fun c => ?_, fun c => ?_⟩
          · exact hQ _ _ (hM1_2490.mono (by omega))
          · intro x13_2529 ex13_2529 rx13_2529
            have bx13_2529 : 0 ≤ x13_2529 ∧ x13_2529 ≤ 8 := by rw [ex13_2529]; exact bm_c1_45.mp (hM1_2490.bx _ _)
            have fx13_2529 : x13_2529 = M 1 45 := by rw [ex13_2529, h_M1_2490, up2_j (by decide)]
            refine ⟨fun c => ?_, fun c => ?_⟩
            · intro x15_2531 ex15_2531 rx15_2531
              have bx15_2531 : 0 ≤ x15_2531 ∧ x15_2531 ≤ 8 := by rw [ex15_2531]; exact bm_c1_45.mp (hM1_2490.bx _ _)
              have fx15_2531 : x15_2531 = M 1 45 := by rw [ex15_2531, h_M1_2490, up2_j (by decide)]
              refine ⟨by omega, ?_⟩
              refine ⟨by omega, ?_⟩
              intro M18_2532 h_M18_2532
              have hM18_2532 : IM (b) M18_2532 := by rw [h_M18_2532]; exact hM1_2490.up (by omega) (by simp [BM])
              intro x19_2533 ex19_2533 rx19_2533
              have bx19_2533 : 0 ≤ x19_2533 ∧ x19_2533 ≤ 8 := by rw [ex19_2533]; exact bm_c1_45.mp (hM18_2532.bx _ _)
              have fx19_2533 : x19_2533 = M 1 45 := by rw [ex19_2533, h_M18_2532, up2_n (by decide), h_M1_2490, up2_j (by decide)]
              refine ⟨by omega, ?_⟩
              refine ⟨by omega, ?_⟩
              intro M22_2534 h_M22_2534
              have hM22_2534 : IM (b) M22_2534 := by rw [h_M22_2534]; exact hM18_2532.up (by omega) (by simp [BM])
              intro x23_2535 ex23_2535 rx23_2535
              have bx23_2535 : 0 ≤ x23_2535 ∧ x23_2535 ≤ 8 := by rw [ex23_2535]; exact bm_c1_45.mp (hM22_2534.bx _ _)
              have fx23_2535 : x23_2535 = M 1 45 := by rw [ex23_2535, h_M22_2534, up2_n (by decide), h_M18_2532, up2_n (by decide), h_M1_2490, up2_j (by decide)]
              refine ⟨(by first | assumption | exact ⟨by omega, by omega⟩), ?_⟩
              intro M25_2536 h_M25_2536
              have hM25_2536 : IM (b) M25_2536 := by rw [h_M25_2536]; exact hM22_2534.up (by omega) (bm_c1_45.mpr ⟨by omega, by omega⟩)
              intro x26_2537 ex26_2537 rx26_2537
              have bx26_2537 : 0 ≤ x26_2537 ∧ x26_2537 ≤ 8 := by rw [ex26_2537]; exact bm_c1_45.mp (hM25_2536.bx _ _)
              have fx26_2537 : x26_2537 = x23_2535 + 1 := by rw [ex26_2537, h_M25_2536, up2_s]
              exact hQ _ _ (hM25_2536.mono (by omega))
            · exact hQ _ _ (hM1_2490.mono (by omega))
    · unfold qX12_heard_J26
      refine sX12_in (p0 := p1) (p2 := 0) (p4 := 3) hM1_2490  ?_
      intro x4_2540 p2541 q2542 q2543
      refine ⟨fun c => ?_, fun c => ?_⟩
      · exact hQ _ _ (hM1_2490.mono (by omega))
      · refine ⟨fun c => ?_, fun c => ?_⟩
        · unfold qX12_heard_J51
          refine ⟨(by first | assumption | exact ⟨by omega, by omega⟩), ?_⟩
          refine sX12_flag (p0 := 0) hM1_2490  ?_
          intro x8_2547 p2548 q2549
          refine ⟨(by first | assumption | exact ⟨by omega, by omega⟩), ?_⟩
          refine ⟨(by first | assumption | exact ⟨by omega, by omega⟩ | exact iR_lR (by assumption)), ?_⟩
          refine sX12_in (p0 := p2) (p2 := x8_2547) (p4 := 1) hM1_2490  ?_
          intro x11_2550 p2551 q2552 q2553
          refine ⟨fun c => ?_, fun c => ?_⟩
          · exact hQ _ _ (hM1_2490.mono (by omega))
          · intro x13_2556 ex13_2556 rx13_2556
            have bx13_2556 : 0 ≤ x13_2556 ∧ x13_2556 ≤ 8 := by rw [ex13_2556]; exact bm_c1_45.mp (hM1_2490.bx _ _)
            have fx13_2556 : x13_2556 = M 1 45 := by rw [ex13_2556, h_M1_2490, up2_j (by decide)]
            refine ⟨fun c => ?_, fun c => ?_⟩
            · intro x15_2558 ex15_2558 rx15_2558
              have bx15_2558 : 0 ≤ x15_2558 ∧ x15_2558 ≤ 8 := by rw [ex15_2558]; exact bm_c1_45.mp (hM1_2490.bx _ _)
              have fx15_2558 : x15_2558 = M 1 45 := by rw [ex15_2558, h_M1_2490, up2_j (by decide)]
              refine ⟨by omega, ?_⟩
              refine ⟨by omega, ?_⟩
              intro M18_2559 h_M18_2559
              have hM18_2559 : IM (b) M18_2559 := by rw [h_M18_2559]; exact hM1_2490.up (by omega) (by simp [BM])
              intro x19_2560 ex19_2560 rx19_2560
              have bx19_2560 : 0 ≤ x19_2560 ∧ x19_2560 ≤ 8 := by rw [ex19_2560]; exact bm_c1_45.mp (hM18_2559.bx _ _)
              have fx19_2560 : x19_2560 = M 1 45 := by rw [ex19_2560, h_M18_2559, up2_n (by decide), h_M1_2490, up2_j (by decide)]
              refine ⟨by omega, ?_⟩
              refine ⟨by omega, ?_⟩
              intro M22_2561 h_M22_2561
              have hM22_2561 : IM (b) M22_2561 := by rw [h_M22_2561]; exact hM18_2559.up (by omega) (by simp [BM])
              intro x23_2562 ex23_2562 rx23_2562
              have bx23_2562 : 0 ≤ x23_2562 ∧ x23_2562 ≤ 8 := by rw [ex23_2562]; exact bm_c1_45.mp (hM22_2561.bx _ _)
              have fx23_2562 : x23_2562 = M 1 45 := by rw [ex23_2562, h_M22_2561, up2_n (by decide), h_M18_2559, up2_n (by decide), h_M1_2490, up2_j (by decide)]
              refine ⟨(by first | assumption | exact ⟨by omega, by omega⟩), ?_⟩
              intro M25_2563 h_M25_2563
              have hM25_2563 : IM (b) M25_2563 := by rw [h_M25_2563]; exact hM22_2561.up (by omega) (bm_c1_45.mpr ⟨by omega, by omega⟩)
              intro x26_2564 ex26_2564 rx26_2564
              have bx26_2564 : 0 ≤ x26_2564 ∧ x26_2564 ≤ 8 := by rw [ex26_2564]; exact bm_c1_45.mp (hM25_2563.bx _ _)
              have fx26_2564 : x26_2564 = x23_2562 + 1 := by rw [ex26_2564, h_M25_2563, up2_s]
              exact hQ _ _ (hM25_2563.mono (by omega))
            · exact hQ _ _ (hM1_2490.mono (by omega))
        · unfold qX12_heard_J51
          refine ⟨(by first | assumption | exact ⟨by omega, by omega⟩), ?_⟩
          refine sX12_flag (p0 := 1) hM1_2490  ?_
          intro x8_2567 p2568 q2569
          refine ⟨(by first | assumption | exact ⟨by omega, by omega⟩), ?_⟩
          refine ⟨(by first | assumption | exact ⟨by omega, by omega⟩ | exact iR_lR (by assumption)), ?_⟩
          refine sX12_in (p0 := p2) (p2 := x8_2567) (p4 := 1) hM1_2490  ?_
          intro x11_2570 p2571 q2572 q2573
          refine ⟨fun c => ?_, fun c => ?_⟩
          · exact hQ _ _ (hM1_2490.mono (by omega))
          · intro x13_2576 ex13_2576 rx13_2576
            have bx13_2576 : 0 ≤ x13_2576 ∧ x13_2576 ≤ 8 := by rw [ex13_2576]; exact bm_c1_45.mp (hM1_2490.bx _ _)
            have fx13_2576 : x13_2576 = M 1 45 := by rw [ex13_2576, h_M1_2490, up2_j (by decide)]
            refine ⟨fun c => ?_, fun c => ?_⟩
            · intro x15_2578 ex15_2578 rx15_2578
              have bx15_2578 : 0 ≤ x15_2578 ∧ x15_2578 ≤ 8 := by rw [ex15_2578]; exact bm_c1_45.mp (hM1_2490.bx _ _)
              have fx15_2578 : x15_2578 = M 1 45 := by rw [ex15_2578, h_M1_2490, up2_j (by decide)]
              refine ⟨by omega, ?_⟩
              refine ⟨by omega, ?_⟩
              intro M18_2579 h_M18_2579
              have hM18_2579 : IM (b) M18_2579 := by rw [h_M18_2579]; exact hM1_2490.up (by omega) (by simp [BM])
              intro x19_2580 ex19_2580 rx19_2580
              have bx19_2580 : 0 ≤ x19_2580 ∧ x19_2580 ≤ 8 := by rw [ex19_2580]; exact bm_c1_45.mp (hM18_2579.bx _ _)
              have fx19_2580 : x19_2580 = M 1 45 := by rw [ex19_2580, h_M18_2579, up2_n (by decide), h_M1_2490, up2_j (by decide)]
              refine ⟨by omega, ?_⟩
              refine ⟨by omega, ?_⟩
              intro M22_2581 h_M22_2581
              have hM22_2581 : IM (b) M22_2581 := by rw [h_M22_2581]; exact hM18_2579.up (by omega) (by simp [BM])
              intro x23_2582 ex23_2582 rx23_2582
              have bx23_2582 : 0 ≤ x23_2582 ∧ x23_2582 ≤ 8 := by rw [ex23_2582]; exact bm_c1_45.mp (hM22_2581.bx _ _)
              have fx23_2582 : x23_2582 = M 1 45 := by rw [ex23_2582, h_M22_2581, up2_n (by decide), h_M18_2579, up2_n (by decide), h_M1_2490, up2_j (by decide)]
              refine ⟨(by first | assumption | exact ⟨by omega, by omega⟩), ?_⟩
              intro M25_2583 h_M25_2583
              have hM25_2583 : IM (b) M25_2583 := by rw [h_M25_2583]; exact hM22_2581.up (by omega) (bm_c1_45.mpr ⟨by omega, by omega⟩)
              intro x26_2584 ex26_2584 rx26_2584
              have bx26_2584 : 0 ≤ x26_2584 ∧ x26_2584 ≤ 8 := by rw [ex26_2584]; exact bm_c1_45.mp (hM25_2583.bx _ _)
              have fx26_2584 : x26_2584 = x23_2582 + 1 := by rw [ex26_2584, h_M25_2583, up2_s]
              exact hQ _ _ (hM25_2583.mono (by omega))
            · exact hQ _ _ (hM1_2490.mono (by omega))
  · unfold qX12_heard_J26
    refine sX12_in (p0 := p1) (p2 := 0) (p4 := 3) hM1_2490  ?_
    intro x4_2587 p2588 q2589 q2590
    refine ⟨fun c => ?_, fun c => ?_⟩
    · exact hQ _ _ (hM1_2490.mono (by omega))
    · refine ⟨fun c => ?_, fun c => ?_⟩
      · unfold qX12_heard_J51
        refine ⟨(by first | assumption | exact ⟨by omega, by omega⟩), ?_⟩
        refine sX12_flag (p0 := 0) hM1_2490  ?_
        intro x8_2594 p2595 q2596
        refine ⟨(by first | assumption | exact ⟨by omega, by omega⟩), ?_⟩
        refine ⟨(by first | assumption | exact ⟨by omega, by omega⟩ | exact iR_lR (by assumption)), ?_⟩
        refine sX12_in (p0 := p2) (p2 := x8_2594) (p4 := 6) hM1_2490  ?_
        intro x11_2597 p2598 q2599 q2600
        refine ⟨fun c => ?_, fun c => ?_⟩
        · exact hQ _ _ (hM1_2490.mono (by omega))
        · intro x13_2603 ex13_2603 rx13_2603
          have bx13_2603 : 0 ≤ x13_2603 ∧ x13_2603 ≤ 8 := by rw [ex13_2603]; exact bm_c1_45.mp (hM1_2490.bx _ _)
          have fx13_2603 : x13_2603 = M 1 45 := by rw [ex13_2603, h_M1_2490, up2_j (by decide)]
          refine ⟨fun c => ?_, fun c => ?_⟩
          · intro x15_2605 ex15_2605 rx15_2605
            have bx15_2605 : 0 ≤ x15_2605 ∧ x15_2605 ≤ 8 := by rw [ex15_2605]; exact bm_c1_45.mp (hM1_2490.bx _ _)
            have fx15_2605 : x15_2605 = M 1 45 := by rw [ex15_2605, h_M1_2490, up2_j (by decide)]
            refine ⟨by omega, ?_⟩
            refine ⟨by omega, ?_⟩
            intro M18_2606 h_M18_2606
            have hM18_2606 : IM (b) M18_2606 := by rw [h_M18_2606]; exact hM1_2490.up (by omega) (by simp [BM])
            intro x19_2607 ex19_2607 rx19_2607
            have bx19_2607 : 0 ≤ x19_2607 ∧ x19_2607 ≤ 8 := by rw [ex19_2607]; exact bm_c1_45.mp (hM18_2606.bx _ _)
            have fx19_2607 : x19_2607 = M 1 45 := by rw [ex19_2607, h_M18_2606, up2_n (by decide), h_M1_2490, up2_j (by decide)]
            refine ⟨by omega, ?_⟩
            refine ⟨by omega, ?_⟩
            intro M22_2608 h_M22_2608
            have hM22_2608 : IM (b) M22_2608 := by rw [h_M22_2608]; exact hM18_2606.up (by omega) (by simp [BM])
            intro x23_2609 ex23_2609 rx23_2609
            have bx23_2609 : 0 ≤ x23_2609 ∧ x23_2609 ≤ 8 := by rw [ex23_2609]; exact bm_c1_45.mp (hM22_2608.bx _ _)
            have fx23_2609 : x23_2609 = M 1 45 := by rw [ex23_2609, h_M22_2608, up2_n (by decide), h_M18_2606, up2_n (by decide), h_M1_2490, up2_j (by decide)]
            refine ⟨(by first | assumption | exact ⟨by omega, by omega⟩), ?_⟩
            intro M25_2610 h_M25_2610
            have hM25_2610 : IM (b) M25_2610 := by rw [h_M25_2610]; exact hM22_2608.up (by omega) (bm_c1_45.mpr ⟨by omega, by omega⟩)
            intro x26_2611 ex26_2611 rx26_2611
            have bx26_2611 : 0 ≤ x26_2611 ∧ x26_2611 ≤ 8 := by rw [ex26_2611]; exact bm_c1_45.mp (hM25_2610.bx _ _)
            have fx26_2611 : x26_2611 = x23_2609 + 1 := by rw [ex26_2611, h_M25_2610, up2_s]
            exact hQ _ _ (hM25_2610.mono (by omega))
          · exact hQ _ _ (hM1_2490.mono (by omega))
      · unfold qX12_heard_J51
        refine ⟨(by first | assumption | exact ⟨by omega, by omega⟩), ?_⟩
        refine sX12_flag (p0 := 1) hM1_2490  ?_
        intro x8_2614 p2615 q2616
        refine ⟨(by first | assumption | exact ⟨by omega, by omega⟩), ?_⟩
        refine ⟨(by first | assumption | exact ⟨by omega, by omega⟩ | exact iR_lR (by assumption)), ?_⟩
        refine sX12_in (p0 := p2) (p2 := x8_2614) (p4 := 6) hM1_2490  ?_
        intro x11_2617 p2618 q2619 q2620
        refine ⟨fun c => ?_, fun c => ?_⟩
        · exact hQ _ _ (hM1_2490.mono (by omega))
        · intro x13_2623 ex13_2623 rx13_2623
          have bx13_2623 : 0 ≤ x13_2623 ∧ x13_2623 ≤ 8 := by rw [ex13_2623]; exact bm_c1_45.mp (hM1_2490.bx _ _)
          have fx13_2623 : x13_2623 = M 1 45 := by rw [ex13_2623, h_M1_2490, up2_j (by decide)]
          refine ⟨fun c => ?_, fun c => ?_⟩
          · intro x15_2625 ex15_2625 rx15_2625
            have bx15_2625 : 0 ≤ x15_2625 ∧ x15_2625 ≤ 8 := by rw [ex15_2625]; exact bm_c1_45.mp (hM1_2490.bx _ _)
            have fx15_2625 : x15_2625 = M 1 45 := by rw [ex15_2625, h_M1_2490, up2_j (by decide)]
            refine ⟨by omega, ?_⟩
            refine ⟨by omega, ?_⟩
            intro M18_2626 h_M18_2626
            have hM18_2626 : IM (b) M18_2626 := by rw [h_M18_2626]; exact hM1_2490.up (by omega) (by simp [BM])
            intro x19_2627 ex19_2627 rx19_2627
            have bx19_2627 : 0 ≤ x19_2627 ∧ x19_2627 ≤ 8 := by rw [ex19_2627]; exact bm_c1_45.mp (hM18_2626.bx _ _)
            have fx19_2627 : x19_2627 = M 1 45 := by rw [ex19_2627, h_M18_2626, up2_n (by decide), h_M1_2490, up2_j (by decide)]
            refine ⟨by omega, ?_⟩
            refine ⟨by omega, ?_⟩
            intro M22_2628 h_M22_2628
            have hM22_2628 : IM (b) M22_2628 := by rw [h_M22_2628]; exact hM18_2626.up (by omega) (by simp [BM])
            intro x23_2629 ex23_2629 rx23_2629
            have bx23_2629 : 0 ≤ x23_2629 ∧ x23_2629 ≤ 8 := by rw [ex23_2629]; exact bm_c1_45.mp (hM22_2628.bx _ _)
            have fx23_2629 : x23_2629 = M 1 45 := by rw [ex23_2629, h_M22_2628, up2_n (by decide), h_M18_2626, up2_n (by decide), h_M1_2490, up2_j (by decide)]
            refine ⟨(by first | assumption | exact ⟨by omega, by omega⟩), ?_⟩
            intro M25_2630 h_M25_2630
            have hM25_2630 : IM (b) M25_2630 := by rw [h_M25_2630]; exact hM22_2628.up (by omega) (bm_c1_45.mpr ⟨by omega, by omega⟩)
            intro x26_2631 ex26_2631 rx26_2631
            have bx26_2631 : 0 ≤ x26_2631 ∧ x26_2631 ≤ 8 := by rw [ex26_2631]; exact bm_c1_45.mp (hM25_2630.bx _ _)
            have fx26_2631 : x26_2631 = x23_2629 + 1 := by rw [ex26_2631, h_M25_2630, up2_s]
            exact hQ _ _ (hM25_2630.mono (by omega))
          · exact hQ _ _ (hM1_2490.mono (by omega))
theorem sX12_forget  {b : Int} {M : Mem} {Q : Int → Mem → Prop} (hI : IM b M) (hQ : ∀ z : Int, ∀ M' : Mem, IM b M' → Q z M') : qX12_forget M Q := by
  unfold qX12_forget
  have hbn := hI.nn
  intro M1_2633 h_M1_2633
  have hM1_2633 : IM (b) M1_2633 := by rw [h_M1_2633]; exact hI.up (by omega) (by simp [BM])
  intro x2_2634 ex2_2634 rx2_2634
  have bx2_2634 : 0 ≤ x2_2634 ∧ x2_2634 ≤ 8 := by rw [ex2_2634]; exact bm_c1_45.mp (hM1_2633.bx _ _)
  have fx2_2634 : x2_2634 = M 1 45 := by rw [ex2_2634, h_M1_2633, up2_j (by decide)]
  intro M3_2635 h_M3_2635
  have hM3_2635 : IM (b) M3_2635 := by rw [h_M3_2635]; exact hM1_2633.up (by omega) (bm_c1_45.mpr ⟨by omega, by omega⟩)
  exact hQ _ _ (hM3_2635.mono (by omega))
theorem sX12_isSo {p1 : Int} {p2 : Int} {p3 : Int} {b : Int} {M : Mem} {Q : Int → Mem → Prop} (hI : IM b M) (hp : 0 ≤ p1 ∧ p1 ≤ 5) (hQ : ∀ z : Int, Q z M) : qX12_isSo p1 p2 p3 M Q := by
  unfold qX12_isSo
  have hbn := hI.nn
  refine ⟨fun c => ?_, fun c => ?_, fun c => ?_, fun c => ?_⟩
  · refine sX12_owners (p1 := p1) hI  ?_
    intro x2_2637 q2638
    refine sJ6_bitCountM (p0 := x2_2637) hI  ?_
    intro x3_2639 p2640 q2641
    refine ⟨fun c => ?_, fun c => ?_⟩
    · exact hQ _
    · exact hQ _
  · refine sX12_isOn (p1 := p1) hI (Or.inr rfl) (by omega) ?_
    intro x5_2645 p2646 q2647 q2648
    refine ⟨fun c => ?_, fun c => ?_⟩
    · exact hQ _
    · refine ⟨by omega, ?_⟩
      refine ⟨by omega, ?_⟩
      intro x9_2651 ex9_2651 rx9_2651
      have bx9_2651 : -2147483648 ≤ x9_2651 ∧ x9_2651 ≤ 2147483647 := rx9_2651
      refine ⟨fun c => ?_, fun c => ?_⟩
      · exact hQ _
      · exact hQ _
  · refine sX12_bitsBy (p2 := 29) (p3 := p1) hI (Or.inr rfl) (by omega) ?_
    intro x11_2655 q2656
    refine sJ6_bitCountM (p0 := x11_2655) hI  ?_
    intro x12_2657 p2658 q2659
    refine ⟨fun c => ?_, fun c => ?_⟩
    · exact hQ _
    · exact hQ _
  · intro x14_2663 ex14_2663 rx14_2663
    first | (have fx14_2663 := rmI_b (a := p1) (b := 2) ⟨by omega, by omega⟩ ⟨by omega, by omega⟩; rw [← ex14_2663] at fx14_2663) | skip
    refine ⟨fun c => ?_, fun c => ?_⟩
    · exact hQ _
    · exact hQ _
theorem sX12_fits_L37  {X84 : Int → Int → Int → Mem → Prop} {Q : Int → Mem → Prop} {b : Int} {g1 : Int} {g2 : Int} (hb : b + 200 ≤ 2000000000) (hQ : ∀ z : Int, ∀ M' : Mem, IM (b + 200) M' → Q z M') (hX84 : ∀ w1 w2 w3 : Int, ∀ M' : Mem, IM (b + 200) M' → (w1 = g1 ∧ w2 = g2 ∧ 0 ≤ w3 ∧ w3 ≤ 1) → X84 w1 w2 w3 M') : ∀ (n : Nat) (v1 v2 v3 v4 : Int) (M : Mem), IM (b + 200) M → (v1 = g1 ∧ v2 = g2 ∧ 0 ≤ v2 ∧ v2 ≤ 5 ∧ 0 ≤ v3 ∧ v3 ≤ 1 ∧ 0 ≤ v4 ∧ v4 ≤ 8) → 8 - v4 < (n : Int) → qX12_fits_L37 X84 Q n v1 v2 v3 v4 M := by
  intro n
  induction n with
  | zero => intro v1 v2 v3 v4 M hI hv hm; exact absurd hm (by omega)
  | succ n ih =>
    intro v1 v2 v3 v4 M hI hv hm
    rw [qX12_fits_L37]
    have hbn := hI.nn
    intro x7_2666 ex7_2666 rx7_2666
    have bx7_2666 : 0 ≤ x7_2666 ∧ x7_2666 ≤ 8 := by rw [ex7_2666]; exact bm_c1_45.mp (hI.bx _ _)
    refine ⟨(by first | assumption | exact ⟨by omega, by omega⟩), ?_⟩
    refine ⟨fun c => ?_, fun c => ?_⟩
    · exact hX84 _ _ _ _ (hI.mono (by omega)) (by omega)
    · refine ⟨(by first | assumption | exact ⟨by omega, by omega⟩), ?_⟩
      refine ⟨fun c => ?_, fun c => ?_⟩
      · exact ih _ _ _ _ _ (hI.mono (by omega)) (by omega) (by omega)
      · refine ⟨by omega, ?_⟩
        refine ⟨by omega, ?_⟩
        intro x14_2671 ex14_2671 rx14_2671
        have bx14_2671 : -2147483648 ≤ x14_2671 ∧ x14_2671 ≤ 2147483647 := rx14_2671
        intro x15_2672 ex15_2672 rx15_2672
        have bx15_2672 : -2147483648 ≤ x15_2672 ∧ x15_2672 ≤ 2147483647 := rx15_2672
        refine ⟨(by first | assumption | exact ⟨by omega, by omega⟩), ?_⟩
        refine sX12_isSo (p1 := v2) (p2 := x14_2671) (p3 := x15_2672) hI (by omega) ?_
        intro x17_2673 q2674 q2675
        refine ⟨fun c => ?_, fun c => ?_⟩
        · exact ih _ _ _ _ _ (hI.mono (by omega)) (by omega) (by omega)
        · exact ih _ _ _ _ _ (hI.mono (by omega)) (by omega) (by omega)
theorem sX12_fits_L24  {X104 : Int → Mem → Prop} {Q : Int → Mem → Prop} {b : Int} (hb : b + 200 ≤ 2000000000) (hQ : ∀ z : Int, ∀ M' : Mem, IM (b + 200) M' → Q z M') (hX104 : ∀ w1 : Int, ∀ M' : Mem, IM (b + 200) M' → iR w1 → X104 w1 M') : ∀ (n : Nat) (v1 v2 : Int) (M : Mem), IM (b + 200) M → (0 ≤ v2 ∧ v2 ≤ 6) → iR v1 → 6 - v2 < (n : Int) → qX12_fits_L24 X104 Q n v1 v2 M := by
  intro n
  induction n with
  | zero => intro v1 v2 M hI hv hrv1 hm; exact absurd hm (by omega)
  | succ n ih =>
    intro v1 v2 M hI hv hrv1 hm
    rw [qX12_fits_L24]
    have hbn := hI.nn
    intro x4_2678 ex4_2678 rx4_2678
    have bx4_2678 : 0 ≤ x4_2678 ∧ x4_2678 ≤ 6 := by rw [ex4_2678]; exact bm_c1_4.mp (hI.bx _ _)
    refine ⟨(by first | assumption | exact ⟨by omega, by omega⟩), ?_⟩
    refine ⟨fun c => ?_, fun c => ?_⟩
    · exact hX104 _ _ (hI.mono (by omega)) (by first | assumption | exact ⟨by omega, by omega⟩)
    · refine ⟨9, ?_⟩
      refine sX12_fits_L37 (b := b)  (g1 := v1) (g2 := v2) hb ?_ ?_ _ _ _ _ _ _ (hI.mono (by omega)) (by omega) (by omega)
      · exact hQ
      · intro v1_2681 v2_2682 v3_2683 M_2684 hM_2684 p2685
        refine ⟨(by first | assumption | exact ⟨by omega, by omega⟩), ?_⟩
        refine ⟨fun c => ?_, fun c => ?_⟩
        · intro x22_2687 ex22_2687 rx22_2687
          first | (have fx22_2687 := oI_64 (a := v1_2681) (b := 0) ⟨by omega, by omega⟩ ⟨by omega, by omega⟩; rw [← ex22_2687] at fx22_2687) | skip
          exact ih _ _ _ (hM_2684.mono (by omega)) (by omega) (by first | assumption | exact ⟨by omega, by omega⟩) (by omega)
        · intro x23_2689 ex23_2689 rx23_2689
          first | (have fx23_2689 := slI_1 (b := v2_2682) ⟨by omega, by omega⟩; rw [← ex23_2689] at fx23_2689) | skip
          intro x24_2690 ex24_2690 rx24_2690
          first | (have fx24_2690 := oI_64 (a := v1_2681) (b := x23_2689) ⟨by omega, by omega⟩ ⟨by omega, by omega⟩; rw [← ex24_2690] at fx24_2690) | skip
          exact ih _ _ _ (hM_2684.mono (by omega)) (by omega) (by first | assumption | exact ⟨by omega, by omega⟩) (by omega)
theorem sX12_fits  {b : Int} {M : Mem} {Q : Int → Mem → Prop} (hI : IM b M) (hb : b + 200 ≤ 2000000000) (hQ : ∀ z : Int, ∀ M' : Mem, IM (b + 200) M' → Q z M') : qX12_fits M Q := by
  unfold qX12_fits
  have hbn := hI.nn
  intro M1_2691 h_M1_2691
  have hM1_2691 : IM (b) M1_2691 := by rw [h_M1_2691]; exact hI.up (by omega) (by simp [BM])
  refine sX12_copies  hM1_2691  ?_
  intro M2_2692 hM2_2692
  refine sX12_goesOn (p2 := 200) hM2_2692 (by omega) (Or.inr rfl) (by omega) ?_
  intro M3_2693 hM3_2693
  refine ⟨7, ?_⟩
  refine sX12_fits_L24 (b := b)  hb ?_ ?_ _ _ _ _ (hM3_2693.mono (by omega)) (by omega) (by first | assumption | exact ⟨by omega, by omega⟩) (by omega)
  · exact hQ
  · intro v1_2694 M_2695 hM_2695 r2696
    intro M26_2697 h_M26_2697
    have hM26_2697 : IM (b + 200) M26_2697 := by rw [h_M26_2697]; exact hM_2695.up (by omega) (bm_c1_1.mpr ⟨by omega, by omega⟩)
    refine ⟨(by first | assumption | exact ⟨by omega, by omega⟩), ?_⟩
    refine sJ6_bitCountM (p0 := v1_2694) hM26_2697  ?_
    intro x28_2698 p2699 q2700
    have u2701 : 0 ≤ M26_2697 1 1 ∧ M26_2697 1 1 ≤ 24 := bm_c1_1.mp (hM26_2697.bx _ _)
    have t2702 : M26_2697 1 1 = 0 := by rw [h_M26_2697, up2_s]
    refine sX12_enters (p1 := x28_2698) hM26_2697 (by omega) ?_
    intro M29_2703 hM29_2703 p2704
    exact hQ _ _ (hM29_2703.mono (by omega))
theorem sX12_rains {p1 : Int} {p2 : Int} {p3 : Int} {b : Int} {M : Mem} {Q : Int → Mem → Prop} (hI : IM b M) (hQ : ∀ z : Int, Q z M) : qX12_rains p1 p2 p3 M Q := sorry
theorem sX12_law  {b : Int} {M : Mem} {Q : Int → Mem → Prop} (hI : IM b M) (hb : b + 400 ≤ 2000000000) (hQ : ∀ z : Int, Q z M) : qX12_law M Q := sorry
theorem sX12_gets {p0 : Int} {p1 : Int} {p2 : Int} {b : Int} {M : Mem} {Q : Int → Mem → Prop} (hI : IM b M) (hp : 0 ≤ p0 ∧ p0 ≤ 9 ∧ 0 ≤ p1 ∧ p1 ≤ 9 ∧ 0 ≤ p2 ∧ p2 ≤ 20) (hQ : ∀ z : Int, (-30 ≤ z ∧ z ≤ 30) → Q z M) : qX12_gets p0 p1 p2 M Q := by
  unfold qX12_gets
  have hbn := hI.nn
  refine ⟨fun c => ?_, fun c => ?_⟩
  · refine ⟨fun c => ?_, fun c => ?_⟩
    · unfold qX12_gets_J21
      refine ⟨(by first | assumption | exact ⟨by omega, by omega⟩), ?_⟩
      refine ⟨fun c => ?_, fun c => ?_⟩
      · unfold qX12_gets_J36
        refine ⟨(by first | assumption | exact ⟨by omega, by omega⟩), ?_⟩
        refine sX12_flag (p0 := 0) hI  ?_
        intro x6_2708 p2709 q2710
        refine ⟨(by first | assumption | exact ⟨by omega, by omega⟩), ?_⟩
        exact hQ _ (by omega)
      · unfold qX12_gets_J36
        refine ⟨(by first | assumption | exact ⟨by omega, by omega⟩), ?_⟩
        refine sX12_flag (p0 := 1) hI  ?_
        intro x6_2712 p2713 q2714
        refine ⟨(by first | assumption | exact ⟨by omega, by omega⟩), ?_⟩
        exact hQ _ (by omega)
    · intro x8_2716 ex8_2716 rx8_2716
      first | (have fx8_2716 := dvI_b (a := p2) (b := 2) ⟨by omega, by omega⟩ ⟨by omega, by omega⟩; rw [← ex8_2716] at fx8_2716) | skip
      unfold qX12_gets_J21
      refine ⟨(by first | assumption | exact ⟨by omega, by omega⟩), ?_⟩
      refine ⟨fun c => ?_, fun c => ?_⟩
      · unfold qX12_gets_J36
        refine ⟨(by first | assumption | exact ⟨by omega, by omega⟩), ?_⟩
        refine sX12_flag (p0 := 0) hI  ?_
        intro x6_2718 p2719 q2720
        refine ⟨(by first | assumption | exact ⟨by omega, by omega⟩), ?_⟩
        exact hQ _ (by omega)
      · unfold qX12_gets_J36
        refine ⟨(by first | assumption | exact ⟨by omega, by omega⟩), ?_⟩
        refine sX12_flag (p0 := 1) hI  ?_
        intro x6_2722 p2723 q2724
        refine ⟨(by first | assumption | exact ⟨by omega, by omega⟩), ?_⟩
        exact hQ _ (by omega)
  · unfold qX12_gets_J21
    refine ⟨(by first | assumption | exact ⟨by omega, by omega⟩), ?_⟩
    refine ⟨fun c => ?_, fun c => ?_⟩
    · unfold qX12_gets_J36
      refine ⟨(by first | assumption | exact ⟨by omega, by omega⟩), ?_⟩
      refine sX12_flag (p0 := 0) hI  ?_
      intro x6_2727 p2728 q2729
      refine ⟨(by first | assumption | exact ⟨by omega, by omega⟩), ?_⟩
      exact hQ _ (by omega)
    · unfold qX12_gets_J36
      refine ⟨(by first | assumption | exact ⟨by omega, by omega⟩), ?_⟩
      refine sX12_flag (p0 := 1) hI  ?_
      intro x6_2731 p2732 q2733
      refine ⟨(by first | assumption | exact ⟨by omega, by omega⟩), ?_⟩
      exact hQ _ (by omega)
theorem sX12_isRest_L5 {p0 : Int} {p1 : Int} {p2 : Int}  {Q : Int → Mem → Prop} {b : Int} {M0 : Mem} (hp : 0 ≤ p0 ∧ p0 ≤ 9 ∧ 0 ≤ p1 ∧ p1 ≤ 9 ∧ 0 ≤ p2 ∧ p2 ≤ 20) (hQ : ∀ z : Int, Q z M0) : ∀ (n : Nat) (v3 v4 : Int), IM (b) M0 → (0 ≤ v3 ∧ v3 ≤ 1 ∧ 0 ≤ v4 ∧ v4 ≤ 10) → 10 - v4 < (n : Int) → qX12_isRest_L5 p0 p1 p2 Q n v3 v4 M0 := by
  intro n
  induction n with
  | zero => intro v3 v4 hI hv hm; exact absurd hm (by omega)
  | succ n ih =>
    intro v3 v4 hI hv hm
    rw [qX12_isRest_L5]
    have hbn := hI.nn
    refine ⟨(by first | assumption | exact ⟨by omega, by omega⟩), ?_⟩
    refine ⟨fun c => ?_, fun c => ?_⟩
    · refine ⟨(by first | assumption | exact ⟨by omega, by omega⟩), ?_⟩
      refine ⟨by omega, ?_⟩
      exact hQ _
    · refine ⟨(by first | assumption | exact ⟨by omega, by omega⟩), ?_⟩
      refine ⟨fun c => ?_, fun c => ?_⟩
      · exact ih _ _ (hI.mono (by omega)) (by omega) (by omega)
      · refine sX12_gets (p0 := v4) (p1 := p1) (p2 := p2) hI (by omega) ?_
        intro x7_2738 p2739 q2740
        refine sX12_gets (p0 := p0) (p1 := p1) (p2 := p2) hI (by omega) ?_
        intro x8_2741 p2742 q2743
        refine ⟨fun c => ?_, fun c => ?_⟩
        · exact ih _ _ (hI.mono (by omega)) (by omega) (by omega)
        · exact ih _ _ (hI.mono (by omega)) (by omega) (by omega)
theorem sX12_isRest {p0 : Int} {p1 : Int} {p2 : Int} {b : Int} {M : Mem} {Q : Int → Mem → Prop} (hI : IM b M) (hp : 0 ≤ p0 ∧ p0 ≤ 9 ∧ 0 ≤ p1 ∧ p1 ≤ 9 ∧ 0 ≤ p2 ∧ p2 ≤ 20) (hQ : ∀ z : Int, Q z M) : qX12_isRest p0 p1 p2 M Q := by
  unfold qX12_isRest
  have hbn := hI.nn
  refine ⟨11, ?_⟩
  refine sX12_isRest_L5 (b := b) (p0 := p0) (p1 := p1) (p2 := p2) (M0 := M) hp ?_ _ _ _ (hI.mono (by omega)) (by omega) (by omega)
  · exact hQ
theorem sX12_rests_L37 {p1 : Int} {X90 : Int → Int → Mem → Prop} {Q : Int → Mem → Prop} {b : Int} {g0 : Int} (hQ : ∀ z : Int, ∀ M' : Mem, IM b M' → Q z M') (hX90 : ∀ w1 w2 : Int, ∀ M' : Mem, IM (b) M' → (w2 = g0 ∧ 0 ≤ w1 ∧ w1 ≤ 10 * g0 + 10 ∧ (w1 = 0 → M' 1 1 = 0)) → X90 w1 w2 M') : ∀ (n : Nat) (v2 v3 v4 : Int) (M : Mem), IM (b) M → (v3 = g0 ∧ 0 ≤ v2 ∧ v2 ≤ 10 * v3 + v4 ∧ 0 ≤ v3 ∧ v3 ≤ 9 ∧ 0 ≤ v4 ∧ v4 ≤ 10 ∧ 0 ≤ p1 ∧ p1 ≤ 20 ∧ (v2 = 0 → M 1 1 = 0)) → 10 - v4 < (n : Int) → qX12_rests_L37 p1 X90 Q n v2 v3 v4 M := by
  intro n
  induction n with
  | zero => intro v2 v3 v4 M hI hv hm; exact absurd hm (by omega)
  | succ n ih =>
    intro v2 v3 v4 M hI hv hm
    rw [qX12_rests_L37]
    have hbn := hI.nn
    have u2746 : 0 ≤ M 1 1 ∧ M 1 1 ≤ 24 := bm_c1_1.mp (hI.bx _ _)
    refine ⟨(by first | assumption | exact ⟨by omega, by omega⟩), ?_⟩
    refine ⟨fun c => ?_, fun c => ?_⟩
    · have u2748 : 0 ≤ M 1 1 ∧ M 1 1 ≤ 24 := bm_c1_1.mp (hI.bx _ _)
      exact hX90 _ _ _ (hI.mono (by omega)) (by omega)
    · refine ⟨(by first | assumption | exact ⟨by omega, by omega⟩), ?_⟩
      refine sX12_isRest (p0 := v3) (p1 := v4) (p2 := p1) hI (by omega) ?_
      intro x11_2750 q2751 q2752
      refine ⟨fun c => ?_, fun c => ?_⟩
      · have u2754 : 0 ≤ M 1 1 ∧ M 1 1 ≤ 24 := bm_c1_1.mp (hI.bx _ _)
        exact ih _ _ _ _ (hI.mono (by omega)) (by omega) (by omega)
      · refine sX12_isRest (p0 := v4) (p1 := v3) (p2 := p1) hI (by omega) ?_
        intro x13_2756 q2757 q2758
        refine ⟨fun c => ?_, fun c => ?_⟩
        · have u2760 : 0 ≤ M 1 1 ∧ M 1 1 ≤ 24 := bm_c1_1.mp (hI.bx _ _)
          exact ih _ _ _ _ (hI.mono (by omega)) (by omega) (by omega)
        · refine ⟨(by first | assumption | exact ⟨by omega, by omega⟩), ?_⟩
          refine ⟨fun c => ?_, fun c => ?_⟩
          · have u2763 : 0 ≤ M 1 1 ∧ M 1 1 ≤ 24 := bm_c1_1.mp (hI.bx _ _)
            exact ih _ _ _ _ (hI.mono (by omega)) (by omega) (by omega)
          · have u2765 : 0 ≤ M 1 1 ∧ M 1 1 ≤ 24 := bm_c1_1.mp (hI.bx _ _)
            refine sX12_enters (p1 := v3) hI (by omega) ?_
            intro M17_2766 hM17_2766 p2767
            have u2768 : 0 ≤ M17_2766 1 1 ∧ M17_2766 1 1 ≤ 24 := bm_c1_1.mp (hM17_2766.bx _ _)
            refine sX12_enters (p1 := v4) hM17_2766 (by omega) ?_
            intro M18_2769 hM18_2769 p2770
            have u2771 : 0 ≤ M18_2769 1 1 ∧ M18_2769 1 1 ≤ 24 := bm_c1_1.mp (hM18_2769.bx _ _)
            exact ih _ _ _ _ (hM18_2769.mono (by omega)) (by omega) (by omega)
theorem sX12_rests_L28 {p1 : Int}  {Q : Int → Mem → Prop} {b : Int} (hQ : ∀ z : Int, ∀ M' : Mem, IM b M' → Q z M') : ∀ (n : Nat) (v2 v3 : Int) (M : Mem), IM (b) M → (0 ≤ v2 ∧ v2 ≤ 10 * v3 ∧ 0 ≤ v3 ∧ v3 ≤ 10 ∧ 0 ≤ p1 ∧ p1 ≤ 20 ∧ (v2 = 0 → M 1 1 = 0)) → 10 - v3 < (n : Int) → qX12_rests_L28 p1 Q n v2 v3 M := by
  intro n
  induction n with
  | zero => intro v2 v3 M hI hv hm; exact absurd hm (by omega)
  | succ n ih =>
    intro v2 v3 M hI hv hm
    rw [qX12_rests_L28]
    have hbn := hI.nn
    have u2772 : 0 ≤ M 1 1 ∧ M 1 1 ≤ 24 := bm_c1_1.mp (hI.bx _ _)
    refine ⟨(by first | assumption | exact ⟨by omega, by omega⟩), ?_⟩
    refine ⟨fun c => ?_, fun c => ?_⟩
    · refine ⟨(by first | assumption | exact ⟨by omega, by omega⟩), ?_⟩
      exact hQ _ _ (hI.mono (by omega))
    · refine ⟨11, ?_⟩
      have u2775 : 0 ≤ M 1 1 ∧ M 1 1 ≤ 24 := bm_c1_1.mp (hI.bx _ _)
      refine sX12_rests_L37 (b := b) (p1 := p1) (g0 := v3) ?_ ?_ _ _ _ _ _ (hI.mono (by omega)) (by omega) (by omega)
      · exact hQ
      · intro v2_2776 v3_2777 M_2778 hM_2778 p2779
        have u2780 : 0 ≤ M_2778 1 1 ∧ M_2778 1 1 ≤ 24 := bm_c1_1.mp (hM_2778.bx _ _)
        exact ih _ _ _ (hM_2778.mono (by omega)) (by omega) (by omega)
theorem sX12_rests {p1 : Int} {b : Int} {M : Mem} {Q : Int → Mem → Prop} (hI : IM b M) (hQ : ∀ z : Int, ∀ M' : Mem, IM b M' → Q z M') : qX12_rests p1 M Q := by
  unfold qX12_rests
  have hbn := hI.nn
  intro M1_2781 h_M1_2781
  have hM1_2781 : IM (b) M1_2781 := by rw [h_M1_2781]; exact hI.up (by omega) (by simp [BM])
  refine sX12_in (p0 := p1) (p2 := 0) (p4 := 20) hM1_2781  ?_
  intro x2_2782 p2783 q2784 q2785
  refine ⟨fun c => ?_, fun c => ?_⟩
  · intro M4_2787 h_M4_2787
    have hM4_2787 : IM (b) M4_2787 := by rw [h_M4_2787]; exact hM1_2781.up (by omega) (bm_c1_1.mpr ⟨by omega, by omega⟩)
    refine ⟨11, ?_⟩
    have u2788 : 0 ≤ M4_2787 1 1 ∧ M4_2787 1 1 ≤ 24 := bm_c1_1.mp (hM4_2787.bx _ _)
    have t2789 : M4_2787 1 1 = 0 := by rw [h_M4_2787, up2_s]
    refine sX12_rests_L28 (b := b) (p1 := p1) ?_ _ _ _ _ (hM4_2787.mono (by omega)) (by omega) (by omega)
    · exact hQ
  · exact hQ _ _ (hM1_2781.mono (by omega))
theorem sX12_draws {p1 : Int} {b : Int} {M : Mem} {Q : Int → Mem → Prop} (hI : IM b M) (hp : 1 ≤ p1 ∧ p1 ≤ 100) (hQ : ∀ z : Int, ∀ M' : Mem, IM b M' → (0 ≤ z ∧ z ≤ p1 - 1) → Q z M') : qX12_draws p1 M Q := by
  unfold qX12_draws
  have hbn := hI.nn
  intro x1_2791 ex1_2791 rx1_2791
  have bx1_2791 : -2147483648 ≤ x1_2791 ∧ x1_2791 ≤ 2147483647 := rx1_2791
  intro x2_2792 ex2_2792 rx2_2792
  first | (have fx2_2792 : x2_2792 = x1_2791 * 1103515245 := by rw [ex2_2792]; exact w32_id ⟨by omega, by omega⟩) | skip
  intro x3_2793 ex3_2793 rx3_2793
  first | (have fx3_2793 : x3_2793 = x2_2792 + 12345 := by rw [ex3_2793]; exact w32_id ⟨by omega, by omega⟩) | skip
  intro M4_2794 h_M4_2794
  have hM4_2794 : IM (b) M4_2794 := by rw [h_M4_2794]; exact hI.up (by omega) (by simp [BM])
  intro x5_2795 ex5_2795 rx5_2795
  have bx5_2795 : -2147483648 ≤ x5_2795 ∧ x5_2795 ≤ 2147483647 := rx5_2795
  have fx5_2795 : x5_2795 = x3_2793 := by rw [ex5_2795, h_M4_2794, up2_s]
  intro x6_2796 ex6_2796 rx6_2796
  have fx6_2796 := usI_16 x5_2795; rw [← ex6_2796] at fx6_2796
  refine ⟨by omega, ?_⟩
  intro x8_2797 ex8_2797 rx8_2797
  first | (have fx8_2797 := rmI_b (a := x6_2796) (b := p1) ⟨by omega, by omega⟩ ⟨by omega, by omega⟩; rw [← ex8_2797] at fx8_2797) | skip
  exact hQ _ _ (hM4_2794.mono (by omega)) (by omega)
theorem sX12_years_L30 {p1 : Int} {p2 : Int} {X120 : Mem → Prop} {Q : Int → Mem → Prop} {b : Int} (hb : b + 60 ≤ 2000000000) (hQ : ∀ z : Int, ∀ M' : Mem, IM (b + 60) M' → Q z M') (hX120 : ∀ M' : Mem, IM (b + 60) M' → X120 M') : ∀ (n : Nat) (v3 : Int) (M : Mem), IM (b + v3) M → (0 ≤ v3 ∧ v3 ≤ 60 ∧ p2 ≤ 60) → 60 - v3 < (n : Int) → qX12_years_L30 p1 p2 X120 Q n v3 M := by
  intro n
  induction n with
  | zero => intro v3 M hI hv hm; exact absurd hm (by omega)
  | succ n ih =>
    intro v3 M hI hv hm
    rw [qX12_years_L30]
    have hbn := hI.nn
    refine ⟨(by first | assumption | exact ⟨by omega, by omega⟩), ?_⟩
    refine ⟨fun c => ?_, fun c => ?_⟩
    · exact hX120 _ (hI.mono (by omega))
    · refine sX12_draws (p1 := 4) hI (by omega) ?_
      intro x8_2800 M8_2801 hM8_2801 p2802 q2803
      refine ⟨fun c => ?_, fun c => ?_⟩
      · intro x10_2805 ex10_2805 rx10_2805
        have bx10_2805 : 0 ≤ x10_2805 ∧ x10_2805 ≤ 8 := by rw [ex10_2805]; exact bm_c1_5.mp (hM8_2801.bx _ _)
        refine ⟨fun c => ?_, fun c => ?_⟩
        · exact ih _ _ (hM8_2801.mono (by omega)) (by omega) (by omega)
        · intro x12_2808 ex12_2808 rx12_2808
          have bx12_2808 : 0 ≤ x12_2808 ∧ x12_2808 ≤ 8 := by rw [ex12_2808]; exact bm_c1_5.mp (hM8_2801.bx _ _)
          refine sX12_draws (p1 := x12_2808) hM8_2801 (by omega) ?_
          intro x13_2809 M13_2810 hM13_2810 p2811 q2812
          refine ⟨fun c => ?_, fun c => ?_⟩
          · refine sX12_draws (p1 := 5) hM13_2810 (by omega) ?_
            intro x15_2814 M15_2815 hM15_2815 p2816 q2817
            refine ⟨(by first | assumption | exact ⟨by omega, by omega⟩), ?_⟩
            refine sX12_pushesOne (p2 := x13_2809) (p3 := x15_2814 - 2) hM15_2815 (Or.inr rfl) ?_
            intro x17_2818 M17_2819 hM17_2819 q2820
            exact ih _ _ (hM17_2819.mono (by omega)) (by omega) (by omega)
          · refine sX12_turnsOne (p2 := x13_2809) hM13_2810 (Or.inr rfl) ?_
            intro x18_2822 M18_2823 hM18_2823 q2824
            exact ih _ _ (hM18_2823.mono (by omega)) (by omega) (by omega)
      · refine sX12_stepGoes  hM8_2801 (by omega) (Or.inr rfl) ?_
        intro M19_2826 hM19_2826
        exact ih _ _ (hM19_2826.mono (by omega)) (by omega) (by omega)
theorem sX12_years {p1 : Int} {p2 : Int} {b : Int} {M : Mem} {Q : Int → Mem → Prop} (hI : IM b M) (hb : b + 60 ≤ 2000000000) (hQ : ∀ z : Int, ∀ M' : Mem, IM (b + 60) M' → Q z M') : qX12_years p1 p2 M Q := by
  unfold qX12_years
  have hbn := hI.nn
  intro M1_2827 h_M1_2827
  have hM1_2827 : IM (b) M1_2827 := by rw [h_M1_2827]; exact hI.up (by omega) (by simp [BM])
  refine sX12_in (p0 := p2) (p2 := 1) (p4 := 60) hM1_2827  ?_
  intro x2_2828 p2829 q2830 q2831
  refine ⟨fun c => ?_, fun c => ?_⟩
  · intro M4_2833 h_M4_2833
    have hM4_2833 : IM (b) M4_2833 := by rw [h_M4_2833]; exact hM1_2827.up (by omega) (by simp [BM])
    refine sX12_copies  hM4_2833  ?_
    intro M5_2834 hM5_2834
    refine ⟨61, ?_⟩
    refine sX12_years_L30 (b := b) (p1 := p1) (p2 := p2) hb ?_ ?_ _ _ _ (hM5_2834.mono (by omega)) (by omega) (by omega)
    · exact hQ
    · intro M_2835 hM_2835
      refine sX12_endedBy (p2 := 1) hM_2835 (Or.inr rfl) ?_
      intro x21_2836 q2837
      refine sX12_endedBy (p2 := 0) hM_2835 (Or.inr rfl) ?_
      intro x22_2838 q2839
      intro x23_2840 ex23_2840 rx23_2840
      first | (have fx23_2840 := oI_64 (a := x21_2836) (b := x22_2838) ⟨by omega, by omega⟩ ⟨by omega, by omega⟩; rw [← ex23_2840] at fx23_2840) | skip
      intro M24_2841 h_M24_2841
      have hM24_2841 : IM (b + 60) M24_2841 := by rw [h_M24_2841]; exact hM_2835.up (by omega) (bm_c1_1.mpr ⟨by omega, by omega⟩)
      refine sJ6_bitCountM (p0 := x23_2840) hM24_2841  ?_
      intro x25_2842 p2843 q2844
      have u2845 : 0 ≤ M24_2841 1 1 ∧ M24_2841 1 1 ≤ 24 := bm_c1_1.mp (hM24_2841.bx _ _)
      have t2846 : M24_2841 1 1 = 0 := by rw [h_M24_2841, up2_s]
      refine sX12_enters (p1 := x25_2842) hM24_2841 (by omega) ?_
      intro M26_2847 hM26_2847 p2848
      refine sX12_endedBy (p2 := 1) hM26_2847 (Or.inr rfl) ?_
      intro x27_2849 q2850
      refine sJ6_bitCountM (p0 := x27_2849) hM26_2847  ?_
      intro x28_2851 p2852 q2853
      have u2854 : 0 ≤ M26_2847 1 1 ∧ M26_2847 1 1 ≤ 24 := bm_c1_1.mp (hM26_2847.bx _ _)
      refine sX12_enters (p1 := x28_2851) hM26_2847 (by omega) ?_
      intro M29_2855 hM29_2855 p2856
      intro x30_2857 ex30_2857 rx30_2857
      have bx30_2857 : -2147483648 ≤ x30_2857 ∧ x30_2857 ≤ 2147483647 := rx30_2857
      exact hQ _ _ (hM29_2855.mono (by omega))
  · exact hQ _ _ (hM1_2827.mono (by omega))
theorem sX12_keep_L38 {p1 : Int}  {Q : Int → Mem → Prop} {b : Int} (hQ : ∀ z : Int, ∀ M' : Mem, IM b M' → Q z M') : ∀ (n : Nat) (v2 : Int) (M : Mem), IM (b) M → (0 ≤ v2 ∧ v2 ≤ 38 ∧ 0 ≤ p1 ∧ p1 ≤ 2) → 38 - v2 < (n : Int) → qX12_keep_L38 p1 Q n v2 M := by
  intro n
  induction n with
  | zero => intro v2 M hI hv hm; exact absurd hm (by omega)
  | succ n ih =>
    intro v2 M hI hv hm
    rw [qX12_keep_L38]
    have hbn := hI.nn
    refine ⟨(by first | assumption | exact ⟨by omega, by omega⟩), ?_⟩
    refine ⟨fun c => ?_, fun c => ?_⟩
    · exact hQ _ _ (hI.mono (by omega))
    · refine ⟨by omega, ?_⟩
      refine ⟨by omega, ?_⟩
      intro x13_2861 ex13_2861 rx13_2861
      have rbx13_2861 : -2147483648 ≤ x13_2861 ∧ x13_2861 ≤ 2147483647 := rx13_2861
      have nbx13_2861 : BN (b) v2 x13_2861 := by rw [ex13_2861]; exact (bm_n (Or.inl rfl)).mp (hI.bx _ _)
      first | (have bx13_2861 : -1 ≤ x13_2861 ∧ x13_2861 ≤ 29 := nbx13_2861.1 ⟨by omega, by omega⟩) | (have bx13_2861 : -1 ≤ x13_2861 ∧ x13_2861 ≤ 29 := nbx13_2861.2.1 ⟨by omega, by omega⟩) | skip
      refine ⟨by omega, ?_⟩
      refine ⟨by omega, ?_⟩
      intro M16_2862 h_M16_2862
      have hM16_2862 : IM (b) M16_2862 := by rw [h_M16_2862]; exact hI.up (by omega) (bm_c31.mpr (by rw [show (38 * p1 + v2) % 38 = v2 from by omega]; assumption))
      exact ih _ _ (hM16_2862.mono (by omega)) (by omega) (by omega)
theorem sX12_keep {p1 : Int} {b : Int} {M : Mem} {Q : Int → Mem → Prop} (hI : IM b M) (hQ : ∀ z : Int, ∀ M' : Mem, IM b M' → Q z M') : qX12_keep p1 M Q := by
  unfold qX12_keep
  have hbn := hI.nn
  intro M1_2863 h_M1_2863
  have hM1_2863 : IM (b) M1_2863 := by rw [h_M1_2863]; exact hI.up (by omega) (by simp [BM])
  refine sX12_in (p0 := p1) (p2 := 0) (p4 := 2) hM1_2863  ?_
  intro x2_2864 p2865 q2866 q2867
  refine ⟨fun c => ?_, fun c => ?_⟩
  · refine ⟨by omega, ?_⟩
    refine ⟨by omega, ?_⟩
    intro M6_2869 h_M6_2869
    have hM6_2869 : IM (b) M6_2869 := by rw [h_M6_2869]; exact hM1_2863.up (by omega) (by simp [BM])
    intro x7_2870 ex7_2870 rx7_2870
    have bx7_2870 : 0 ≤ x7_2870 ∧ x7_2870 ≤ (b) := by rw [ex7_2870]; exact bm_c1_6.mp (hM6_2869.bx _ _)
    have fx7_2870 : x7_2870 = M 1 6 := by rw [ex7_2870, h_M6_2869, up2_n (by decide), h_M1_2863, up2_j (by decide)]
    intro M8_2871 h_M8_2871
    have hM8_2871 : IM (b) M8_2871 := by rw [h_M8_2871]; exact hM6_2869.up (by omega) (by simp [BM])
    refine ⟨39, ?_⟩
    refine sX12_keep_L38 (b := b) (p1 := p1) ?_ _ _ _ (hM8_2871.mono (by omega)) (by omega) (by omega)
    · exact hQ
  · exact hQ _ _ (hM1_2863.mono (by omega))
theorem sX12_again_L43 {p1 : Int}  {Q : Int → Mem → Prop} {b : Int} (hQ : ∀ z : Int, ∀ M' : Mem, IM b M' → Q z M') : ∀ (n : Nat) (v2 : Int) (M : Mem), IM (b) M → (0 ≤ v2 ∧ v2 ≤ 38 ∧ 0 ≤ p1 ∧ p1 ≤ 2) → 38 - v2 < (n : Int) → qX12_again_L43 p1 Q n v2 M := by
  intro n
  induction n with
  | zero => intro v2 M hI hv hm; exact absurd hm (by omega)
  | succ n ih =>
    intro v2 M hI hv hm
    rw [qX12_again_L43]
    have hbn := hI.nn
    refine ⟨(by first | assumption | exact ⟨by omega, by omega⟩), ?_⟩
    refine ⟨fun c => ?_, fun c => ?_⟩
    · intro M13_2874 h_M13_2874
      have hM13_2874 : IM (b) M13_2874 := by rw [h_M13_2874]; exact hI.up (by omega) (bm_c1_28.mpr ⟨by omega, by omega⟩)
      exact hQ _ _ (hM13_2874.mono (by omega))
    · refine ⟨by omega, ?_⟩
      refine ⟨by omega, ?_⟩
      intro x16_2876 ex16_2876 rx16_2876
      have nbx16_2876 : BN (b) v2 x16_2876 := by rw [ex16_2876]; have q := bm_c31.mp (hI.bx 31 (38 * p1 + v2)); rwa [show (38 * p1 + v2) % 38 = v2 from by omega] at q
      refine ⟨by omega, ?_⟩
      refine ⟨by omega, ?_⟩
      intro M19_2877 h_M19_2877
      have hM19_2877 : IM (b) M19_2877 := by rw [h_M19_2877]; exact hI.up (by omega) ((bm_n (Or.inl rfl)).mpr (by first | assumption | exact ⟨by omega, by omega, by omega, by omega⟩))
      exact ih _ _ (hM19_2877.mono (by omega)) (by omega) (by omega)
theorem sX12_again {p1 : Int} {b : Int} {M : Mem} {Q : Int → Mem → Prop} (hI : IM b M) (hQ : ∀ z : Int, ∀ M' : Mem, IM b M' → Q z M') : qX12_again p1 M Q := by
  unfold qX12_again
  have hbn := hI.nn
  intro M1_2878 h_M1_2878
  have hM1_2878 : IM (b) M1_2878 := by rw [h_M1_2878]; exact hI.up (by omega) (by simp [BM])
  refine sX12_in (p0 := p1) (p2 := 0) (p4 := 2) hM1_2878  ?_
  intro x2_2879 p2880 q2881 q2882
  refine ⟨fun c => ?_, fun c => ?_⟩
  · exact hQ _ _ (hM1_2878.mono (by omega))
  · refine ⟨by omega, ?_⟩
    refine ⟨by omega, ?_⟩
    intro x6_2885 ex6_2885 rx6_2885
    have bx6_2885 : -2147483648 ≤ x6_2885 ∧ x6_2885 ≤ 2147483647 := rx6_2885
    have fx6_2885 : x6_2885 = M 29 p1 := by rw [ex6_2885, h_M1_2878, up2_n (by decide)]
    refine ⟨fun c => ?_, fun c => ?_⟩
    · exact hQ _ _ (hM1_2878.mono (by omega))
    · intro x8_2888 ex8_2888 rx8_2888
      have bx8_2888 : -2147483648 ≤ x8_2888 ∧ x8_2888 ≤ 2147483647 := rx8_2888
      have fx8_2888 : x8_2888 = M 30 p1 := by rw [ex8_2888, h_M1_2878, up2_n (by decide)]
      intro x9_2889 ex9_2889 rx9_2889
      have bx9_2889 : 0 ≤ x9_2889 ∧ x9_2889 ≤ (b) := by rw [ex9_2889]; exact bm_c1_6.mp (hM1_2878.bx _ _)
      have fx9_2889 : x9_2889 = M 1 6 := by rw [ex9_2889, h_M1_2878, up2_j (by decide)]
      refine ⟨fun c => ?_, fun c => ?_⟩
      · refine ⟨39, ?_⟩
        refine sX12_again_L43 (b := b) (p1 := p1) ?_ _ _ _ (hM1_2878.mono (by omega)) (by omega) (by omega)
        · exact hQ
      · exact hQ _ _ (hM1_2878.mono (by omega))
theorem sX12_count_L9 {p1 : Int} {X35 : Int → Mem → Prop} {Q : Int → Mem → Prop} {b : Int} (hQ : ∀ z : Int, ∀ M' : Mem, IM b M' → Q z M') (hX35 : ∀ w1 : Int, ∀ M' : Mem, IM (b) M' → (0 ≤ w1 ∧ w1 ≤ 30) → X35 w1 M') : ∀ (n : Nat) (v2 v3 : Int) (M : Mem), IM (b) M → (0 ≤ v3 ∧ v3 ≤ 30 ∧ 0 ≤ v2 ∧ v2 ≤ v3) → 30 - v3 < (n : Int) → qX12_count_L9 p1 X35 Q n v2 v3 M := by
  intro n
  induction n with
  | zero => intro v2 v3 M hI hv hm; exact absurd hm (by omega)
  | succ n ih =>
    intro v2 v3 M hI hv hm
    rw [qX12_count_L9]
    have hbn := hI.nn
    intro x2_2892 ex2_2892 rx2_2892
    have bx2_2892 : 4 ≤ x2_2892 ∧ x2_2892 ≤ 30 := by rw [ex2_2892]; exact bm_c1_3.mp (hI.bx _ _)
    refine ⟨(by first | assumption | exact ⟨by omega, by omega⟩), ?_⟩
    refine ⟨fun c => ?_, fun c => ?_⟩
    · exact hX35 _ _ (hI.mono (by omega)) (by omega)
    · refine ⟨by omega, ?_⟩
      refine ⟨by omega, ?_⟩
      intro x7_2895 ex7_2895 rx7_2895
      have bx7_2895 : -2147483648 ≤ x7_2895 ∧ x7_2895 ≤ 2147483647 := rx7_2895
      refine sX12_flag (p0 := x7_2895) hI  ?_
      intro x8_2896 p2897 q2898
      exact ih _ _ _ (hI.mono (by omega)) (by omega) (by omega)
theorem sX12_count {p1 : Int} {b : Int} {M : Mem} {Q : Int → Mem → Prop} (hI : IM b M) (hQ : ∀ z : Int, ∀ M' : Mem, IM b M' → Q z M') : qX12_count p1 M Q := by
  unfold qX12_count
  have hbn := hI.nn
  intro M1_2899 h_M1_2899
  have hM1_2899 : IM (b) M1_2899 := by rw [h_M1_2899]; exact hI.up (by omega) (by simp [BM])
  refine ⟨31, ?_⟩
  refine sX12_count_L9 (b := b) (p1 := p1) ?_ ?_ _ _ _ _ (hM1_2899.mono (by omega)) (by omega) (by omega)
  · exact hQ
  · intro v2_2900 M_2901 hM_2901 p2902
    refine ⟨fun c => ?_, fun c => ?_, fun c => ?_, fun c => ?_, fun c => ?_, fun c => ?_, fun c => ?_, fun c => ?_, fun c => ?_, fun c => ?_, fun c => ?_, fun c => ?_, fun c => ?_, fun c => ?_⟩
    · intro x11_2904 ex11_2904 rx11_2904
      have bx11_2904 : 4 ≤ x11_2904 ∧ x11_2904 ≤ 30 := by rw [ex11_2904]; exact bm_c1_3.mp (hM_2901.bx _ _)
      exact hQ _ _ (hM_2901.mono (by omega))
    · intro x12_2906 ex12_2906 rx12_2906
      have bx12_2906 : 0 ≤ x12_2906 ∧ x12_2906 ≤ 6 := by rw [ex12_2906]; exact bm_c1_4.mp (hM_2901.bx _ _)
      exact hQ _ _ (hM_2901.mono (by omega))
    · intro x13_2908 ex13_2908 rx13_2908
      have bx13_2908 : 0 ≤ x13_2908 ∧ x13_2908 ≤ 8 := by rw [ex13_2908]; exact bm_c1_5.mp (hM_2901.bx _ _)
      exact hQ _ _ (hM_2901.mono (by omega))
    · intro x14_2910 ex14_2910 rx14_2910
      have rbx14_2910 : -2147483648 ≤ x14_2910 ∧ x14_2910 ≤ 2147483647 := rx14_2910
      first | (have bx14_2910 : 0 ≤ x14_2910 ∧ x14_2910 ≤ (b) := by rw [ex14_2910]; exact ((bm_n (Or.inl rfl)).mp (hM_2901.bx _ _)).2.2.2 (by omega)) | skip
      exact hQ _ _ (hM_2901.mono (by omega))
    · intro x15_2912 ex15_2912 rx15_2912
      have bx15_2912 : -2147483648 ≤ x15_2912 ∧ x15_2912 ≤ 2147483647 := rx15_2912
      exact hQ _ _ (hM_2901.mono (by omega))
    · refine sX12_endedBy (p2 := 1) hM_2901 (Or.inl rfl) ?_
      intro x16_2914 q2915
      refine sX12_endedBy (p2 := 0) hM_2901 (Or.inl rfl) ?_
      intro x17_2916 q2917
      intro x18_2918 ex18_2918 rx18_2918
      first | (have fx18_2918 := oI_64 (a := x16_2914) (b := x17_2916) ⟨by omega, by omega⟩ ⟨by omega, by omega⟩; rw [← ex18_2918] at fx18_2918) | skip
      refine sJ6_bitCountM (p0 := x18_2918) hM_2901  ?_
      intro x19_2919 p2920 q2921
      exact hQ _ _ (hM_2901.mono (by omega))
    · refine sX12_endedBy (p2 := 1) hM_2901 (Or.inl rfl) ?_
      intro x20_2923 q2924
      refine sJ6_bitCountM (p0 := x20_2923) hM_2901  ?_
      intro x21_2925 p2926 q2927
      exact hQ _ _ (hM_2901.mono (by omega))
    · refine ⟨(by first | assumption | exact ⟨by omega, by omega⟩), ?_⟩
      exact hQ _ _ (hM_2901.mono (by omega))
    · intro x23_2930 ex23_2930 rx23_2930
      have rbx23_2930 : -2147483648 ≤ x23_2930 ∧ x23_2930 ≤ 2147483647 := rx23_2930
      first | (have bx23_2930 : 0 ≤ x23_2930 ∧ x23_2930 ≤ (b) := by rw [ex23_2930]; exact ((bm_n (Or.inl rfl)).mp (hM_2901.bx _ _)).2.2.2 (by omega)) | skip
      refine sX12_weatherOn (p1 := x23_2930) hM_2901 (by omega) ?_
      intro x24_2931 q2932
      exact hQ _ _ (hM_2901.mono (by omega))
    · intro x25_2934 ex25_2934 rx25_2934
      have bx25_2934 : 0 ≤ x25_2934 ∧ x25_2934 ≤ 8 := by rw [ex25_2934]; exact bm_c1_45.mp (hM_2901.bx _ _)
      exact hQ _ _ (hM_2901.mono (by omega))
    · intro x26_2936 ex26_2936 rx26_2936
      have bx26_2936 : 0 ≤ x26_2936 ∧ x26_2936 ≤ 15 := by rw [ex26_2936]; exact bm_c1_28.mp (hM_2901.bx _ _)
      exact hQ _ _ (hM_2901.mono (by omega))
    · intro x27_2938 ex27_2938 rx27_2938
      have bx27_2938 : 0 ≤ x27_2938 ∧ x27_2938 ≤ 24 := by rw [ex27_2938]; exact bm_c1_1.mp (hM_2901.bx _ _)
      exact hQ _ _ (hM_2901.mono (by omega))
    · intro x28_2940 ex28_2940 rx28_2940
      have bx28_2940 : 0 ≤ x28_2940 ∧ x28_2940 ≤ 80 := by rw [ex28_2940]; exact bm_c1_14.mp (hM_2901.bx _ _)
      exact hQ _ _ (hM_2901.mono (by omega))
    · exact hQ _ _ (hM_2901.mono (by omega))
theorem sX12_row {p1 : Int} {b : Int} {M : Mem} {Q : Int → Mem → Prop} (hI : IM b M) (hQ : ∀ z : Int, ∀ M' : Mem, IM b M' → Q z M') : qX12_row p1 M Q := by
  unfold qX12_row
  have hbn := hI.nn
  intro M1_2942 h_M1_2942
  have hM1_2942 : IM (b) M1_2942 := by rw [h_M1_2942]; exact hI.up (by omega) (by simp [BM])
  intro x2_2943 ex2_2943 rx2_2943
  have bx2_2943 : 0 ≤ x2_2943 ∧ x2_2943 ≤ 24 := by rw [ex2_2943]; exact bm_c1_1.mp (hM1_2942.bx _ _)
  have fx2_2943 : x2_2943 = M 1 1 := by rw [ex2_2943, h_M1_2942, up2_j (by decide)]
  refine ⟨(by first | assumption | exact ⟨by omega, by omega⟩), ?_⟩
  refine sX12_in (p0 := p1) (p2 := 0) (p4 := x2_2943 - 1) hM1_2942  ?_
  intro x4_2944 p2945 q2946 q2947
  refine ⟨fun c => ?_, fun c => ?_⟩
  · refine ⟨by omega, ?_⟩
    refine ⟨by omega, ?_⟩
    intro x8_2949 ex8_2949 rx8_2949
    have fx8_2949 : x8_2949 = M 0 p1 := by rw [ex8_2949, h_M1_2942, up2_n (by decide)]
    exact hQ _ _ (hM1_2942.mono (by omega))
  · intro M9_2951 h_M9_2951
    have hM9_2951 : IM (b) M9_2951 := by rw [h_M9_2951]; exact hM1_2942.up (by omega) (by simp [BM])
    exact hQ _ _ (hM9_2951.mono (by omega))
