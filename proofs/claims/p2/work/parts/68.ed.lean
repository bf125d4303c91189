theorem sX12_pushes {p1 : Int} {p2 : Int} {b : Int} {M : Mem} {Q : Int → Mem → Prop} (hI : IM b M) (hQ : ∀ z : Int, ∀ M' : Mem, IM b M' → Q z M') : qX12_pushes p1 p2 M Q := by
  unfold qX12_pushes
  have hbn := hI.nn
  intro M1_1536 h_M1_1536
  have hM1_1536 : IM (b) M1_1536 := by rw [h_M1_1536]; exact hI.up (by omega) (by simp [BM])
  refine sX12_putsBy  hM1_1536  ?_
  intro M2_1537 hM2_1537
  refine sX12_pushesOne (p2 := p1) (p3 := p2) hM2_1537 (Or.inl rfl) ?_
  intro x3_1538 M3_1539 hM3_1539 q1540
  refine sX12_counted (p1 := x3_1538) hM3_1539  ?_
  intro x4_1541 q1542
  exact hQ _ _ (hM3_1539.mono (by omega))
theorem sX12_swapsTwo {p1 : Int} {p2 : Int} {b : Int} {M : Mem} {Q : Int → Mem → Prop} (hI : IM b M) (hQ : ∀ z : Int, ∀ M' : Mem, IM b M' → Q z M') : qX12_swapsTwo p1 p2 M Q := by
  unfold qX12_swapsTwo
  have hbn := hI.nn
  refine sX12_isHearse (p1 := p1) hI  ?_
  intro x1_1543 p1544 q1545 q1546
  refine ⟨fun c => ?_, fun c => ?_⟩
  · exact hQ _ _ (hI.mono (by omega))
  · refine sX12_isHearse (p1 := p2) hI  ?_
    intro x3_1549 p1550 q1551 q1552
    refine ⟨fun c => ?_, fun c => ?_⟩
    · exact hQ _ _ (hI.mono (by omega))
    · refine ⟨fun c => ?_, fun c => ?_⟩
      · refine sX12_isOn (p1 := p1) hI (Or.inl rfl) (by omega) ?_
        intro x6_1556 p1557 q1558 q1559
        refine ⟨fun c => ?_, fun c => ?_⟩
        · exact hQ _ _ (hI.mono (by omega))
        · refine sX12_isOn (p1 := p2) hI (Or.inl rfl) (by omega) ?_
          intro x8_1562 p1563 q1564 q1565
          refine ⟨fun c => ?_, fun c => ?_⟩
          · refine ⟨by omega, ?_⟩
            refine ⟨by omega, ?_⟩
            intro x12_1567 ex12_1567 rx12_1567
            have rbx12_1567 : -2147483648 ≤ x12_1567 ∧ x12_1567 ≤ 2147483647 := rx12_1567
            have nbx12_1567 : BN (b) p1 x12_1567 := by rw [ex12_1567]; exact (bm_n (Or.inl rfl)).mp (hI.bx _ _)
            first | (have bx12_1567 : -1 ≤ x12_1567 ∧ x12_1567 ≤ 29 := nbx12_1567.1 ⟨by omega, by omega⟩) | (have bx12_1567 : -1 ≤ x12_1567 ∧ x12_1567 ≤ 29 := nbx12_1567.2.1 ⟨by omega, by omega⟩) | skip
            refine ⟨by omega, ?_⟩
            refine ⟨by omega, ?_⟩
            intro x15_1568 ex15_1568 rx15_1568
            have rbx15_1568 : -2147483648 ≤ x15_1568 ∧ x15_1568 ≤ 2147483647 := rx15_1568
            have nbx15_1568 : BN (b) p2 x15_1568 := by rw [ex15_1568]; exact (bm_n (Or.inl rfl)).mp (hI.bx _ _)
            first | (have bx15_1568 : -1 ≤ x15_1568 ∧ x15_1568 ≤ 29 := nbx15_1568.1 ⟨by omega, by omega⟩) | (have bx15_1568 : -1 ≤ x15_1568 ∧ x15_1568 ≤ 29 := nbx15_1568.2.1 ⟨by omega, by omega⟩) | skip
            intro M16_1569 h_M16_1569
            have hM16_1569 : IM (b) M16_1569 := by rw [h_M16_1569]; exact hI.up (by omega) ((bm_n (Or.inl rfl)).mpr (by first | assumption | exact ⟨by omega, by omega, by omega, by omega⟩))
            intro M17_1570 h_M17_1570
            have hM17_1570 : IM (b) M17_1570 := by rw [h_M17_1570]; exact hM16_1569.up (by omega) ((bm_n (Or.inl rfl)).mpr (by first | assumption | exact ⟨by omega, by omega, by omega, by omega⟩))
            intro x18_1571 ex18_1571 rx18_1571
            have rbx18_1571 : -2147483648 ≤ x18_1571 ∧ x18_1571 ≤ 2147483647 := rx18_1571
            have nbx18_1571 : BN (b) p1 x18_1571 := by rw [ex18_1571]; exact (bm_n (Or.inl rfl)).mp (hM17_1570.bx _ _)
            first | (have bx18_1571 : -1 ≤ x18_1571 ∧ x18_1571 ≤ 29 := nbx18_1571.1 ⟨by omega, by omega⟩) | (have bx18_1571 : -1 ≤ x18_1571 ∧ x18_1571 ≤ 29 := nbx18_1571.2.1 ⟨by omega, by omega⟩) | skip
            intro x19_1572 ex19_1572 rx19_1572
            have rbx19_1572 : -2147483648 ≤ x19_1572 ∧ x19_1572 ≤ 2147483647 := rx19_1572
            have nbx19_1572 : BN (b) p2 x19_1572 := by rw [ex19_1572]; exact (bm_n (Or.inl rfl)).mp (hM17_1570.bx _ _)
            first | (have bx19_1572 : -1 ≤ x19_1572 ∧ x19_1572 ≤ 29 := nbx19_1572.1 ⟨by omega, by omega⟩) | (have bx19_1572 : -1 ≤ x19_1572 ∧ x19_1572 ≤ 29 := nbx19_1572.2.1 ⟨by omega, by omega⟩) | skip
            have fx19_1572 : x19_1572 = x12_1567 := by rw [ex19_1572, h_M17_1570, up2_s]
            refine ⟨(by first | assumption | exact ⟨by omega, by omega⟩), ?_⟩
            intro x21_1573 px21_1573 nx21_1573
            have bx21_1573 : 0 ≤ x21_1573 ∧ (x18_1571 - x19_1572 = x21_1573 ∨ x18_1571 - x19_1572 = -x21_1573) := by omega
            refine ⟨(by first | assumption | exact ⟨by omega, by omega⟩), ?_⟩
            exact hQ _ _ (hM17_1570.mono (by omega))
          · exact hQ _ _ (hI.mono (by omega))
      · exact hQ _ _ (hI.mono (by omega))
theorem sX12_swaps {p1 : Int} {p2 : Int} {b : Int} {M : Mem} {Q : Int → Mem → Prop} (hI : IM b M) (hQ : ∀ z : Int, ∀ M' : Mem, IM b M' → Q z M') : qX12_swaps p1 p2 M Q := by
  unfold qX12_swaps
  have hbn := hI.nn
  intro M1_1576 h_M1_1576
  have hM1_1576 : IM (b) M1_1576 := by rw [h_M1_1576]; exact hI.up (by omega) (by simp [BM])
  refine sX12_putsBy  hM1_1576  ?_
  intro M2_1577 hM2_1577
  refine sX12_swapsTwo (p1 := p1) (p2 := p2) hM2_1577  ?_
  intro x3_1578 M3_1579 hM3_1579 q1580
  refine sX12_counted (p1 := x3_1578) hM3_1579  ?_
  intro x4_1581 q1582
  exact hQ _ _ (hM3_1579.mono (by omega))
theorem sX12_does_L46 {p1 : Int}  {Q : Int → Mem → Prop} {b : Int} (hb : b + 10 ≤ 2000000000) (hp : 0 ≤ p1 ∧ p1 ≤ 59) (hQ : ∀ z : Int, ∀ M' : Mem, IM (b + 10) M' → Q z M') : ∀ (n : Nat) (v2 v3 : Int) (M : Mem), IM (b + v3) M → (0 ≤ v3 ∧ v3 ≤ 9 ∧ v2 ≤ 9 ∧ -1 ≤ v2) → 9 - v3 < (n : Int) → qX12_does_L46 p1 Q n v2 v3 M := by
  intro n
  induction n with
  | zero => intro v2 v3 M hI hv hm; exact absurd hm (by omega)
  | succ n ih =>
    intro v2 v3 M hI hv hm
    rw [qX12_does_L46]
    have hbn := hI.nn
    refine ⟨(by first | assumption | exact ⟨by omega, by omega⟩), ?_⟩
    refine ⟨(by first | assumption | exact ⟨by omega, by omega⟩), ?_⟩
    refine ⟨fun c => ?_, fun c => ?_⟩
    · exact hQ _ _ (hI.mono (by omega))
    · refine sX12_stepGoes  hI (by omega) (Or.inl rfl) ?_
      exact ih _ _ _ (hI.mono (by omega)) (by omega) (by omega)
theorem sX12_does {p1 : Int} {b : Int} {M : Mem} {Q : Int → Mem → Prop} (hI : IM b M) (hb : b + 10 ≤ 2000000000) (hp : 0 ≤ p1 ∧ p1 ≤ 59) (hQ : ∀ z : Int, ∀ M' : Mem, IM (b + 10) M' → Q z M') : qX12_does p1 M Q := by
  unfold qX12_does
  have hbn := hI.nn
  refine ⟨by omega, ?_⟩
  refine ⟨by omega, ?_⟩
  intro x3_1585 ex3_1585 rx3_1585
  have bx3_1585 : -1 ≤ x3_1585 ∧ x3_1585 ≤ 9 := by rw [ex3_1585]; exact bm_c20.mp (hI.bx _ _)
  intro x4_1586 ex4_1586 rx4_1586
  have bx4_1586 : -2147483648 ≤ x4_1586 ∧ x4_1586 ≤ 2147483647 := rx4_1586
  refine ⟨fun c => ?_, fun c => ?_, fun c => ?_, fun c => ?_, fun c => ?_⟩
  · refine ⟨10, ?_⟩
    refine sX12_does_L46 (b := b) (p1 := p1) hb hp ?_ _ _ _ _ (hI.mono (by omega)) (by omega) (by omega)
    · exact hQ
  · refine sX12_turnsOne (p2 := x3_1585) hI (Or.inl rfl) ?_
    intro x11_1589 M11_1590 hM11_1590 q1591
    refine ⟨fun c => ?_, fun c => ?_⟩
    · exact hQ _ _ (hM11_1590.mono (by omega))
    · refine ⟨fun c => ?_, fun c => ?_⟩
      · exact hQ _ _ (hM11_1590.mono (by omega))
      · exact hQ _ _ (hM11_1590.mono (by omega))
  · intro x14_1597 ex14_1597 rx14_1597
    have bx14_1597 : -100 ≤ x14_1597 ∧ x14_1597 ≤ 300 := by rw [ex14_1597]; exact bm_c21.mp (hI.bx _ _)
    refine sX12_pushesOne (p2 := x3_1585) (p3 := x14_1597) hI (Or.inl rfl) ?_
    intro x15_1598 M15_1599 hM15_1599 q1600
    refine ⟨fun c => ?_, fun c => ?_⟩
    · exact hQ _ _ (hM15_1599.mono (by omega))
    · exact hQ _ _ (hM15_1599.mono (by omega))
  · intro x17_1604 ex17_1604 rx17_1604
    have bx17_1604 : -100 ≤ x17_1604 ∧ x17_1604 ≤ 300 := by rw [ex17_1604]; exact bm_c21.mp (hI.bx _ _)
    refine ⟨(by first | assumption | exact ⟨by omega, by omega⟩), ?_⟩
    refine sX12_pushesOne (p2 := x3_1585) (p3 := (-x17_1604)) hI (Or.inl rfl) ?_
    intro x19_1605 M19_1606 hM19_1606 q1607
    refine ⟨fun c => ?_, fun c => ?_⟩
    · exact hQ _ _ (hM19_1606.mono (by omega))
    · exact hQ _ _ (hM19_1606.mono (by omega))
  · intro x21_1611 ex21_1611 rx21_1611
    have bx21_1611 : -100 ≤ x21_1611 ∧ x21_1611 ≤ 300 := by rw [ex21_1611]; exact bm_c21.mp (hI.bx _ _)
    refine sX12_swapsTwo (p1 := x3_1585) (p2 := x21_1611) hI  ?_
    intro x22_1612 M22_1613 hM22_1613 q1614
    refine ⟨fun c => ?_, fun c => ?_⟩
    · exact hQ _ _ (hM22_1613.mono (by omega))
    · exact hQ _ _ (hM22_1613.mono (by omega))
theorem sX12_digitIn {p1 : Int} {p2 : Int} {b : Int} {M : Mem} {Q : Int → Mem → Prop} (hI : IM b M) (hp : 0 ≤ p1 ∧ p1 ≤ 1 ∧ p2 = 9) (hQ : ∀ z : Int, ∀ M' : Mem, IM b M' → FrJ (fun k j => k = 1 ∧ j = 15) M M' → (-100 ≤ z ∧ z ≤ 300 ∧ M 1 15 ≤ M' 1 15) → Q z M') : qX12_digitIn p1 p2 M Q := by
  unfold qX12_digitIn
  have hbn := hI.nn
  have u1617 : 0 ≤ M 1 15 ∧ M 1 15 ≤ 80 := bm_c1_15.mp (hI.bx _ _)
  intro x1_1618 ex1_1618 rx1_1618
  have bx1_1618 : 0 ≤ x1_1618 ∧ x1_1618 ≤ 80 := by rw [ex1_1618]; exact bm_c1_15.mp (hI.bx _ _)
  intro x2_1619 ex2_1619 rx2_1619
  have bx2_1619 : 0 ≤ x2_1619 ∧ x2_1619 ≤ 80 := by rw [ex2_1619]; exact bm_c1_16.mp (hI.bx _ _)
  refine ⟨fun c => ?_, fun c => ?_⟩
  · have u1621 : 0 ≤ M 1 15 ∧ M 1 15 ≤ 80 := bm_c1_15.mp (hI.bx _ _)
    exact hQ _ _ (hI.mono (by omega)) FrJ.rf (by omega)
  · intro x4_1623 ex4_1623 rx4_1623
    have bx4_1623 : 0 ≤ x4_1623 ∧ x4_1623 ≤ 80 := by rw [ex4_1623]; exact bm_c1_15.mp (hI.bx _ _)
    refine ⟨by omega, ?_⟩
    refine ⟨by omega, ?_⟩
    intro x7_1624 ex7_1624 rx7_1624
    have bx7_1624 : 0 ≤ x7_1624 ∧ x7_1624 ≤ 255 := by rw [ex7_1624]; exact bm_c7.mp (hI.bx _ _)
    have cgx7_1624 : x7_1624 = M 7 (M 1 15) := by rw [ex7_1624, ← ex4_1623]
    refine ⟨(by first | assumption | exact ⟨by omega, by omega⟩), ?_⟩
    refine sX12_in (p0 := x7_1624 - 48) (p2 := p1) (p4 := p2) hI  ?_
    intro x9_1625 p1626 q1627 q1628
    refine ⟨fun c => ?_, fun c => ?_⟩
    · intro x11_1630 ex11_1630 rx11_1630
      have bx11_1630 : 0 ≤ x11_1630 ∧ x11_1630 ≤ 80 := by rw [ex11_1630]; exact bm_c1_15.mp (hI.bx _ _)
      refine ⟨(by first | assumption | exact ⟨by omega, by omega⟩), ?_⟩
      intro M13_1631 h_M13_1631
      have hM13_1631 : IM (b) M13_1631 := by rw [h_M13_1631]; exact hI.up (by omega) (bm_c1_15.mpr ⟨by omega, by omega⟩)
      have hFM13_1631 : FrJ (fun k j => k = 1 ∧ j = 15) M M13_1631 := by rw [h_M13_1631]; exact (FrJ.rf).up (by omega)
      intro x14_1632 ex14_1632 rx14_1632
      have bx14_1632 : 0 ≤ x14_1632 ∧ x14_1632 ≤ 80 := by rw [ex14_1632]; exact bm_c1_15.mp (hM13_1631.bx _ _)
      have fx14_1632 : x14_1632 = x11_1630 + 1 := by rw [ex14_1632, h_M13_1631, up2_s]
      refine ⟨by omega, ?_⟩
      refine ⟨by omega, ?_⟩
      intro x17_1633 ex17_1633 rx17_1633
      have bx17_1633 : 0 ≤ x17_1633 ∧ x17_1633 ≤ 255 := by rw [ex17_1633]; exact bm_c7.mp (hM13_1631.bx _ _)
      have fx17_1633 : x17_1633 = M 7 (x14_1632 - 1) := by rw [ex17_1633, h_M13_1631, up2_n (by decide)]
      refine ⟨(by first | assumption | exact ⟨by omega, by omega⟩), ?_⟩
      have u1634 : 0 ≤ M13_1631 1 15 ∧ M13_1631 1 15 ≤ 80 := bm_c1_15.mp (hM13_1631.bx _ _)
      have t1635 : M13_1631 1 15 = x11_1630 + 1 := by rw [h_M13_1631, up2_s]
      exact hQ _ _ (hM13_1631.mono (by omega)) hFM13_1631 (by omega)
    · have u1637 : 0 ≤ M 1 15 ∧ M 1 15 ≤ 80 := bm_c1_15.mp (hI.bx _ _)
      exact hQ _ _ (hI.mono (by omega)) FrJ.rf (by omega)
theorem sX12_hour  {b : Int} {M : Mem} {Q : Int → Mem → Prop} (hI : IM b M) (hb : b + 20000 ≤ 2000000000) (hQ : ∀ z : Int, Q z M) : qX12_hour M Q := sorry
theorem sX12_line_L20   {Q : Int → Mem → Prop} {b : Int} (hQ : ∀ z : Int, ∀ M' : Mem, IM b M' → Q z M') : ∀ (n : Nat) (v1 : Int) (M : Mem), IM (b) M → (0 ≤ v1 ∧ v1 ≤ 6 ∧ M 1 1 = v1) → 6 - v1 < (n : Int) → qX12_line_L20 Q n v1 M := by
  intro n
  induction n with
  | zero => intro v1 M hI hv hm; exact absurd hm (by omega)
  | succ n ih =>
    intro v1 M hI hv hm
    rw [qX12_line_L20]
    have hbn := hI.nn
    have u1638 : 0 ≤ M 1 1 ∧ M 1 1 ≤ 24 := bm_c1_1.mp (hI.bx _ _)
    intro x4_1639 ex4_1639 rx4_1639
    have bx4_1639 : 0 ≤ x4_1639 ∧ x4_1639 ≤ 6 := by rw [ex4_1639]; exact bm_c1_35.mp (hI.bx _ _)
    refine ⟨(by first | assumption | exact ⟨by omega, by omega⟩), ?_⟩
    refine ⟨fun c => ?_, fun c => ?_⟩
    · intro x7_1641 ex7_1641 rx7_1641
      have bx7_1641 : 0 ≤ x7_1641 ∧ x7_1641 ≤ 6 := by rw [ex7_1641]; exact bm_c1_35.mp (hI.bx _ _)
      exact hQ _ _ (hI.mono (by omega))
    · refine ⟨by omega, ?_⟩
      refine ⟨by omega, ?_⟩
      intro x10_1643 ex10_1643 rx10_1643
      have bx10_1643 : 0 ≤ x10_1643 ∧ x10_1643 ≤ 5 := by rw [ex10_1643]; exact bm_c18.mp (hI.bx _ _)
      have u1644 : 0 ≤ M 1 1 ∧ M 1 1 ≤ 24 := bm_c1_1.mp (hI.bx _ _)
      refine sX12_enters (p1 := x10_1643) hI (by omega) ?_
      intro M11_1645 hM11_1645 p1646
      have u1647 : 0 ≤ M11_1645 1 1 ∧ M11_1645 1 1 ≤ 24 := bm_c1_1.mp (hM11_1645.bx _ _)
      exact ih _ _ (hM11_1645.mono (by omega)) (by omega) (by omega)
theorem sX12_line  {b : Int} {M : Mem} {Q : Int → Mem → Prop} (hI : IM b M) (hQ : ∀ z : Int, ∀ M' : Mem, IM b M' → Q z M') : qX12_line M Q := by
  unfold qX12_line
  have hbn := hI.nn
  intro M1_1648 h_M1_1648
  have hM1_1648 : IM (b) M1_1648 := by rw [h_M1_1648]; exact hI.up (by omega) (by simp [BM])
  refine sX12_laysLine  hM1_1648 (Or.inl rfl) ?_
  intro M3_1649 h_M3_1649
  have hM3_1649 : IM (b) M3_1649 := by rw [h_M3_1649]; exact hM1_1648.up (by omega) (bm_c1_1.mpr ⟨by omega, by omega⟩)
  refine ⟨7, ?_⟩
  have u1650 : 0 ≤ M3_1649 1 1 ∧ M3_1649 1 1 ≤ 24 := bm_c1_1.mp (hM3_1649.bx _ _)
  have t1651 : M3_1649 1 1 = 0 := by rw [h_M3_1649, up2_s]
  refine sX12_line_L20 (b := b)  ?_ _ _ _ (hM3_1649.mono (by omega)) (by omega) (by omega)
  · exact hQ
theorem sX12_copies_L2   {Q : Mem → Prop} {b : Int} (hQ : ∀ M' : Mem, IM b M' → Q M') : ∀ (n : Nat) (v1 : Int) (M : Mem), IM (b) M → (0 ≤ v1 ∧ v1 ≤ 38) → 38 - v1 < (n : Int) → qX12_copies_L2 Q n v1 M := by
  intro n
  induction n with
  | zero => intro v1 M hI hv hm; exact absurd hm (by omega)
  | succ n ih =>
    intro v1 M hI hv hm
    rw [qX12_copies_L2]
    have hbn := hI.nn
    refine ⟨(by first | assumption | exact ⟨by omega, by omega⟩), ?_⟩
    refine ⟨fun c => ?_, fun c => ?_⟩
    · exact hQ _ (hI.mono (by omega))
    · refine ⟨by omega, ?_⟩
      refine ⟨by omega, ?_⟩
      intro x5_1654 ex5_1654 rx5_1654
      have rbx5_1654 : -2147483648 ≤ x5_1654 ∧ x5_1654 ≤ 2147483647 := rx5_1654
      have nbx5_1654 : BN (b) v1 x5_1654 := by rw [ex5_1654]; exact (bm_n (Or.inl rfl)).mp (hI.bx _ _)
      first | (have bx5_1654 : -1 ≤ x5_1654 ∧ x5_1654 ≤ 29 := nbx5_1654.1 ⟨by omega, by omega⟩) | (have bx5_1654 : -1 ≤ x5_1654 ∧ x5_1654 ≤ 29 := nbx5_1654.2.1 ⟨by omega, by omega⟩) | skip
      intro M6_1655 h_M6_1655
      have hM6_1655 : IM (b) M6_1655 := by rw [h_M6_1655]; exact hI.up (by omega) ((bm_n (Or.inr rfl)).mpr (by first | assumption | exact ⟨by omega, by omega, by omega, by omega⟩))
      exact ih _ _ (hM6_1655.mono (by omega)) (by omega) (by omega)
theorem sX12_copies  {b : Int} {M : Mem} {Q : Mem → Prop} (hI : IM b M) (hQ : ∀ M' : Mem, IM b M' → Q M') : qX12_copies M Q := by
  unfold qX12_copies
  have hbn := hI.nn
  refine ⟨39, ?_⟩
  refine sX12_copies_L2 (b := b)  ?_ _ _ _ (hI.mono (by omega)) (by omega) (by omega)
  · exact hQ
theorem sX12_ahead_L39 {p1 : Int}  {Q : Int → Mem → Prop} {b : Int} (hb : b + 200 ≤ 2000000000) (hQ : ∀ z : Int, ∀ M' : Mem, IM (b + 200) M' → Q z M') : ∀ (n : Nat) (v2 : Int) (M : Mem), IM (b + 200) M → (0 ≤ v2 ∧ v2 ≤ 6 ∧ M 1 1 = v2) → 6 - v2 < (n : Int) → qX12_ahead_L39 p1 Q n v2 M := by
  intro n
  induction n with
  | zero => intro v2 M hI hv hm; exact absurd hm (by omega)
  | succ n ih =>
    intro v2 M hI hv hm
    rw [qX12_ahead_L39]
    have hbn := hI.nn
    have u1656 : 0 ≤ M 1 1 ∧ M 1 1 ≤ 24 := bm_c1_1.mp (hI.bx _ _)
    intro x7_1657 ex7_1657 rx7_1657
    have bx7_1657 : 0 ≤ x7_1657 ∧ x7_1657 ≤ 6 := by rw [ex7_1657]; exact bm_c1_4.mp (hI.bx _ _)
    refine ⟨(by first | assumption | exact ⟨by omega, by omega⟩), ?_⟩
    refine ⟨fun c => ?_, fun c => ?_⟩
    · intro x10_1659 ex10_1659 rx10_1659
      have bx10_1659 : -2147483648 ≤ x10_1659 ∧ x10_1659 ≤ 2147483647 := rx10_1659
      exact hQ _ _ (hI.mono (by omega))
    · refine ⟨by omega, ?_⟩
      refine ⟨by omega, ?_⟩
      intro x13_1661 ex13_1661 rx13_1661
      have rbx13_1661 : -2147483648 ≤ x13_1661 ∧ x13_1661 ≤ 2147483647 := rx13_1661
      have nbx13_1661 : BN (b + 200) v2 x13_1661 := by rw [ex13_1661]; exact (bm_n (Or.inr rfl)).mp (hI.bx _ _)
      first | (have bx13_1661 : -1 ≤ x13_1661 ∧ x13_1661 ≤ 29 := nbx13_1661.1 ⟨by omega, by omega⟩) | (have bx13_1661 : -1 ≤ x13_1661 ∧ x13_1661 ≤ 29 := nbx13_1661.2.1 ⟨by omega, by omega⟩) | skip
      have u1662 : 0 ≤ M 1 1 ∧ M 1 1 ≤ 24 := bm_c1_1.mp (hI.bx _ _)
      refine sX12_enters (p1 := x13_1661) hI (by omega) ?_
      intro M14_1663 hM14_1663 p1664
      have u1665 : 0 ≤ M14_1663 1 1 ∧ M14_1663 1 1 ≤ 24 := bm_c1_1.mp (hM14_1663.bx _ _)
      exact ih _ _ (hM14_1663.mono (by omega)) (by omega) (by omega)
theorem sX12_ahead {p1 : Int} {b : Int} {M : Mem} {Q : Int → Mem → Prop} (hI : IM b M) (hb : b + 200 ≤ 2000000000) (hQ : ∀ z : Int, ∀ M' : Mem, IM (b + 200) M' → Q z M') : qX12_ahead p1 M Q := by
  unfold qX12_ahead
  have hbn := hI.nn
  intro M1_1666 h_M1_1666
  have hM1_1666 : IM (b) M1_1666 := by rw [h_M1_1666]; exact hI.up (by omega) (by simp [BM])
  refine sX12_in (p0 := p1) (p2 := 0) (p4 := 99) hM1_1666  ?_
  intro x2_1667 p1668 q1669 q1670
  refine ⟨fun c => ?_, fun c => ?_⟩
  · refine sX12_copies  hM1_1666  ?_
    intro M4_1672 hM4_1672
    refine sX12_goesOn (p2 := p1) hM4_1672 (by omega) (Or.inr rfl) (by omega) ?_
    intro M5_1673 hM5_1673
    intro M6_1674 h_M6_1674
    have hM6_1674 : IM (b + 200) M6_1674 := by rw [h_M6_1674]; exact hM5_1673.up (by omega) (bm_c1_1.mpr ⟨by omega, by omega⟩)
    refine ⟨7, ?_⟩
    have u1675 : 0 ≤ M6_1674 1 1 ∧ M6_1674 1 1 ≤ 24 := bm_c1_1.mp (hM6_1674.bx _ _)
    have t1676 : M6_1674 1 1 = 0 := by rw [h_M6_1674, up2_s]
    refine sX12_ahead_L39 (b := b) (p1 := p1) hb ?_ _ _ _ (hM6_1674.mono (by omega)) (by omega) (by omega)
    · exact hQ
  · exact hQ _ _ (hM1_1666.mono (by omega))
theorem sX12_arrives_L21 {p1 : Int} {X39 : Int → Mem → Prop} {Q : Int → Mem → Prop} {b : Int} (hb : b + 201 ≤ 2000000000) (hQ : ∀ z : Int, ∀ M' : Mem, IM (b + 201) M' → Q z M') (hX39 : ∀ w1 : Int, ∀ M' : Mem, IM (b + 200) M' → (0 ≤ w1 ∧ w1 ≤ 200) → X39 w1 M') : ∀ (n : Nat) (v2 : Int) (M : Mem), IM (b + v2) M → (0 ≤ v2 ∧ v2 ≤ 201 ∧ 0 ≤ p1 ∧ p1 ≤ 5) → 201 - v2 < (n : Int) → qX12_arrives_L21 p1 X39 Q n v2 M := by
  intro n
  induction n with
  | zero => intro v2 M hI hv hm; exact absurd hm (by omega)
  | succ n ih =>
    intro v2 M hI hv hm
    rw [qX12_arrives_L21]
    have hbn := hI.nn
    refine ⟨(by first | assumption | exact ⟨by omega, by omega⟩), ?_⟩
    refine ⟨fun c => ?_, fun c => ?_⟩
    · exact hQ _ _ (hI.mono (by omega))
    · refine sX12_isOn (p1 := p1) hI (Or.inr rfl) (by omega) ?_
      intro x7_1680 p1681 q1682 q1683
      refine ⟨fun c => ?_, fun c => ?_⟩
      · refine sX12_stepGoes  hI (by omega) (Or.inr rfl) ?_
        exact ih _ _ (hI.mono (by omega)) (by omega) (by omega)
      · exact hX39 _ _ (hI.mono (by omega)) (by omega)
theorem sX12_arrives {p1 : Int} {b : Int} {M : Mem} {Q : Int → Mem → Prop} (hI : IM b M) (hb : b + 201 ≤ 2000000000) (hQ : ∀ z : Int, ∀ M' : Mem, IM (b + 201) M' → Q z M') : qX12_arrives p1 M Q := by
  unfold qX12_arrives
  have hbn := hI.nn
  intro M1_1686 h_M1_1686
  have hM1_1686 : IM (b) M1_1686 := by rw [h_M1_1686]; exact hI.up (by omega) (by simp [BM])
  refine sX12_isHearse (p1 := p1) hM1_1686  ?_
  intro x2_1687 p1688 q1689 q1690
  refine ⟨fun c => ?_, fun c => ?_⟩
  · refine sX12_copies  hM1_1686  ?_
    intro M4_1692 hM4_1692
    refine ⟨202, ?_⟩
    refine sX12_arrives_L21 (b := b) (p1 := p1) hb ?_ ?_ _ _ _ (hM4_1692.mono (by omega)) (by omega) (by omega)
    · exact hQ
    · intro v2_1693 M_1694 hM_1694 p1695
      intro M11_1696 h_M11_1696
      have hM11_1696 : IM (b + 200) M11_1696 := by rw [h_M11_1696]; exact hM_1694.up (by omega) (bm_c1_1.mpr ⟨by omega, by omega⟩)
      refine ⟨by omega, ?_⟩
      refine ⟨by omega, ?_⟩
      intro x14_1697 ex14_1697 rx14_1697
      have bx14_1697 : -2147483648 ≤ x14_1697 ∧ x14_1697 ≤ 2147483647 := rx14_1697
      have fx14_1697 : x14_1697 = M_1694 6 (6 + p1) := by rw [ex14_1697, h_M11_1696, up2_n (by decide)]
      have u1698 : 0 ≤ M11_1696 1 1 ∧ M11_1696 1 1 ≤ 24 := bm_c1_1.mp (hM11_1696.bx _ _)
      have t1699 : M11_1696 1 1 = 0 := by rw [h_M11_1696, up2_s]
      refine sX12_enters (p1 := x14_1697) hM11_1696 (by omega) ?_
      intro M15_1700 hM15_1700 p1701
      refine ⟨(by first | assumption | exact ⟨by omega, by omega⟩), ?_⟩
      exact hQ _ _ (hM15_1700.mono (by omega))
  · exact hQ _ _ (hM1_1686.mono (by omega))
theorem sX12_jam_L36 {p1 : Int} {X71 : Int → Mem → Prop} {Q : Int → Mem → Prop} {b : Int} (hb : b + 200 ≤ 2000000000) (hQ : ∀ z : Int, ∀ M' : Mem, IM (b + 200) M' → Q z M') (hX71 : ∀ w1 : Int, ∀ M' : Mem, IM (b + 200) M' → (0 ≤ w1 ∧ w1 ≤ 29) → X71 w1 M') : ∀ (n : Nat) (v2 v3 : Int) (M : Mem), IM (b + 200) M → (0 ≤ v2 ∧ v2 ≤ 29 ∧ 0 ≤ v3 ∧ v3 ≤ 30) → 30 - v3 < (n : Int) → qX12_jam_L36 p1 X71 Q n v2 v3 M := by
  intro n
  induction n with
  | zero => intro v2 v3 M hI hv hm; exact absurd hm (by omega)
  | succ n ih =>
    intro v2 v3 M hI hv hm
    rw [qX12_jam_L36]
    have hbn := hI.nn
    intro x6_1703 ex6_1703 rx6_1703
    have bx6_1703 : 4 ≤ x6_1703 ∧ x6_1703 ≤ 30 := by rw [ex6_1703]; exact bm_c1_3.mp (hI.bx _ _)
    refine ⟨(by first | assumption | exact ⟨by omega, by omega⟩), ?_⟩
    refine ⟨fun c => ?_, fun c => ?_⟩
    · exact hX71 _ _ (hI.mono (by omega)) (by omega)
    · refine ⟨by omega, ?_⟩
      refine ⟨by omega, ?_⟩
      intro x11_1706 ex11_1706 rx11_1706
      have bx11_1706 : -2147483648 ≤ x11_1706 ∧ x11_1706 ≤ 2147483647 := rx11_1706
      refine ⟨by omega, ?_⟩
      refine ⟨by omega, ?_⟩
      intro x14_1707 ex14_1707 rx14_1707
      have bx14_1707 : -2147483648 ≤ x14_1707 ∧ x14_1707 ≤ 2147483647 := rx14_1707
      refine ⟨fun c => ?_, fun c => ?_⟩
      · exact ih _ _ _ (hI.mono (by omega)) (by omega) (by omega)
      · exact ih _ _ _ (hI.mono (by omega)) (by omega) (by omega)
theorem sX12_jam {p1 : Int} {b : Int} {M : Mem} {Q : Int → Mem → Prop} (hI : IM b M) (hb : b + 200 ≤ 2000000000) (hQ : ∀ z : Int, ∀ M' : Mem, IM (b + 200) M' → Q z M') : qX12_jam p1 M Q := by
  unfold qX12_jam
  have hbn := hI.nn
  intro M1_1710 h_M1_1710
  have hM1_1710 : IM (b) M1_1710 := by rw [h_M1_1710]; exact hI.up (by omega) (by simp [BM])
  refine sX12_in (p0 := p1) (p2 := 1) (p4 := 60) hM1_1710  ?_
  intro x2_1711 p1712 q1713 q1714
  refine ⟨fun c => ?_, fun c => ?_⟩
  · refine sX12_copies  hM1_1710  ?_
    intro M4_1716 hM4_1716
    refine sX12_goesOn (p2 := p1) hM4_1716 (by omega) (Or.inr rfl) (by omega) ?_
    intro M5_1717 hM5_1717
    refine ⟨31, ?_⟩
    refine sX12_jam_L36 (b := b) (p1 := p1) hb ?_ ?_ _ _ _ _ (hM5_1717.mono (by omega)) (by omega) (by omega)
    · exact hQ
    · intro v2_1718 M_1719 hM_1719 p1720
      intro M17_1721 h_M17_1721
      have hM17_1721 : IM (b + 200) M17_1721 := by rw [h_M17_1721]; exact hM_1719.up (by omega) (bm_c1_1.mpr ⟨by omega, by omega⟩)
      refine ⟨by omega, ?_⟩
      refine ⟨by omega, ?_⟩
      intro x20_1722 ex20_1722 rx20_1722
      have bx20_1722 : -2147483648 ≤ x20_1722 ∧ x20_1722 ≤ 2147483647 := rx20_1722
      have fx20_1722 : x20_1722 = M_1719 16 v2_1718 := by rw [ex20_1722, h_M17_1721, up2_n (by decide)]
      have u1723 : 0 ≤ M17_1721 1 1 ∧ M17_1721 1 1 ≤ 24 := bm_c1_1.mp (hM17_1721.bx _ _)
      have t1724 : M17_1721 1 1 = 0 := by rw [h_M17_1721, up2_s]
      refine sX12_enters (p1 := x20_1722) hM17_1721 (by omega) ?_
      intro M21_1725 hM21_1725 p1726
      intro x22_1727 ex22_1727 rx22_1727
      have bx22_1727 : -2147483648 ≤ x22_1727 ∧ x22_1727 ≤ 2147483647 := rx22_1727
      have u1728 : 0 ≤ M21_1725 1 1 ∧ M21_1725 1 1 ≤ 24 := bm_c1_1.mp (hM21_1725.bx _ _)
      refine sX12_enters (p1 := x22_1727) hM21_1725 (by omega) ?_
      intro M23_1729 hM23_1729 p1730
      refine ⟨(by first | assumption | exact ⟨by omega, by omega⟩), ?_⟩
      exact hQ _ _ (hM23_1729.mono (by omega))
  · exact hQ _ _ (hM1_1710.mono (by omega))
theorem sX12_isAhead {k0 : Nat} {p1 : Int} {p2 : Int} {b : Int} {M : Mem} {Q : Int → Mem → Prop} (hI : IM b M) (hk0 : isN k0) (hp : 0 ≤ p1 ∧ p1 ≤ 5 ∧ 0 ≤ p2 ∧ p2 ≤ 5) (hQ : ∀ z : Int, Q z M) : qX12_isAhead k0 p1 p2 M Q := by
  unfold qX12_isAhead
  have hbn := hI.nn
  have ek0 : k0 = 5 ∨ k0 = 6 := hk0
  refine sX12_isOn (p1 := p1) hI hk0 (by omega) ?_
  intro x1_1732 p1733 q1734 q1735
  refine ⟨fun c => ?_, fun c => ?_⟩
  · refine sX12_isOn (p1 := p2) hI hk0 (by omega) ?_
    intro x3_1737 p1738 q1739 q1740
    refine ⟨fun c => ?_, fun c => ?_⟩
    · exact hQ _
    · refine ⟨by omega, ?_⟩
      refine ⟨by omega, ?_⟩
      intro x7_1743 ex7_1743 rx7_1743
      have bx7_1743 : -2147483648 ≤ x7_1743 ∧ x7_1743 ≤ 2147483647 := rx7_1743
      refine ⟨by omega, ?_⟩
      refine ⟨by omega, ?_⟩
      intro x10_1744 ex10_1744 rx10_1744
      have bx10_1744 : -2147483648 ≤ x10_1744 ∧ x10_1744 ≤ 2147483647 := rx10_1744
      refine ⟨fun c => ?_, fun c => ?_⟩
      · exact hQ _
      · exact hQ _
  · refine sX12_isOn (p1 := p2) hI hk0 (by omega) ?_
    intro x12_1748 p1749 q1750 q1751
    refine ⟨fun c => ?_, fun c => ?_⟩
    · exact hQ _
    · refine ⟨by omega, ?_⟩
      refine ⟨by omega, ?_⟩
      intro x16_1754 ex16_1754 rx16_1754
      have rbx16_1754 : -2147483648 ≤ x16_1754 ∧ x16_1754 ≤ 2147483647 := rx16_1754
      have nbx16_1754 : BN (b) p1 x16_1754 := by rw [ex16_1754]; exact (bm_n hk0).mp (hI.bx _ _)
      first | (have bx16_1754 : -1 ≤ x16_1754 ∧ x16_1754 ≤ 29 := nbx16_1754.1 ⟨by omega, by omega⟩) | (have bx16_1754 : -1 ≤ x16_1754 ∧ x16_1754 ≤ 29 := nbx16_1754.2.1 ⟨by omega, by omega⟩) | skip
      refine ⟨by omega, ?_⟩
      refine ⟨by omega, ?_⟩
      intro x19_1755 ex19_1755 rx19_1755
      have rbx19_1755 : -2147483648 ≤ x19_1755 ∧ x19_1755 ≤ 2147483647 := rx19_1755
      have nbx19_1755 : BN (b) p2 x19_1755 := by rw [ex19_1755]; exact (bm_n hk0).mp (hI.bx _ _)
      first | (have bx19_1755 : -1 ≤ x19_1755 ∧ x19_1755 ≤ 29 := nbx19_1755.1 ⟨by omega, by omega⟩) | (have bx19_1755 : -1 ≤ x19_1755 ∧ x19_1755 ≤ 29 := nbx19_1755.2.1 ⟨by omega, by omega⟩) | skip
      refine ⟨fun c => ?_, fun c => ?_⟩
      · exact hQ _
      · exact hQ _
theorem sX12_passes_L71 {p1 : Int} {p2 : Int} {X97 : Int → Mem → Prop} {Q : Int → Mem → Prop} {b : Int} (hb : b + 62 ≤ 2000000000) (hQ : ∀ z : Int, ∀ M' : Mem, IM (b + 62) M' → Q z M') (hX97 : ∀ w1 : Int, ∀ M' : Mem, IM (b + 62) M' → (1 ≤ w1 ∧ w1 ≤ 61) → X97 w1 M') : ∀ (n : Nat) (v3 : Int) (M : Mem), IM (b + v3) M → (1 ≤ v3 ∧ v3 ≤ 61 ∧ 0 ≤ p1 ∧ p1 ≤ 5 ∧ 0 ≤ p2 ∧ p2 ≤ 5) → 61 - v3 < (n : Int) → qX12_passes_L71 p1 p2 X97 Q n v3 M := by
  intro n
  induction n with
  | zero => intro v3 M hI hv hm; exact absurd hm (by omega)
  | succ n ih =>
    intro v3 M hI hv hm
    rw [qX12_passes_L71]
    have hbn := hI.nn
    refine ⟨(by first | assumption | exact ⟨by omega, by omega⟩), ?_⟩
    refine ⟨fun c => ?_, fun c => ?_⟩
    · exact hQ _ _ (hI.mono (by omega))
    · refine sX12_stepGoes  hI (by omega) (Or.inr rfl) ?_
      refine sX12_isAhead (p1 := p1) (p2 := p2) hI (Or.inr rfl) (by omega) ?_
      intro x17_1760 q1761 q1762
      refine ⟨fun c => ?_, fun c => ?_⟩
      · exact ih _ _ (hI.mono (by omega)) (by omega) (by omega)
      · exact hX97 _ _ (hI.mono (by omega)) (by omega)
theorem sX12_passes {p1 : Int} {p2 : Int} {b : Int} {M : Mem} {Q : Int → Mem → Prop} (hI : IM b M) (hb : b + 62 ≤ 2000000000) (hQ : ∀ z : Int, ∀ M' : Mem, IM (b + 62) M' → Q z M') : qX12_passes p1 p2 M Q := by
  unfold qX12_passes
  have hbn := hI.nn
  intro M1_1765 h_M1_1765
  have hM1_1765 : IM (b) M1_1765 := by rw [h_M1_1765]; exact hI.up (by omega) (by simp [BM])
  refine sX12_isHearse (p1 := p1) hM1_1765  ?_
  intro x2_1766 p1767 q1768 q1769
  refine ⟨fun c => ?_, fun c => ?_⟩
  · exact hQ _ _ (hM1_1765.mono (by omega))
  · refine sX12_isHearse (p1 := p2) hM1_1765  ?_
    intro x4_1772 p1773 q1774 q1775
    refine ⟨fun c => ?_, fun c => ?_⟩
    · exact hQ _ _ (hM1_1765.mono (by omega))
    · refine ⟨fun c => ?_, fun c => ?_⟩
      · refine sX12_isOn (p1 := p1) hM1_1765 (Or.inl rfl) (by omega) ?_
        intro x7_1779 p1780 q1781 q1782
        refine ⟨fun c => ?_, fun c => ?_⟩
        · exact hQ _ _ (hM1_1765.mono (by omega))
        · refine sX12_isOn (p1 := p2) hM1_1765 (Or.inl rfl) (by omega) ?_
          intro x9_1785 p1786 q1787 q1788
          refine ⟨fun c => ?_, fun c => ?_⟩
          · exact hQ _ _ (hM1_1765.mono (by omega))
          · refine sX12_isAhead (p1 := p1) (p2 := p2) hM1_1765 (Or.inl rfl) (by omega) ?_
            intro x11_1791 q1792 q1793
            refine ⟨fun c => ?_, fun c => ?_⟩
            · refine sX12_copies  hM1_1765  ?_
              intro M13_1795 hM13_1795
              refine ⟨62, ?_⟩
              refine sX12_passes_L71 (b := b) (p1 := p1) (p2 := p2) hb ?_ ?_ _ _ _ (hM13_1795.mono (by omega)) (by omega) (by omega)
              · exact hQ
              · intro v3_1796 M_1797 hM_1797 p1798
                intro M20_1799 h_M20_1799
                have hM20_1799 : IM (b + 62) M20_1799 := by rw [h_M20_1799]; exact hM_1797.up (by omega) (bm_c1_1.mpr ⟨by omega, by omega⟩)
                refine ⟨by omega, ?_⟩
                refine ⟨by omega, ?_⟩
                intro x23_1800 ex23_1800 rx23_1800
                have rbx23_1800 : -2147483648 ≤ x23_1800 ∧ x23_1800 ≤ 2147483647 := rx23_1800
                have nbx23_1800 : BN (b + 62) p1 x23_1800 := by rw [ex23_1800]; exact (bm_n (Or.inr rfl)).mp (hM20_1799.bx _ _)
                first | (have bx23_1800 : -1 ≤ x23_1800 ∧ x23_1800 ≤ 29 := nbx23_1800.1 ⟨by omega, by omega⟩) | (have bx23_1800 : -1 ≤ x23_1800 ∧ x23_1800 ≤ 29 := nbx23_1800.2.1 ⟨by omega, by omega⟩) | skip
                have fx23_1800 : x23_1800 = M_1797 6 p1 := by rw [ex23_1800, h_M20_1799, up2_n (by decide)]
                have u1801 : 0 ≤ M20_1799 1 1 ∧ M20_1799 1 1 ≤ 24 := bm_c1_1.mp (hM20_1799.bx _ _)
                have t1802 : M20_1799 1 1 = 0 := by rw [h_M20_1799, up2_s]
                refine sX12_enters (p1 := x23_1800) hM20_1799 (by omega) ?_
                intro M24_1803 hM24_1803 p1804
                refine ⟨(by first | assumption | exact ⟨by omega, by omega⟩), ?_⟩
                exact hQ _ _ (hM24_1803.mono (by omega))
            · exact hQ _ _ (hM1_1765.mono (by omega))
      · exact hQ _ _ (hM1_1765.mono (by omega))
theorem sX12_ends_L30 {p1 : Int} {X48 : Int → Mem → Prop} {Q : Int → Mem → Prop} {b : Int} (hb : b + 402 ≤ 2000000000) (hQ : ∀ z : Int, ∀ M' : Mem, IM (b + 402) M' → Q z M') (hX48 : ∀ w1 : Int, ∀ M' : Mem, IM (b + 402) M' → (0 ≤ w1 ∧ w1 ≤ 200) → X48 w1 M') : ∀ (n : Nat) (v2 : Int) (M : Mem), IM (b + 200 + v2) M → (0 ≤ v2 ∧ v2 ≤ 201 ∧ 0 ≤ p1 ∧ p1 ≤ 7) → 201 - v2 < (n : Int) → qX12_ends_L30 p1 X48 Q n v2 M := by
  intro n
  induction n with
  | zero => intro v2 M hI hv hm; exact absurd hm (by omega)
  | succ n ih =>
    intro v2 M hI hv hm
    rw [qX12_ends_L30]
    have hbn := hI.nn
    refine ⟨(by first | assumption | exact ⟨by omega, by omega⟩), ?_⟩
    refine ⟨fun c => ?_, fun c => ?_⟩
    · exact hQ _ _ (hI.mono (by omega))
    · refine sX12_isEnded (p1 := p1) hI (Or.inr rfl) (by omega) ?_
      intro x8_1809 q1810 q1811
      refine ⟨fun c => ?_, fun c => ?_⟩
      · refine sX12_stepGoes  hI (by omega) (Or.inr rfl) ?_
        exact ih _ _ (hI.mono (by omega)) (by omega) (by omega)
      · exact hX48 _ _ (hI.mono (by omega)) (by omega)
theorem sX12_ends {p1 : Int} {b : Int} {M : Mem} {Q : Int → Mem → Prop} (hI : IM b M) (hb : b + 402 ≤ 2000000000) (hQ : ∀ z : Int, ∀ M' : Mem, IM (b + 402) M' → Q z M') : qX12_ends p1 M Q := by
  unfold qX12_ends
  have hbn := hI.nn
  intro M1_1814 h_M1_1814
  have hM1_1814 : IM (b) M1_1814 := by rw [h_M1_1814]; exact hI.up (by omega) (by simp [BM])
  refine sX12_isMourner (p1 := p1) hM1_1814  ?_
  intro x2_1815 p1816 q1817 q1818
  refine ⟨fun c => ?_, fun c => ?_⟩
  · refine sX12_copies  hM1_1814  ?_
    intro M4_1820 hM4_1820
    refine sX12_goesOn (p2 := 0) hM4_1820 (by omega) (Or.inr rfl) (by omega) ?_
    intro M5_1821 hM5_1821
    refine ⟨202, ?_⟩
    refine sX12_ends_L30 (b := b) (p1 := p1) hb ?_ ?_ _ _ _ (hM5_1821.mono (by omega)) (by omega) (by omega)
    · exact hQ
    · intro v2_1822 M_1823 hM_1823 p1824
      intro M12_1825 h_M12_1825
      have hM12_1825 : IM (b + 402) M12_1825 := by rw [h_M12_1825]; exact hM_1823.up (by omega) (bm_c1_1.mpr ⟨by omega, by omega⟩)
      refine ⟨(by first | assumption | exact ⟨by omega, by omega⟩), ?_⟩
      have u1826 : 0 ≤ M12_1825 1 1 ∧ M12_1825 1 1 ≤ 24 := bm_c1_1.mp (hM12_1825.bx _ _)
      have t1827 : M12_1825 1 1 = 0 := by rw [h_M12_1825, up2_s]
      refine sX12_enters (p1 := v2_1822) hM12_1825 (by omega) ?_
      intro M14_1828 hM14_1828 p1829
      refine ⟨by omega, ?_⟩
      refine ⟨by omega, ?_⟩
      intro x17_1830 ex17_1830 rx17_1830
      have bx17_1830 : -2147483648 ≤ x17_1830 ∧ x17_1830 ≤ 2147483647 := rx17_1830
      have u1831 : 0 ≤ M14_1828 1 1 ∧ M14_1828 1 1 ≤ 24 := bm_c1_1.mp (hM14_1828.bx _ _)
      refine sX12_enters (p1 := x17_1830) hM14_1828 (by omega) ?_
      intro M18_1832 hM18_1832 p1833
      refine ⟨by omega, ?_⟩
      refine ⟨by omega, ?_⟩
      intro x21_1834 ex21_1834 rx21_1834
      have bx21_1834 : -2147483648 ≤ x21_1834 ∧ x21_1834 ≤ 2147483647 := rx21_1834
      exact hQ _ _ (hM18_1832.mono (by omega))
  · exact hQ _ _ (hM1_1814.mono (by omega))
theorem sX12_endedBy_L5 {k1 : Nat} {p2 : Int}  {Q : Int → Mem → Prop} {b : Int} {M0 : Mem} (hk1 : isN k1) (hQ : ∀ z : Int, Q z M0) : ∀ (n : Nat) (v3 v4 : Int), IM (b) M0 → (0 ≤ v4 ∧ v4 ≤ 8) → iR v3 → 8 - v4 < (n : Int) → qX12_endedBy_L5 k1 p2 Q n v3 v4 M0 := by
  intro n
  induction n with
  | zero => intro v3 v4 hI hv hrv3 hm; exact absurd hm (by omega)
  | succ n ih =>
    intro v3 v4 hI hv hrv3 hm
    rw [qX12_endedBy_L5]
    have hbn := hI.nn
    have ek1 : k1 = 5 ∨ k1 = 6 := hk1
    intro x1_1836 ex1_1836 rx1_1836
    have bx1_1836 : 0 ≤ x1_1836 ∧ x1_1836 ≤ 8 := by rw [ex1_1836]; exact bm_c1_5.mp (hI.bx _ _)
    refine ⟨(by first | assumption | exact ⟨by omega, by omega⟩), ?_⟩
    refine ⟨fun c => ?_, fun c => ?_⟩
    · refine ⟨(by first | assumption | exact ⟨by omega, by omega⟩), ?_⟩
      exact hQ _
    · refine sX12_isEnded (p1 := v4) hI hk1 (by omega) ?_
      intro x5_1839 q1840 q1841
      refine ⟨fun c => ?_, fun c => ?_⟩
      · intro x7_1843 ex7_1843 rx7_1843
        first | (have fx7_1843 := oI_64 (a := v3) (b := 0) ⟨by omega, by omega⟩ ⟨by omega, by omega⟩; rw [← ex7_1843] at fx7_1843) | skip
        exact ih _ _ (hI.mono (by omega)) (by omega) (by first | assumption | exact ⟨by omega, by omega⟩) (by omega)
      · refine ⟨by omega, ?_⟩
        refine ⟨by omega, ?_⟩
        intro x10_1845 ex10_1845 rx10_1845
        have bx10_1845 : -2147483648 ≤ x10_1845 ∧ x10_1845 ≤ 2147483647 := rx10_1845
        refine ⟨by omega, ?_⟩
        refine ⟨by omega, ?_⟩
        intro x13_1846 ex13_1846 rx13_1846
        have bx13_1846 : 0 ≤ x13_1846 ∧ x13_1846 ≤ 5 := by rw [ex13_1846]; exact bm_c3.mp (hI.bx _ _)
        refine ⟨fun c => ?_, fun c => ?_⟩
        · unfold qX12_endedBy_J46
          refine ⟨(by first | assumption | exact ⟨by omega, by omega⟩), ?_⟩
          refine ⟨fun c => ?_, fun c => ?_⟩
          · intro x17_1849 ex17_1849 rx17_1849
            first | (have fx17_1849 := oI_64 (a := v3) (b := 0) ⟨by omega, by omega⟩ ⟨by omega, by omega⟩; rw [← ex17_1849] at fx17_1849) | skip
            exact ih _ _ (hI.mono (by omega)) (by omega) (by first | assumption | exact ⟨by omega, by omega⟩) (by omega)
          · intro x18_1851 ex18_1851 rx18_1851
            first | (have fx18_1851 := slI_1 (b := v4) ⟨by omega, by omega⟩; rw [← ex18_1851] at fx18_1851) | skip
            intro x19_1852 ex19_1852 rx19_1852
            first | (have fx19_1852 := oI_64 (a := v3) (b := x18_1851) ⟨by omega, by omega⟩ ⟨by omega, by omega⟩; rw [← ex19_1852] at fx19_1852) | skip
            exact ih _ _ (hI.mono (by omega)) (by omega) (by first | assumption | exact ⟨by omega, by omega⟩) (by omega)
        · unfold qX12_endedBy_J46
          refine ⟨(by first | assumption | exact ⟨by omega, by omega⟩), ?_⟩
          refine ⟨fun c => ?_, fun c => ?_⟩
          · intro x17_1855 ex17_1855 rx17_1855
            first | (have fx17_1855 := oI_64 (a := v3) (b := 0) ⟨by omega, by omega⟩ ⟨by omega, by omega⟩; rw [← ex17_1855] at fx17_1855) | skip
            exact ih _ _ (hI.mono (by omega)) (by omega) (by first | assumption | exact ⟨by omega, by omega⟩) (by omega)
          · intro x18_1857 ex18_1857 rx18_1857
            first | (have fx18_1857 := slI_1 (b := v4) ⟨by omega, by omega⟩; rw [← ex18_1857] at fx18_1857) | skip
            intro x19_1858 ex19_1858 rx19_1858
            first | (have fx19_1858 := oI_64 (a := v3) (b := x18_1857) ⟨by omega, by omega⟩ ⟨by omega, by omega⟩; rw [← ex19_1858] at fx19_1858) | skip
            exact ih _ _ (hI.mono (by omega)) (by omega) (by first | assumption | exact ⟨by omega, by omega⟩) (by omega)
theorem sX12_endedBy {k1 : Nat} {p2 : Int} {b : Int} {M : Mem} {Q : Int → Mem → Prop} (hI : IM b M) (hk1 : isN k1) (hQ : ∀ z : Int, Q z M) : qX12_endedBy k1 p2 M Q := by
  unfold qX12_endedBy
  have hbn := hI.nn
  have ek1 : k1 = 5 ∨ k1 = 6 := hk1
  refine ⟨9, ?_⟩
  refine sX12_endedBy_L5 (b := b) (p2 := p2) (M0 := M) hk1 ?_ _ _ _ (hI.mono (by omega)) (by omega) (by first | assumption | exact ⟨by omega, by omega⟩) (by omega)
  · exact hQ
theorem sX12_rightThen_L4  {X50 : Mem → Prop} {Q : Int → Mem → Prop} {b : Int} {M0 : Mem} (hb : b + 200 ≤ 2000000000) (hQ : ∀ z : Int, Q z M0) (hX50 : X50 M0) : ∀ (n : Nat) (v1 v2 : Int), IM (b + v2) M0 → (0 ≤ v1 ∧ v1 ≤ 1 ∧ 0 ≤ v2 ∧ v2 ≤ 200) → 200 - v2 < (n : Int) → qX12_rightThen_L4 X50 Q n v1 v2 M0 := by
  intro n
  induction n with
  | zero => intro v1 v2 hI hv hm; exact absurd hm (by omega)
  | succ n ih =>
    intro v1 v2 hI hv hm
    rw [qX12_rightThen_L4]
    have hbn := hI.nn
    refine ⟨(by first | assumption | exact ⟨by omega, by omega⟩), ?_⟩
    refine ⟨fun c => ?_, fun c => ?_⟩
    · exact hX50 
    · refine ⟨(by first | assumption | exact ⟨by omega, by omega⟩), ?_⟩
      refine ⟨fun c => ?_, fun c => ?_⟩
      · exact hX50 
      · refine sX12_laysLine  hI (Or.inr rfl) ?_
        intro x6_1863 ex6_1863 rx6_1863
        have bx6_1863 : 0 ≤ x6_1863 ∧ x6_1863 ≤ 6 := by rw [ex6_1863]; exact bm_c1_35.mp (hI.bx _ _)
        refine ⟨fun c => ?_, fun c => ?_⟩
        · unfold qX12_rightThen_J35
          refine sX12_stepGoes  hI (by omega) (Or.inr rfl) ?_
          exact ih _ _ (hI.mono (by omega)) (by omega) (by omega)
        · unfold qX12_rightThen_J35
          refine sX12_stepGoes  hI (by omega) (Or.inr rfl) ?_
          exact ih _ _ (hI.mono (by omega)) (by omega) (by omega)
