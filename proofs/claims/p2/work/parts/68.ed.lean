theorem sX12_turnsTo {p1 : Int} {b : Int} {M : Mem} {Q : Int → Mem → Prop} (hI : IM b M) (hQ : ∀ z : Int, ∀ M' : Mem, IM b M' → Q z M') : qX12_turnsTo p1 M Q := by
  unfold qX12_turnsTo
  have hbn := hI.nn
  intro M1_1545 h_M1_1545
  have hM1_1545 : IM (b) M1_1545 := by rw [h_M1_1545]; exact hI.up (by omega) (by simp [BM])
  refine sX12_putsBy  hM1_1545  ?_
  intro M2_1546 hM2_1546
  refine sX12_turnsOne (p2 := p1) hM2_1546 (Or.inl rfl) ?_
  intro x3_1547 M3_1548 hM3_1548 q1549
  refine sX12_counted (p1 := x3_1547) hM3_1548  ?_
  intro x4_1550 M4_1551 hM4_1551 q1552
  exact hQ _ _ (hM4_1551.mono (by omega))
theorem sX12_pushesOne {k1 : Nat} {p2 : Int} {p3 : Int} {b : Int} {M : Mem} {Q : Int → Mem → Prop} (hI : IM b M) (hk1 : isN k1) (hQ : ∀ z : Int, ∀ M' : Mem, IM b M' → Q z M') : qX12_pushesOne k1 p2 p3 M Q := by
  unfold qX12_pushesOne
  have hbn := hI.nn
  have ek1 : k1 = 5 ∨ k1 = 6 := hk1
  refine sX12_isMourner (p1 := p2) hI  ?_
  intro x1_1553 p1554 q1555 q1556
  refine ⟨fun c => ?_, fun c => ?_⟩
  · exact hQ _ _ (hI.mono (by omega))
  · refine sX12_in (p0 := p3) (p2 := (-9)) (p4 := 9) hI  ?_
    intro x3_1559 p1560 q1561 q1562
    refine ⟨fun c => ?_, fun c => ?_⟩
    · exact hQ _ _ (hI.mono (by omega))
    · refine ⟨fun c => ?_, fun c => ?_⟩
      · refine sX12_isEnded (p1 := p2) hI hk1 (by omega) ?_
        intro x6_1566 q1567 q1568
        refine ⟨fun c => ?_, fun c => ?_⟩
        · refine sX12_gate  hI  ?_
          intro x8_1570 p1571 q1572
          refine ⟨by omega, ?_⟩
          refine ⟨by omega, ?_⟩
          intro x11_1573 ex11_1573 rx11_1573
          have rbx11_1573 : -2147483648 ≤ x11_1573 ∧ x11_1573 ≤ 2147483647 := rx11_1573
          first | (have bx11_1573 : -1 ≤ x11_1573 ∧ x11_1573 ≤ 29 := by rw [ex11_1573]; exact ((bm_n hk1).mp (hI.bx _ _)).2.1 ⟨by omega, by omega⟩) | skip
          refine ⟨(by first | assumption | exact ⟨by omega, by omega⟩), ?_⟩
          refine ⟨(by first | assumption | exact ⟨by omega, by omega⟩), ?_⟩
          intro x14_1574 ex14_1574 rx14_1574
          intro x15_1575 ex15_1575 rx15_1575
          intro M16_1576 h_M16_1576
          have hM16_1576 : IM (b) M16_1576 := by rw [h_M16_1576]; exact hI.up (by omega) ((bm_n hk1).mpr (by first | assumption | exact ⟨by omega, by omega, by omega, by omega⟩))
          intro x17_1577 ex17_1577 rx17_1577
          have rbx17_1577 : -2147483648 ≤ x17_1577 ∧ x17_1577 ≤ 2147483647 := rx17_1577
          first | (have bx17_1577 : -1 ≤ x17_1577 ∧ x17_1577 ≤ 29 := by rw [ex17_1577]; exact ((bm_n hk1).mp (hM16_1576.bx _ _)).2.1 ⟨by omega, by omega⟩) | skip
          have fx17_1577 : x17_1577 = x15_1575 := by rw [ex17_1577, h_M16_1576, up2_s]
          exact hQ _ _ (hM16_1576.mono (by omega))
        · exact hQ _ _ (hI.mono (by omega))
      · exact hQ _ _ (hI.mono (by omega))
theorem sX12_pushes {p1 : Int} {p2 : Int} {b : Int} {M : Mem} {Q : Int → Mem → Prop} (hI : IM b M) (hQ : ∀ z : Int, ∀ M' : Mem, IM b M' → Q z M') : qX12_pushes p1 p2 M Q := by
  unfold qX12_pushes
  have hbn := hI.nn
  intro M1_1580 h_M1_1580
  have hM1_1580 : IM (b) M1_1580 := by rw [h_M1_1580]; exact hI.up (by omega) (by simp [BM])
  refine sX12_putsBy  hM1_1580  ?_
  intro M2_1581 hM2_1581
  refine sX12_pushesOne (p2 := p1) (p3 := p2) hM2_1581 (Or.inl rfl) ?_
  intro x3_1582 M3_1583 hM3_1583 q1584
  refine sX12_counted (p1 := x3_1582) hM3_1583  ?_
  intro x4_1585 M4_1586 hM4_1586 q1587
  exact hQ _ _ (hM4_1586.mono (by omega))
theorem sX12_swapsTwo {p1 : Int} {p2 : Int} {b : Int} {M : Mem} {Q : Int → Mem → Prop} (hI : IM b M) (hQ : ∀ z : Int, ∀ M' : Mem, IM b M' → Q z M') : qX12_swapsTwo p1 p2 M Q := by
  unfold qX12_swapsTwo
  have hbn := hI.nn
  refine sX12_isHearse (p1 := p1) hI  ?_
  intro x1_1588 p1589 q1590 q1591
  refine ⟨fun c => ?_, fun c => ?_⟩
  · exact hQ _ _ (hI.mono (by omega))
  · refine sX12_isHearse (p1 := p2) hI  ?_
    intro x3_1594 p1595 q1596 q1597
    refine ⟨fun c => ?_, fun c => ?_⟩
    · exact hQ _ _ (hI.mono (by omega))
    · refine ⟨fun c => ?_, fun c => ?_⟩
      · refine sX12_isOn (p1 := p1) hI (Or.inl rfl) (by omega) ?_
        intro x6_1601 p1602 q1603 q1604
        refine ⟨fun c => ?_, fun c => ?_⟩
        · exact hQ _ _ (hI.mono (by omega))
        · refine sX12_isOn (p1 := p2) hI (Or.inl rfl) (by omega) ?_
          intro x8_1607 p1608 q1609 q1610
          refine ⟨fun c => ?_, fun c => ?_⟩
          · refine ⟨by omega, ?_⟩
            refine ⟨by omega, ?_⟩
            intro x12_1612 ex12_1612 rx12_1612
            have rbx12_1612 : -2147483648 ≤ x12_1612 ∧ x12_1612 ≤ 2147483647 := rx12_1612
            have nbx12_1612 : BN (b) p1 x12_1612 := by rw [ex12_1612]; exact (bm_n (Or.inl rfl)).mp (hI.bx _ _)
            first | (have bx12_1612 : -1 ≤ x12_1612 ∧ x12_1612 ≤ 29 := nbx12_1612.1 ⟨by omega, by omega⟩) | (have bx12_1612 : -1 ≤ x12_1612 ∧ x12_1612 ≤ 29 := nbx12_1612.2.1 ⟨by omega, by omega⟩) | skip
            refine ⟨by omega, ?_⟩
            refine ⟨by omega, ?_⟩
            intro x15_1613 ex15_1613 rx15_1613
            have rbx15_1613 : -2147483648 ≤ x15_1613 ∧ x15_1613 ≤ 2147483647 := rx15_1613
            have nbx15_1613 : BN (b) p2 x15_1613 := by rw [ex15_1613]; exact (bm_n (Or.inl rfl)).mp (hI.bx _ _)
            first | (have bx15_1613 : -1 ≤ x15_1613 ∧ x15_1613 ≤ 29 := nbx15_1613.1 ⟨by omega, by omega⟩) | (have bx15_1613 : -1 ≤ x15_1613 ∧ x15_1613 ≤ 29 := nbx15_1613.2.1 ⟨by omega, by omega⟩) | skip
            intro M16_1614 h_M16_1614
            have hM16_1614 : IM (b) M16_1614 := by rw [h_M16_1614]; exact hI.up (by omega) ((bm_n (Or.inl rfl)).mpr (by first | assumption | exact ⟨by omega, by omega, by omega, by omega⟩))
            intro M17_1615 h_M17_1615
            have hM17_1615 : IM (b) M17_1615 := by rw [h_M17_1615]; exact hM16_1614.up (by omega) ((bm_n (Or.inl rfl)).mpr (by first | assumption | exact ⟨by omega, by omega, by omega, by omega⟩))
            intro x18_1616 ex18_1616 rx18_1616
            have rbx18_1616 : -2147483648 ≤ x18_1616 ∧ x18_1616 ≤ 2147483647 := rx18_1616
            have nbx18_1616 : BN (b) p1 x18_1616 := by rw [ex18_1616]; exact (bm_n (Or.inl rfl)).mp (hM17_1615.bx _ _)
            first | (have bx18_1616 : -1 ≤ x18_1616 ∧ x18_1616 ≤ 29 := nbx18_1616.1 ⟨by omega, by omega⟩) | (have bx18_1616 : -1 ≤ x18_1616 ∧ x18_1616 ≤ 29 := nbx18_1616.2.1 ⟨by omega, by omega⟩) | skip
            intro x19_1617 ex19_1617 rx19_1617
            have rbx19_1617 : -2147483648 ≤ x19_1617 ∧ x19_1617 ≤ 2147483647 := rx19_1617
            have nbx19_1617 : BN (b) p2 x19_1617 := by rw [ex19_1617]; exact (bm_n (Or.inl rfl)).mp (hM17_1615.bx _ _)
            first | (have bx19_1617 : -1 ≤ x19_1617 ∧ x19_1617 ≤ 29 := nbx19_1617.1 ⟨by omega, by omega⟩) | (have bx19_1617 : -1 ≤ x19_1617 ∧ x19_1617 ≤ 29 := nbx19_1617.2.1 ⟨by omega, by omega⟩) | skip
            have fx19_1617 : x19_1617 = x12_1612 := by rw [ex19_1617, h_M17_1615, up2_s]
            refine ⟨(by first | assumption | exact ⟨by omega, by omega⟩), ?_⟩
            intro x21_1618 px21_1618 nx21_1618
            have bx21_1618 : 0 ≤ x21_1618 ∧ (x18_1616 - x19_1617 = x21_1618 ∨ x18_1616 - x19_1617 = -x21_1618) := by omega
            refine ⟨(by first | assumption | exact ⟨by omega, by omega⟩), ?_⟩
            exact hQ _ _ (hM17_1615.mono (by omega))
          · exact hQ _ _ (hI.mono (by omega))
      · exact hQ _ _ (hI.mono (by omega))
theorem sX12_swaps {p1 : Int} {p2 : Int} {b : Int} {M : Mem} {Q : Int → Mem → Prop} (hI : IM b M) (hQ : ∀ z : Int, ∀ M' : Mem, IM b M' → Q z M') : qX12_swaps p1 p2 M Q := by
  unfold qX12_swaps
  have hbn := hI.nn
  intro M1_1621 h_M1_1621
  have hM1_1621 : IM (b) M1_1621 := by rw [h_M1_1621]; exact hI.up (by omega) (by simp [BM])
  refine sX12_putsBy  hM1_1621  ?_
  intro M2_1622 hM2_1622
  refine sX12_swapsTwo (p1 := p1) (p2 := p2) hM2_1622  ?_
  intro x3_1623 M3_1624 hM3_1624 q1625
  refine sX12_counted (p1 := x3_1623) hM3_1624  ?_
  intro x4_1626 M4_1627 hM4_1627 q1628
  exact hQ _ _ (hM4_1627.mono (by omega))
theorem sX12_does_L46 {p1 : Int}  {Q : Int → Mem → Prop} {b : Int} (hb : b + 10 ≤ 2000000000) (hp : 0 ≤ p1 ∧ p1 ≤ 59) (hQ : ∀ z : Int, ∀ M' : Mem, IM (b + 10) M' → Q z M') : ∀ (n : Nat) (v2 v3 : Int) (M : Mem), IM (b + v3) M → (0 ≤ v3 ∧ v3 ≤ 9 ∧ v2 ≤ 9 ∧ -1 ≤ v2) → 9 - v3 < (n : Int) → qX12_does_L46 p1 Q n v2 v3 M := by
  intro n
  induction n with
  | zero => intro v2 v3 M hI hv hm; exact absurd hm (by omega)
  | succ n ih =>
    intro v2 v3 M hI hv hm
    rw [qX12_does_L46]
    have hbn := hI.nn
    refine ⟨(by first | assumption | exact ⟨by omega, by omega⟩), ?_⟩
    refine ⟨(by first | assumption | exact ⟨by omega, by omega⟩), ?_⟩
    refine ⟨fun c => ?_, fun c => ?_⟩
    · exact hQ _ _ (hI.mono (by omega))
    · refine sX12_stepGoes  hI (by omega) (Or.inl rfl) ?_
      intro M9_1631 hM9_1631
      exact ih _ _ _ (hM9_1631.mono (by omega)) (by omega) (by omega)
theorem sX12_does {p1 : Int} {b : Int} {M : Mem} {Q : Int → Mem → Prop} (hI : IM b M) (hb : b + 10 ≤ 2000000000) (hp : 0 ≤ p1 ∧ p1 ≤ 59) (hQ : ∀ z : Int, ∀ M' : Mem, IM (b + 10) M' → Q z M') : qX12_does p1 M Q := by
  unfold qX12_does
  have hbn := hI.nn
  refine ⟨by omega, ?_⟩
  refine ⟨by omega, ?_⟩
  intro x3_1632 ex3_1632 rx3_1632
  have bx3_1632 : -1 ≤ x3_1632 ∧ x3_1632 ≤ 9 := by rw [ex3_1632]; exact bm_c20.mp (hI.bx _ _)
  intro x4_1633 ex4_1633 rx4_1633
  have bx4_1633 : -2147483648 ≤ x4_1633 ∧ x4_1633 ≤ 2147483647 := rx4_1633
  refine ⟨fun c => ?_, fun c => ?_, fun c => ?_, fun c => ?_, fun c => ?_⟩
  · refine ⟨10, ?_⟩
    refine sX12_does_L46 (b := b) (p1 := p1) hb hp ?_ _ _ _ _ (hI.mono (by omega)) (by omega) (by omega)
    · exact hQ
  · refine sX12_turnsOne (p2 := x3_1632) hI (Or.inl rfl) ?_
    intro x11_1636 M11_1637 hM11_1637 q1638
    refine ⟨fun c => ?_, fun c => ?_⟩
    · exact hQ _ _ (hM11_1637.mono (by omega))
    · refine ⟨fun c => ?_, fun c => ?_⟩
      · exact hQ _ _ (hM11_1637.mono (by omega))
      · exact hQ _ _ (hM11_1637.mono (by omega))
  · intro x14_1644 ex14_1644 rx14_1644
    have bx14_1644 : -100 ≤ x14_1644 ∧ x14_1644 ≤ 300 := by rw [ex14_1644]; exact bm_c21.mp (hI.bx _ _)
    refine sX12_pushesOne (p2 := x3_1632) (p3 := x14_1644) hI (Or.inl rfl) ?_
    intro x15_1645 M15_1646 hM15_1646 q1647
    refine ⟨fun c => ?_, fun c => ?_⟩
    · exact hQ _ _ (hM15_1646.mono (by omega))
    · exact hQ _ _ (hM15_1646.mono (by omega))
  · intro x17_1651 ex17_1651 rx17_1651
    have bx17_1651 : -100 ≤ x17_1651 ∧ x17_1651 ≤ 300 := by rw [ex17_1651]; exact bm_c21.mp (hI.bx _ _)
    refine ⟨(by first | assumption | exact ⟨by omega, by omega⟩), ?_⟩
    refine sX12_pushesOne (p2 := x3_1632) (p3 := (-x17_1651)) hI (Or.inl rfl) ?_
    intro x19_1652 M19_1653 hM19_1653 q1654
    refine ⟨fun c => ?_, fun c => ?_⟩
    · exact hQ _ _ (hM19_1653.mono (by omega))
    · exact hQ _ _ (hM19_1653.mono (by omega))
  · intro x21_1658 ex21_1658 rx21_1658
    have bx21_1658 : -100 ≤ x21_1658 ∧ x21_1658 ≤ 300 := by rw [ex21_1658]; exact bm_c21.mp (hI.bx _ _)
    refine sX12_swapsTwo (p1 := x3_1632) (p2 := x21_1658) hI  ?_
    intro x22_1659 M22_1660 hM22_1660 q1661
    refine ⟨fun c => ?_, fun c => ?_⟩
    · exact hQ _ _ (hM22_1660.mono (by omega))
    · exact hQ _ _ (hM22_1660.mono (by omega))
theorem sX12_digitIn {p1 : Int} {p2 : Int} {b : Int} {M : Mem} {Q : Int → Mem → Prop} (hI : IM b M) (hp : 0 ≤ p1 ∧ p1 ≤ 1 ∧ p2 = 9) (hQ : ∀ z : Int, ∀ M' : Mem, IM b M' → FrJ (fun k j => k = 1 ∧ j = 15) M M' → (-100 ≤ z ∧ z ≤ 300 ∧ M 1 15 ≤ M' 1 15) → Q z M') : qX12_digitIn p1 p2 M Q := by
  unfold qX12_digitIn
  have hbn := hI.nn
  have u1664 : 0 ≤ M 1 15 ∧ M 1 15 ≤ 80 := bm_c1_15.mp (hI.bx _ _)
  intro x1_1665 ex1_1665 rx1_1665
  have bx1_1665 : 0 ≤ x1_1665 ∧ x1_1665 ≤ 80 := by rw [ex1_1665]; exact bm_c1_15.mp (hI.bx _ _)
  intro x2_1666 ex2_1666 rx2_1666
  have bx2_1666 : 0 ≤ x2_1666 ∧ x2_1666 ≤ 80 := by rw [ex2_1666]; exact bm_c1_16.mp (hI.bx _ _)
  refine ⟨fun c => ?_, fun c => ?_⟩
  · have u1668 : 0 ≤ M 1 15 ∧ M 1 15 ≤ 80 := bm_c1_15.mp (hI.bx _ _)
    exact hQ _ _ (hI.mono (by omega)) FrJ.rf (by omega)
  · intro x4_1670 ex4_1670 rx4_1670
    have bx4_1670 : 0 ≤ x4_1670 ∧ x4_1670 ≤ 80 := by rw [ex4_1670]; exact bm_c1_15.mp (hI.bx _ _)
    refine ⟨by omega, ?_⟩
    refine ⟨by omega, ?_⟩
    intro x7_1671 ex7_1671 rx7_1671
    have bx7_1671 : 0 ≤ x7_1671 ∧ x7_1671 ≤ 255 := by rw [ex7_1671]; exact bm_c7.mp (hI.bx _ _)
    have cgx7_1671 : x7_1671 = M 7 (M 1 15) := by rw [ex7_1671, ← ex4_1670]
    refine ⟨(by first | assumption | exact ⟨by omega, by omega⟩), ?_⟩
    refine sX12_in (p0 := x7_1671 - 48) (p2 := p1) (p4 := p2) hI  ?_
    intro x9_1672 p1673 q1674 q1675
    refine ⟨fun c => ?_, fun c => ?_⟩
    · intro x11_1677 ex11_1677 rx11_1677
      have bx11_1677 : 0 ≤ x11_1677 ∧ x11_1677 ≤ 80 := by rw [ex11_1677]; exact bm_c1_15.mp (hI.bx _ _)
      refine ⟨(by first | assumption | exact ⟨by omega, by omega⟩), ?_⟩
      intro M13_1678 h_M13_1678
      have hM13_1678 : IM (b) M13_1678 := by rw [h_M13_1678]; exact hI.up (by omega) (bm_c1_15.mpr ⟨by omega, by omega⟩)
      have hFM13_1678 : FrJ (fun k j => k = 1 ∧ j = 15) M M13_1678 := by rw [h_M13_1678]; exact (FrJ.rf).up (by omega)
      intro x14_1679 ex14_1679 rx14_1679
      have bx14_1679 : 0 ≤ x14_1679 ∧ x14_1679 ≤ 80 := by rw [ex14_1679]; exact bm_c1_15.mp (hM13_1678.bx _ _)
      have fx14_1679 : x14_1679 = x11_1677 + 1 := by rw [ex14_1679, h_M13_1678, up2_s]
      refine ⟨by omega, ?_⟩
      refine ⟨by omega, ?_⟩
      intro x17_1680 ex17_1680 rx17_1680
      have bx17_1680 : 0 ≤ x17_1680 ∧ x17_1680 ≤ 255 := by rw [ex17_1680]; exact bm_c7.mp (hM13_1678.bx _ _)
      have fx17_1680 : x17_1680 = M 7 (x14_1679 - 1) := by rw [ex17_1680, h_M13_1678, up2_n (by decide)]
      refine ⟨(by first | assumption | exact ⟨by omega, by omega⟩), ?_⟩
      have u1681 : 0 ≤ M13_1678 1 15 ∧ M13_1678 1 15 ≤ 80 := bm_c1_15.mp (hM13_1678.bx _ _)
      have t1682 : M13_1678 1 15 = x11_1677 + 1 := by rw [h_M13_1678, up2_s]
      exact hQ _ _ (hM13_1678.mono (by omega)) hFM13_1678 (by omega)
    · have u1684 : 0 ≤ M 1 15 ∧ M 1 15 ≤ 80 := bm_c1_15.mp (hI.bx _ _)
      exact hQ _ _ (hI.mono (by omega)) FrJ.rf (by omega)
theorem sX12_hour  {b : Int} {M : Mem} {Q : Int → Mem → Prop} (hI : IM b M) (hb : b + 20000 ≤ 2000000000) (hQ : ∀ z : Int, Q z M) : qX12_hour M Q := sorry
theorem sX12_line_L20   {Q : Int → Mem → Prop} {b : Int} (hQ : ∀ z : Int, ∀ M' : Mem, IM b M' → Q z M') : ∀ (n : Nat) (v1 : Int) (M : Mem), IM (b) M → (0 ≤ v1 ∧ v1 ≤ 6 ∧ M 1 1 = v1) → 6 - v1 < (n : Int) → qX12_line_L20 Q n v1 M := by
  intro n
  induction n with
  | zero => intro v1 M hI hv hm; exact absurd hm (by omega)
  | succ n ih =>
    intro v1 M hI hv hm
    rw [qX12_line_L20]
    have hbn := hI.nn
    have u1685 : 0 ≤ M 1 1 ∧ M 1 1 ≤ 24 := bm_c1_1.mp (hI.bx _ _)
    intro x4_1686 ex4_1686 rx4_1686
    have bx4_1686 : 0 ≤ x4_1686 ∧ x4_1686 ≤ 6 := by rw [ex4_1686]; exact bm_c1_35.mp (hI.bx _ _)
    refine ⟨(by first | assumption | exact ⟨by omega, by omega⟩), ?_⟩
    refine ⟨fun c => ?_, fun c => ?_⟩
    · intro x7_1688 ex7_1688 rx7_1688
      have bx7_1688 : 0 ≤ x7_1688 ∧ x7_1688 ≤ 6 := by rw [ex7_1688]; exact bm_c1_35.mp (hI.bx _ _)
      exact hQ _ _ (hI.mono (by omega))
    · refine ⟨by omega, ?_⟩
      refine ⟨by omega, ?_⟩
      intro x10_1690 ex10_1690 rx10_1690
      have bx10_1690 : 0 ≤ x10_1690 ∧ x10_1690 ≤ 5 := by rw [ex10_1690]; exact bm_c18.mp (hI.bx _ _)
      have u1691 : 0 ≤ M 1 1 ∧ M 1 1 ≤ 24 := bm_c1_1.mp (hI.bx _ _)
      refine sX12_enters (p1 := x10_1690) hI (by omega) ?_
      intro M11_1692 hM11_1692 p1693
      have u1694 : 0 ≤ M11_1692 1 1 ∧ M11_1692 1 1 ≤ 24 := bm_c1_1.mp (hM11_1692.bx _ _)
      exact ih _ _ (hM11_1692.mono (by omega)) (by omega) (by omega)
theorem sX12_line  {b : Int} {M : Mem} {Q : Int → Mem → Prop} (hI : IM b M) (hQ : ∀ z : Int, ∀ M' : Mem, IM b M' → Q z M') : qX12_line M Q := by
  unfold qX12_line
  have hbn := hI.nn
  intro M1_1695 h_M1_1695
  have hM1_1695 : IM (b) M1_1695 := by rw [h_M1_1695]; exact hI.up (by omega) (by simp [BM])
  refine sX12_laysLine  hM1_1695 (Or.inl rfl) ?_
  intro M2_1696 hM2_1696
  intro M3_1697 h_M3_1697
  have hM3_1697 : IM (b) M3_1697 := by rw [h_M3_1697]; exact hM2_1696.up (by omega) (bm_c1_1.mpr ⟨by omega, by omega⟩)
  refine ⟨7, ?_⟩
  have u1698 : 0 ≤ M3_1697 1 1 ∧ M3_1697 1 1 ≤ 24 := bm_c1_1.mp (hM3_1697.bx _ _)
  have t1699 : M3_1697 1 1 = 0 := by rw [h_M3_1697, up2_s]
  refine sX12_line_L20 (b := b)  ?_ _ _ _ (hM3_1697.mono (by omega)) (by omega) (by omega)
  · exact hQ
theorem sX12_copies_L2   {Q : Mem → Prop} {b : Int} (hQ : ∀ M' : Mem, IM b M' → Q M') : ∀ (n : Nat) (v1 : Int) (M : Mem), IM (b) M → (0 ≤ v1 ∧ v1 ≤ 38) → 38 - v1 < (n : Int) → qX12_copies_L2 Q n v1 M := by
  intro n
  induction n with
  | zero => intro v1 M hI hv hm; exact absurd hm (by omega)
  | succ n ih =>
    intro v1 M hI hv hm
    rw [qX12_copies_L2]
    have hbn := hI.nn
    refine ⟨(by first | assumption | exact ⟨by omega, by omega⟩), ?_⟩
    refine ⟨fun c => ?_, fun c => ?_⟩
    · exact hQ _ (hI.mono (by omega))
    · refine ⟨by omega, ?_⟩
      refine ⟨by omega, ?_⟩
      intro x5_1702 ex5_1702 rx5_1702
      have rbx5_1702 : -2147483648 ≤ x5_1702 ∧ x5_1702 ≤ 2147483647 := rx5_1702
      have nbx5_1702 : BN (b) v1 x5_1702 := by rw [ex5_1702]; exact (bm_n (Or.inl rfl)).mp (hI.bx _ _)
      first | (have bx5_1702 : -1 ≤ x5_1702 ∧ x5_1702 ≤ 29 := nbx5_1702.1 ⟨by omega, by omega⟩) | (have bx5_1702 : -1 ≤ x5_1702 ∧ x5_1702 ≤ 29 := nbx5_1702.2.1 ⟨by omega, by omega⟩) | skip
      intro M6_1703 h_M6_1703
      have hM6_1703 : IM (b) M6_1703 := by rw [h_M6_1703]; exact hI.up (by omega) ((bm_n (Or.inr rfl)).mpr (by first | assumption | exact ⟨by omega, by omega, by omega, by omega⟩))
      exact ih _ _ (hM6_1703.mono (by omega)) (by omega) (by omega)
theorem sX12_copies  {b : Int} {M : Mem} {Q : Mem → Prop} (hI : IM b M) (hQ : ∀ M' : Mem, IM b M' → Q M') : qX12_copies M Q := by
  unfold qX12_copies
  have hbn := hI.nn
  refine ⟨39, ?_⟩
  refine sX12_copies_L2 (b := b)  ?_ _ _ _ (hI.mono (by omega)) (by omega) (by omega)
  · exact hQ
theorem sX12_ahead_L39 {p1 : Int}  {Q : Int → Mem → Prop} {b : Int} (hb : b + 200 ≤ 2000000000) (hQ : ∀ z : Int, ∀ M' : Mem, IM (b + 200) M' → Q z M') : ∀ (n : Nat) (v2 : Int) (M : Mem), IM (b + 200) M → (0 ≤ v2 ∧ v2 ≤ 6 ∧ M 1 1 = v2) → 6 - v2 < (n : Int) → qX12_ahead_L39 p1 Q n v2 M := by
  intro n
  induction n with
  | zero => intro v2 M hI hv hm; exact absurd hm (by omega)
  | succ n ih =>
    intro v2 M hI hv hm
    rw [qX12_ahead_L39]
    have hbn := hI.nn
    have u1704 : 0 ≤ M 1 1 ∧ M 1 1 ≤ 24 := bm_c1_1.mp (hI.bx _ _)
    intro x7_1705 ex7_1705 rx7_1705
    have bx7_1705 : 0 ≤ x7_1705 ∧ x7_1705 ≤ 6 := by rw [ex7_1705]; exact bm_c1_4.mp (hI.bx _ _)
    refine ⟨(by first | assumption | exact ⟨by omega, by omega⟩), ?_⟩
    refine ⟨fun c => ?_, fun c => ?_⟩
    · intro x10_1707 ex10_1707 rx10_1707
      have bx10_1707 : -2147483648 ≤ x10_1707 ∧ x10_1707 ≤ 2147483647 := rx10_1707
      exact hQ _ _ (hI.mono (by omega))
    · refine ⟨by omega, ?_⟩
      refine ⟨by omega, ?_⟩
      intro x13_1709 ex13_1709 rx13_1709
      have rbx13_1709 : -2147483648 ≤ x13_1709 ∧ x13_1709 ≤ 2147483647 := rx13_1709
      have nbx13_1709 : BN (b + 200) v2 x13_1709 := by rw [ex13_1709]; exact (bm_n (Or.inr rfl)).mp (hI.bx _ _)
      first | (have bx13_1709 : -1 ≤ x13_1709 ∧ x13_1709 ≤ 29 := nbx13_1709.1 ⟨by omega, by omega⟩) | (have bx13_1709 : -1 ≤ x13_1709 ∧ x13_1709 ≤ 29 := nbx13_1709.2.1 ⟨by omega, by omega⟩) | skip
      have u1710 : 0 ≤ M 1 1 ∧ M 1 1 ≤ 24 := bm_c1_1.mp (hI.bx _ _)
      refine sX12_enters (p1 := x13_1709) hI (by omega) ?_
      intro M14_1711 hM14_1711 p1712
      have u1713 : 0 ≤ M14_1711 1 1 ∧ M14_1711 1 1 ≤ 24 := bm_c1_1.mp (hM14_1711.bx _ _)
      exact ih _ _ (hM14_1711.mono (by omega)) (by omega) (by omega)
theorem sX12_ahead {p1 : Int} {b : Int} {M : Mem} {Q : Int → Mem → Prop} (hI : IM b M) (hb : b + 200 ≤ 2000000000) (hQ : ∀ z : Int, ∀ M' : Mem, IM (b + 200) M' → Q z M') : qX12_ahead p1 M Q := by
  unfold qX12_ahead
  have hbn := hI.nn
  intro M1_1714 h_M1_1714
  have hM1_1714 : IM (b) M1_1714 := by rw [h_M1_1714]; exact hI.up (by omega) (by simp [BM])
  refine sX12_in (p0 := p1) (p2 := 0) (p4 := 99) hM1_1714  ?_
  intro x2_1715 p1716 q1717 q1718
  refine ⟨fun c => ?_, fun c => ?_⟩
  · refine sX12_copies  hM1_1714  ?_
    intro M4_1720 hM4_1720
    refine sX12_goesOn (p2 := p1) hM4_1720 (by omega) (Or.inr rfl) (by omega) ?_
    intro M5_1721 hM5_1721
    intro M6_1722 h_M6_1722
    have hM6_1722 : IM (b + 200) M6_1722 := by rw [h_M6_1722]; exact hM5_1721.up (by omega) (bm_c1_1.mpr ⟨by omega, by omega⟩)
    refine ⟨7, ?_⟩
    have u1723 : 0 ≤ M6_1722 1 1 ∧ M6_1722 1 1 ≤ 24 := bm_c1_1.mp (hM6_1722.bx _ _)
    have t1724 : M6_1722 1 1 = 0 := by rw [h_M6_1722, up2_s]
    refine sX12_ahead_L39 (b := b) (p1 := p1) hb ?_ _ _ _ (hM6_1722.mono (by omega)) (by omega) (by omega)
    · exact hQ
  · exact hQ _ _ (hM1_1714.mono (by omega))
theorem sX12_arrives_L21 {p1 : Int} {X39 : Int → Mem → Prop} {Q : Int → Mem → Prop} {b : Int} (hb : b + 201 ≤ 2000000000) (hQ : ∀ z : Int, ∀ M' : Mem, IM (b + 201) M' → Q z M') (hX39 : ∀ w1 : Int, ∀ M' : Mem, IM (b + 200) M' → (0 ≤ w1 ∧ w1 ≤ 200) → X39 w1 M') : ∀ (n : Nat) (v2 : Int) (M : Mem), IM (b + v2) M → (0 ≤ v2 ∧ v2 ≤ 201 ∧ 0 ≤ p1 ∧ p1 ≤ 5) → 201 - v2 < (n : Int) → qX12_arrives_L21 p1 X39 Q n v2 M := by
  intro n
  induction n with
  | zero => intro v2 M hI hv hm; exact absurd hm (by omega)
  | succ n ih =>
    intro v2 M hI hv hm
    rw [qX12_arrives_L21]
    have hbn := hI.nn
    refine ⟨(by first | assumption | exact ⟨by omega, by omega⟩), ?_⟩
    refine ⟨fun c => ?_, fun c => ?_⟩
    · exact hQ _ _ (hI.mono (by omega))
    · refine sX12_isOn (p1 := p1) hI (Or.inr rfl) (by omega) ?_
      intro x7_1728 p1729 q1730 q1731
      refine ⟨fun c => ?_, fun c => ?_⟩
      · refine sX12_stepGoes  hI (by omega) (Or.inr rfl) ?_
        intro M9_1733 hM9_1733
        exact ih _ _ (hM9_1733.mono (by omega)) (by omega) (by omega)
      · exact hX39 _ _ (hI.mono (by omega)) (by omega)
theorem sX12_arrives {p1 : Int} {b : Int} {M : Mem} {Q : Int → Mem → Prop} (hI : IM b M) (hb : b + 201 ≤ 2000000000) (hQ : ∀ z : Int, ∀ M' : Mem, IM (b + 201) M' → Q z M') : qX12_arrives p1 M Q := by
  unfold qX12_arrives
  have hbn := hI.nn
  intro M1_1735 h_M1_1735
  have hM1_1735 : IM (b) M1_1735 := by rw [h_M1_1735]; exact hI.up (by omega) (by simp [BM])
  refine sX12_isHearse (p1 := p1) hM1_1735  ?_
  intro x2_1736 p1737 q1738 q1739
  refine ⟨fun c => ?_, fun c => ?_⟩
  · refine sX12_copies  hM1_1735  ?_
    intro M4_1741 hM4_1741
    refine ⟨202, ?_⟩
    refine sX12_arrives_L21 (b := b) (p1 := p1) hb ?_ ?_ _ _ _ (hM4_1741.mono (by omega)) (by omega) (by omega)
    · exact hQ
    · intro v2_1742 M_1743 hM_1743 p1744
      intro M11_1745 h_M11_1745
      have hM11_1745 : IM (b + 200) M11_1745 := by rw [h_M11_1745]; exact hM_1743.up (by omega) (bm_c1_1.mpr ⟨by omega, by omega⟩)
      refine ⟨by omega, ?_⟩
      refine ⟨by omega, ?_⟩
      intro x14_1746 ex14_1746 rx14_1746
      have bx14_1746 : -2147483648 ≤ x14_1746 ∧ x14_1746 ≤ 2147483647 := rx14_1746
      have fx14_1746 : x14_1746 = M_1743 6 (6 + p1) := by rw [ex14_1746, h_M11_1745, up2_n (by decide)]
      have u1747 : 0 ≤ M11_1745 1 1 ∧ M11_1745 1 1 ≤ 24 := bm_c1_1.mp (hM11_1745.bx _ _)
      have t1748 : M11_1745 1 1 = 0 := by rw [h_M11_1745, up2_s]
      refine sX12_enters (p1 := x14_1746) hM11_1745 (by omega) ?_
      intro M15_1749 hM15_1749 p1750
      refine ⟨(by first | assumption | exact ⟨by omega, by omega⟩), ?_⟩
      exact hQ _ _ (hM15_1749.mono (by omega))
  · exact hQ _ _ (hM1_1735.mono (by omega))
theorem sX12_jam_L36 {p1 : Int} {X71 : Int → Mem → Prop} {Q : Int → Mem → Prop} {b : Int} (hb : b + 200 ≤ 2000000000) (hQ : ∀ z : Int, ∀ M' : Mem, IM (b + 200) M' → Q z M') (hX71 : ∀ w1 : Int, ∀ M' : Mem, IM (b + 200) M' → (0 ≤ w1 ∧ w1 ≤ 29) → X71 w1 M') : ∀ (n : Nat) (v2 v3 : Int) (M : Mem), IM (b + 200) M → (0 ≤ v2 ∧ v2 ≤ 29 ∧ 0 ≤ v3 ∧ v3 ≤ 30) → 30 - v3 < (n : Int) → qX12_jam_L36 p1 X71 Q n v2 v3 M := by
  intro n
  induction n with
  | zero => intro v2 v3 M hI hv hm; exact absurd hm (by omega)
  | succ n ih =>
    intro v2 v3 M hI hv hm
    rw [qX12_jam_L36]
    have hbn := hI.nn
    intro x6_1752 ex6_1752 rx6_1752
    have bx6_1752 : 4 ≤ x6_1752 ∧ x6_1752 ≤ 30 := by rw [ex6_1752]; exact bm_c1_3.mp (hI.bx _ _)
    refine ⟨(by first | assumption | exact ⟨by omega, by omega⟩), ?_⟩
    refine ⟨fun c => ?_, fun c => ?_⟩
    · exact hX71 _ _ (hI.mono (by omega)) (by omega)
    · refine ⟨by omega, ?_⟩
      refine ⟨by omega, ?_⟩
      intro x11_1755 ex11_1755 rx11_1755
      have bx11_1755 : -2147483648 ≤ x11_1755 ∧ x11_1755 ≤ 2147483647 := rx11_1755
      refine ⟨by omega, ?_⟩
      refine ⟨by omega, ?_⟩
      intro x14_1756 ex14_1756 rx14_1756
      have bx14_1756 : -2147483648 ≤ x14_1756 ∧ x14_1756 ≤ 2147483647 := rx14_1756
      refine ⟨fun c => ?_, fun c => ?_⟩
      · exact ih _ _ _ (hI.mono (by omega)) (by omega) (by omega)
      · exact ih _ _ _ (hI.mono (by omega)) (by omega) (by omega)
theorem sX12_jam {p1 : Int} {b : Int} {M : Mem} {Q : Int → Mem → Prop} (hI : IM b M) (hb : b + 200 ≤ 2000000000) (hQ : ∀ z : Int, ∀ M' : Mem, IM (b + 200) M' → Q z M') : qX12_jam p1 M Q := by
  unfold qX12_jam
  have hbn := hI.nn
  intro M1_1759 h_M1_1759
  have hM1_1759 : IM (b) M1_1759 := by rw [h_M1_1759]; exact hI.up (by omega) (by simp [BM])
  refine sX12_in (p0 := p1) (p2 := 1) (p4 := 60) hM1_1759  ?_
  intro x2_1760 p1761 q1762 q1763
  refine ⟨fun c => ?_, fun c => ?_⟩
  · refine sX12_copies  hM1_1759  ?_
    intro M4_1765 hM4_1765
    refine sX12_goesOn (p2 := p1) hM4_1765 (by omega) (Or.inr rfl) (by omega) ?_
    intro M5_1766 hM5_1766
    refine ⟨31, ?_⟩
    refine sX12_jam_L36 (b := b) (p1 := p1) hb ?_ ?_ _ _ _ _ (hM5_1766.mono (by omega)) (by omega) (by omega)
    · exact hQ
    · intro v2_1767 M_1768 hM_1768 p1769
      intro M17_1770 h_M17_1770
      have hM17_1770 : IM (b + 200) M17_1770 := by rw [h_M17_1770]; exact hM_1768.up (by omega) (bm_c1_1.mpr ⟨by omega, by omega⟩)
      refine ⟨by omega, ?_⟩
      refine ⟨by omega, ?_⟩
      intro x20_1771 ex20_1771 rx20_1771
      have bx20_1771 : -2147483648 ≤ x20_1771 ∧ x20_1771 ≤ 2147483647 := rx20_1771
      have fx20_1771 : x20_1771 = M_1768 16 v2_1767 := by rw [ex20_1771, h_M17_1770, up2_n (by decide)]
      have u1772 : 0 ≤ M17_1770 1 1 ∧ M17_1770 1 1 ≤ 24 := bm_c1_1.mp (hM17_1770.bx _ _)
      have t1773 : M17_1770 1 1 = 0 := by rw [h_M17_1770, up2_s]
      refine sX12_enters (p1 := x20_1771) hM17_1770 (by omega) ?_
      intro M21_1774 hM21_1774 p1775
      intro x22_1776 ex22_1776 rx22_1776
      have bx22_1776 : -2147483648 ≤ x22_1776 ∧ x22_1776 ≤ 2147483647 := rx22_1776
      have u1777 : 0 ≤ M21_1774 1 1 ∧ M21_1774 1 1 ≤ 24 := bm_c1_1.mp (hM21_1774.bx _ _)
      refine sX12_enters (p1 := x22_1776) hM21_1774 (by omega) ?_
      intro M23_1778 hM23_1778 p1779
      refine ⟨(by first | assumption | exact ⟨by omega, by omega⟩), ?_⟩
      exact hQ _ _ (hM23_1778.mono (by omega))
  · exact hQ _ _ (hM1_1759.mono (by omega))
theorem sX12_isAhead {k0 : Nat} {p1 : Int} {p2 : Int} {b : Int} {M : Mem} {Q : Int → Mem → Prop} (hI : IM b M) (hk0 : isN k0) (hp : 0 ≤ p1 ∧ p1 ≤ 5 ∧ 0 ≤ p2 ∧ p2 ≤ 5) (hQ : ∀ z : Int, Q z M) : qX12_isAhead k0 p1 p2 M Q := by
  unfold qX12_isAhead
  have hbn := hI.nn
  have ek0 : k0 = 5 ∨ k0 = 6 := hk0
  refine sX12_isOn (p1 := p1) hI hk0 (by omega) ?_
  intro x1_1781 p1782 q1783 q1784
  refine ⟨fun c => ?_, fun c => ?_⟩
  · refine sX12_isOn (p1 := p2) hI hk0 (by omega) ?_
    intro x3_1786 p1787 q1788 q1789
    refine ⟨fun c => ?_, fun c => ?_⟩
    · exact hQ _
    · refine ⟨by omega, ?_⟩
      refine ⟨by omega, ?_⟩
      intro x7_1792 ex7_1792 rx7_1792
      have bx7_1792 : -2147483648 ≤ x7_1792 ∧ x7_1792 ≤ 2147483647 := rx7_1792
      refine ⟨by omega, ?_⟩
      refine ⟨by omega, ?_⟩
      intro x10_1793 ex10_1793 rx10_1793
      have bx10_1793 : -2147483648 ≤ x10_1793 ∧ x10_1793 ≤ 2147483647 := rx10_1793
      refine ⟨fun c => ?_, fun c => ?_⟩
      · exact hQ _
      · exact hQ _
  · refine sX12_isOn (p1 := p2) hI hk0 (by omega) ?_
    intro x12_1797 p1798 q1799 q1800
    refine ⟨fun c => ?_, fun c => ?_⟩
    · exact hQ _
    · refine ⟨by omega, ?_⟩
      refine ⟨by omega, ?_⟩
      intro x16_1803 ex16_1803 rx16_1803
      have rbx16_1803 : -2147483648 ≤ x16_1803 ∧ x16_1803 ≤ 2147483647 := rx16_1803
      have nbx16_1803 : BN (b) p1 x16_1803 := by rw [ex16_1803]; exact (bm_n hk0).mp (hI.bx _ _)
      first | (have bx16_1803 : -1 ≤ x16_1803 ∧ x16_1803 ≤ 29 := nbx16_1803.1 ⟨by omega, by omega⟩) | (have bx16_1803 : -1 ≤ x16_1803 ∧ x16_1803 ≤ 29 := nbx16_1803.2.1 ⟨by omega, by omega⟩) | skip
      refine ⟨by omega, ?_⟩
      refine ⟨by omega, ?_⟩
      intro x19_1804 ex19_1804 rx19_1804
      have rbx19_1804 : -2147483648 ≤ x19_1804 ∧ x19_1804 ≤ 2147483647 := rx19_1804
      have nbx19_1804 : BN (b) p2 x19_1804 := by rw [ex19_1804]; exact (bm_n hk0).mp (hI.bx _ _)
      first | (have bx19_1804 : -1 ≤ x19_1804 ∧ x19_1804 ≤ 29 := nbx19_1804.1 ⟨by omega, by omega⟩) | (have bx19_1804 : -1 ≤ x19_1804 ∧ x19_1804 ≤ 29 := nbx19_1804.2.1 ⟨by omega, by omega⟩) | skip
      refine ⟨fun c => ?_, fun c => ?_⟩
      · exact hQ _
      · exact hQ _
theorem sX12_passes_L71 {p1 : Int} {p2 : Int} {X97 : Int → Mem → Prop} {Q : Int → Mem → Prop} {b : Int} (hb : b + 62 ≤ 2000000000) (hQ : ∀ z : Int, ∀ M' : Mem, IM (b + 62) M' → Q z M') (hX97 : ∀ w1 : Int, ∀ M' : Mem, IM (b + 62) M' → (1 ≤ w1 ∧ w1 ≤ 61) → X97 w1 M') : ∀ (n : Nat) (v3 : Int) (M : Mem), IM (b + v3) M → (1 ≤ v3 ∧ v3 ≤ 61 ∧ 0 ≤ p1 ∧ p1 ≤ 5 ∧ 0 ≤ p2 ∧ p2 ≤ 5) → 61 - v3 < (n : Int) → qX12_passes_L71 p1 p2 X97 Q n v3 M := by
  intro n
  induction n with
  | zero => intro v3 M hI hv hm; exact absurd hm (by omega)
  | succ n ih =>
    intro v3 M hI hv hm
    rw [qX12_passes_L71]
    have hbn := hI.nn
    refine ⟨(by first | assumption | exact ⟨by omega, by omega⟩), ?_⟩
    refine ⟨fun c => ?_, fun c => ?_⟩
    · exact hQ _ _ (hI.mono (by omega))
    · refine sX12_stepGoes  hI (by omega) (Or.inr rfl) ?_
      intro M16_1809 hM16_1809
      refine sX12_isAhead (p1 := p1) (p2 := p2) hM16_1809 (Or.inr rfl) (by omega) ?_
      intro x17_1810 q1811 q1812
      refine ⟨fun c => ?_, fun c => ?_⟩
      · exact ih _ _ (hM16_1809.mono (by omega)) (by omega) (by omega)
      · exact hX97 _ _ (hM16_1809.mono (by omega)) (by omega)
theorem sX12_passes {p1 : Int} {p2 : Int} {b : Int} {M : Mem} {Q : Int → Mem → Prop} (hI : IM b M) (hb : b + 62 ≤ 2000000000) (hQ : ∀ z : Int, ∀ M' : Mem, IM (b + 62) M' → Q z M') : qX12_passes p1 p2 M Q := by
  unfold qX12_passes
  have hbn := hI.nn
  intro M1_1815 h_M1_1815
  have hM1_1815 : IM (b) M1_1815 := by rw [h_M1_1815]; exact hI.up (by omega) (by simp [BM])
  refine sX12_isHearse (p1 := p1) hM1_1815  ?_
  intro x2_1816 p1817 q1818 q1819
  refine ⟨fun c => ?_, fun c => ?_⟩
  · exact hQ _ _ (hM1_1815.mono (by omega))
  · refine sX12_isHearse (p1 := p2) hM1_1815  ?_
    intro x4_1822 p1823 q1824 q1825
    refine ⟨fun c => ?_, fun c => ?_⟩
    · exact hQ _ _ (hM1_1815.mono (by omega))
    · refine ⟨fun c => ?_, fun c => ?_⟩
      · refine sX12_isOn (p1 := p1) hM1_1815 (Or.inl rfl) (by omega) ?_
        intro x7_1829 p1830 q1831 q1832
        refine ⟨fun c => ?_, fun c => ?_⟩
        · exact hQ _ _ (hM1_1815.mono (by omega))
        · refine sX12_isOn (p1 := p2) hM1_1815 (Or.inl rfl) (by omega) ?_
          intro x9_1835 p1836 q1837 q1838
          refine ⟨fun c => ?_, fun c => ?_⟩
          · exact hQ _ _ (hM1_1815.mono (by omega))
          · refine sX12_isAhead (p1 := p1) (p2 := p2) hM1_1815 (Or.inl rfl) (by omega) ?_
            intro x11_1841 q1842 q1843
            refine ⟨fun c => ?_, fun c => ?_⟩
            · refine sX12_copies  hM1_1815  ?_
              intro M13_1845 hM13_1845
              refine ⟨62, ?_⟩
              refine sX12_passes_L71 (b := b) (p1 := p1) (p2 := p2) hb ?_ ?_ _ _ _ (hM13_1845.mono (by omega)) (by omega) (by omega)
              · exact hQ
              · intro v3_1846 M_1847 hM_1847 p1848
                intro M20_1849 h_M20_1849
                have hM20_1849 : IM (b + 62) M20_1849 := by rw [h_M20_1849]; exact hM_1847.up (by omega) (bm_c1_1.mpr ⟨by omega, by omega⟩)
                refine ⟨by omega, ?_⟩
                refine ⟨by omega, ?_⟩
                intro x23_1850 ex23_1850 rx23_1850
                have rbx23_1850 : -2147483648 ≤ x23_1850 ∧ x23_1850 ≤ 2147483647 := rx23_1850
                have nbx23_1850 : BN (b + 62) p1 x23_1850 := by rw [ex23_1850]; exact (bm_n (Or.inr rfl)).mp (hM20_1849.bx _ _)
                first | (have bx23_1850 : -1 ≤ x23_1850 ∧ x23_1850 ≤ 29 := nbx23_1850.1 ⟨by omega, by omega⟩) | (have bx23_1850 : -1 ≤ x23_1850 ∧ x23_1850 ≤ 29 := nbx23_1850.2.1 ⟨by omega, by omega⟩) | skip
                have fx23_1850 : x23_1850 = M_1847 6 p1 := by rw [ex23_1850, h_M20_1849, up2_n (by decide)]
                have u1851 : 0 ≤ M20_1849 1 1 ∧ M20_1849 1 1 ≤ 24 := bm_c1_1.mp (hM20_1849.bx _ _)
                have t1852 : M20_1849 1 1 = 0 := by rw [h_M20_1849, up2_s]
                refine sX12_enters (p1 := x23_1850) hM20_1849 (by omega) ?_
                intro M24_1853 hM24_1853 p1854
                refine ⟨(by first | assumption | exact ⟨by omega, by omega⟩), ?_⟩
                exact hQ _ _ (hM24_1853.mono (by omega))
            · exact hQ _ _ (hM1_1815.mono (by omega))
      · exact hQ _ _ (hM1_1815.mono (by omega))
theorem sX12_ends_L30 {p1 : Int} {X48 : Int → Mem → Prop} {Q : Int → Mem → Prop} {b : Int} (hb : b + 402 ≤ 2000000000) (hQ : ∀ z : Int, ∀ M' : Mem, IM (b + 402) M' → Q z M') (hX48 : ∀ w1 : Int, ∀ M' : Mem, IM (b + 402) M' → (0 ≤ w1 ∧ w1 ≤ 200) → X48 w1 M') : ∀ (n : Nat) (v2 : Int) (M : Mem), IM (b + 200 + v2) M → (0 ≤ v2 ∧ v2 ≤ 201 ∧ 0 ≤ p1 ∧ p1 ≤ 7) → 201 - v2 < (n : Int) → qX12_ends_L30 p1 X48 Q n v2 M := by
  intro n
  induction n with
  | zero => intro v2 M hI hv hm; exact absurd hm (by omega)
  | succ n ih =>
    intro v2 M hI hv hm
    rw [qX12_ends_L30]
    have hbn := hI.nn
    refine ⟨(by first | assumption | exact ⟨by omega, by omega⟩), ?_⟩
    refine ⟨fun c => ?_, fun c => ?_⟩
    · exact hQ _ _ (hI.mono (by omega))
    · refine sX12_isEnded (p1 := p1) hI (Or.inr rfl) (by omega) ?_
      intro x8_1859 q1860 q1861
      refine ⟨fun c => ?_, fun c => ?_⟩
      · refine sX12_stepGoes  hI (by omega) (Or.inr rfl) ?_
        intro M10_1863 hM10_1863
        exact ih _ _ (hM10_1863.mono (by omega)) (by omega) (by omega)
      · exact hX48 _ _ (hI.mono (by omega)) (by omega)
theorem sX12_ends {p1 : Int} {b : Int} {M : Mem} {Q : Int → Mem → Prop} (hI : IM b M) (hb : b + 402 ≤ 2000000000) (hQ : ∀ z : Int, ∀ M' : Mem, IM (b + 402) M' → Q z M') : qX12_ends p1 M Q := by
  unfold qX12_ends
  have hbn := hI.nn
  intro M1_1865 h_M1_1865
  have hM1_1865 : IM (b) M1_1865 := by rw [h_M1_1865]; exact hI.up (by omega) (by simp [BM])
  refine sX12_isMourner (p1 := p1) hM1_1865  ?_
  intro x2_1866 p1867 q1868 q1869
  refine ⟨fun c => ?_, fun c => ?_⟩
  · refine sX12_copies  hM1_1865  ?_
    intro M4_1871 hM4_1871
    refine sX12_goesOn (p2 := 0) hM4_1871 (by omega) (Or.inr rfl) (by omega) ?_
    intro M5_1872 hM5_1872
    refine ⟨202, ?_⟩
    refine sX12_ends_L30 (b := b) (p1 := p1) hb ?_ ?_ _ _ _ (hM5_1872.mono (by omega)) (by omega) (by omega)
    · exact hQ
    · intro v2_1873 M_1874 hM_1874 p1875
      intro M12_1876 h_M12_1876
      have hM12_1876 : IM (b + 402) M12_1876 := by rw [h_M12_1876]; exact hM_1874.up (by omega) (bm_c1_1.mpr ⟨by omega, by omega⟩)
      refine ⟨(by first | assumption | exact ⟨by omega, by omega⟩), ?_⟩
      have u1877 : 0 ≤ M12_1876 1 1 ∧ M12_1876 1 1 ≤ 24 := bm_c1_1.mp (hM12_1876.bx _ _)
      have t1878 : M12_1876 1 1 = 0 := by rw [h_M12_1876, up2_s]
      refine sX12_enters (p1 := v2_1873) hM12_1876 (by omega) ?_
      intro M14_1879 hM14_1879 p1880
      refine ⟨by omega, ?_⟩
      refine ⟨by omega, ?_⟩
      intro x17_1881 ex17_1881 rx17_1881
      have bx17_1881 : -2147483648 ≤ x17_1881 ∧ x17_1881 ≤ 2147483647 := rx17_1881
      have u1882 : 0 ≤ M14_1879 1 1 ∧ M14_1879 1 1 ≤ 24 := bm_c1_1.mp (hM14_1879.bx _ _)
      refine sX12_enters (p1 := x17_1881) hM14_1879 (by omega) ?_
      intro M18_1883 hM18_1883 p1884
      refine ⟨by omega, ?_⟩
      refine ⟨by omega, ?_⟩
      intro x21_1885 ex21_1885 rx21_1885
      have bx21_1885 : -2147483648 ≤ x21_1885 ∧ x21_1885 ≤ 2147483647 := rx21_1885
      exact hQ _ _ (hM18_1883.mono (by omega))
  · exact hQ _ _ (hM1_1865.mono (by omega))
theorem sX12_endedBy_L5 {k1 : Nat} {p2 : Int}  {Q : Int → Mem → Prop} {b : Int} {M0 : Mem} (hk1 : isN k1) (hQ : ∀ z : Int, Q z M0) : ∀ (n : Nat) (v3 v4 : Int), IM (b) M0 → (0 ≤ v4 ∧ v4 ≤ 8) → iR v3 → 8 - v4 < (n : Int) → qX12_endedBy_L5 k1 p2 Q n v3 v4 M0 := by
  intro n
  induction n with
  | zero => intro v3 v4 hI hv hrv3 hm; exact absurd hm (by omega)
  | succ n ih =>
    intro v3 v4 hI hv hrv3 hm
    rw [qX12_endedBy_L5]
    have hbn := hI.nn
    have ek1 : k1 = 5 ∨ k1 = 6 := hk1
    intro x1_1887 ex1_1887 rx1_1887
    have bx1_1887 : 0 ≤ x1_1887 ∧ x1_1887 ≤ 8 := by rw [ex1_1887]; exact bm_c1_5.mp (hI.bx _ _)
    refine ⟨(by first | assumption | exact ⟨by omega, by omega⟩), ?_⟩
    refine ⟨fun c => ?_, fun c => ?_⟩
    · refine ⟨(by first | assumption | exact ⟨by omega, by omega⟩), ?_⟩
      exact hQ _
    · refine sX12_isEnded (p1 := v4) hI hk1 (by omega) ?_
      intro x5_1890 q1891 q1892
      refine ⟨fun c => ?_, fun c => ?_⟩
      · intro x7_1894 ex7_1894 rx7_1894
        first | (have fx7_1894 := oI_64 (a := v3) (b := 0) ⟨by omega, by omega⟩ ⟨by omega, by omega⟩; rw [← ex7_1894] at fx7_1894) | skip
        exact ih _ _ (hI.mono (by omega)) (by omega) (by first | assumption | exact ⟨by omega, by omega⟩) (by omega)
      · refine ⟨by omega, ?_⟩
        refine ⟨by omega, ?_⟩
        intro x10_1896 ex10_1896 rx10_1896
        have bx10_1896 : -2147483648 ≤ x10_1896 ∧ x10_1896 ≤ 2147483647 := rx10_1896
        refine ⟨by omega, ?_⟩
        refine ⟨by omega, ?_⟩
        intro x13_1897 ex13_1897 rx13_1897
        have bx13_1897 : 0 ≤ x13_1897 ∧ x13_1897 ≤ 5 := by rw [ex13_1897]; exact bm_c3.mp (hI.bx _ _)
        refine ⟨fun c => ?_, fun c => ?_⟩
        · unfold qX12_endedBy_J46
          refine ⟨(by first | assumption | exact ⟨by omega, by omega⟩), ?_⟩
          refine ⟨fun c => ?_, fun c => ?_⟩
          · intro x17_1900 ex17_1900 rx17_1900
            first | (have fx17_1900 := oI_64 (a := v3) (b := 0) ⟨by omega, by omega⟩ ⟨by omega, by omega⟩; rw [← ex17_1900] at fx17_1900) | skip
            exact ih _ _ (hI.mono (by omega)) (by omega) (by first | assumption | exact ⟨by omega, by omega⟩) (by omega)
          · intro x18_1902 ex18_1902 rx18_1902
            first | (have fx18_1902 := slI_1 (b := v4) ⟨by omega, by omega⟩; rw [← ex18_1902] at fx18_1902) | skip
            intro x19_1903 ex19_1903 rx19_1903
            first | (have fx19_1903 := oI_64 (a := v3) (b := x18_1902) ⟨by omega, by omega⟩ ⟨by omega, by omega⟩; rw [← ex19_1903] at fx19_1903) | skip
            exact ih _ _ (hI.mono (by omega)) (by omega) (by first | assumption | exact ⟨by omega, by omega⟩) (by omega)
        · unfold qX12_endedBy_J46
          refine ⟨(by first | assumption | exact ⟨by omega, by omega⟩), ?_⟩
          refine ⟨fun c => ?_, fun c => ?_⟩
          · intro x17_1906 ex17_1906 rx17_1906
            first | (have fx17_1906 := oI_64 (a := v3) (b := 0) ⟨by omega, by omega⟩ ⟨by omega, by omega⟩; rw [← ex17_1906] at fx17_1906) | skip
            exact ih _ _ (hI.mono (by omega)) (by omega) (by first | assumption | exact ⟨by omega, by omega⟩) (by omega)
          · intro x18_1908 ex18_1908 rx18_1908
            first | (have fx18_1908 := slI_1 (b := v4) ⟨by omega, by omega⟩; rw [← ex18_1908] at fx18_1908) | skip
            intro x19_1909 ex19_1909 rx19_1909
            first | (have fx19_1909 := oI_64 (a := v3) (b := x18_1908) ⟨by omega, by omega⟩ ⟨by omega, by omega⟩; rw [← ex19_1909] at fx19_1909) | skip
            exact ih _ _ (hI.mono (by omega)) (by omega) (by first | assumption | exact ⟨by omega, by omega⟩) (by omega)
