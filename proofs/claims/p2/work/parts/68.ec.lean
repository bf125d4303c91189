theorem sX12_digitIn {p1 : Int} {p2 : Int} {b : Int} {M : Mem} {Q : Int → Mem → Prop} (hI : IM b M) (hp : 0 ≤ p1 ∧ p1 ≤ 1 ∧ p2 = 9) (hQ : ∀ z : Int, ∀ M' : Mem, IM b M' → FrJ (fun k j => k = 1 ∧ j = 15) M M' → (-1 ≤ z ∧ z ≤ 207 ∧ M 1 15 ≤ M' 1 15) → Q z M') : qX12_digitIn p1 p2 M Q := by
  unfold qX12_digitIn
  have hbn := hI.nn
  have u1617 : 0 ≤ M 1 15 ∧ M 1 15 ≤ 80 := bm_c1_15.mp (hI.bx _ _)
  intro x1_1618 ex1_1618 rx1_1618
  have bx1_1618 : 0 ≤ x1_1618 ∧ x1_1618 ≤ 80 := by rw [ex1_1618]; exact bm_c1_15.mp (hI.bx _ _)
  intro x2_1619 ex2_1619 rx2_1619
  have bx2_1619 : 0 ≤ x2_1619 ∧ x2_1619 ≤ 80 := by rw [ex2_1619]; exact bm_c1_16.mp (hI.bx _ _)
  refine ⟨fun c => ?_, fun c => ?_⟩
  · have u1621 : 0 ≤ M 1 15 ∧ M 1 15 ≤ 80 := bm_c1_15.mp (hI.bx _ _)
    exact hQ _ _ (hI.mono (by omega)) FrJ.rf (by omega)
  · intro x4_1623 ex4_1623 rx4_1623
    have bx4_1623 : 0 ≤ x4_1623 ∧ x4_1623 ≤ 80 := by rw [ex4_1623]; exact bm_c1_15.mp (hI.bx _ _)
    refine ⟨by omega, ?_⟩
    refine ⟨by omega, ?_⟩
    intro x7_1624 ex7_1624 rx7_1624
    have bx7_1624 : 0 ≤ x7_1624 ∧ x7_1624 ≤ 255 := by rw [ex7_1624]; exact bm_c7.mp (hI.bx _ _)
    have cgx7_1624 : x7_1624 = M 7 (M 1 15) := by rw [ex7_1624, ← ex4_1623]
    refine ⟨(by first | assumption | exact ⟨by omega, by omega⟩), ?_⟩
    refine sX12_in (p0 := x7_1624 - 48) (p2 := p1) (p4 := p2) hI  ?_
    intro x9_1625 p1626 q1627 q1628
    refine ⟨fun c => ?_, fun c => ?_⟩
    · intro x11_1630 ex11_1630 rx11_1630
      have bx11_1630 : 0 ≤ x11_1630 ∧ x11_1630 ≤ 80 := by rw [ex11_1630]; exact bm_c1_15.mp (hI.bx _ _)
      refine ⟨(by first | assumption | exact ⟨by omega, by omega⟩), ?_⟩
      intro M13_1631 h_M13_1631
      have hM13_1631 : IM (b) M13_1631 := by rw [h_M13_1631]; exact hI.up (by omega) (bm_c1_15.mpr ⟨by omega, by omega⟩)
      have hFM13_1631 : FrJ (fun k j => k = 1 ∧ j = 15) M M13_1631 := by rw [h_M13_1631]; exact (FrJ.rf).up (by omega)
      intro x14_1632 ex14_1632 rx14_1632
      have bx14_1632 : 0 ≤ x14_1632 ∧ x14_1632 ≤ 80 := by rw [ex14_1632]; exact bm_c1_15.mp (hM13_1631.bx _ _)
      have fx14_1632 : x14_1632 = x11_1630 + 1 := by rw [ex14_1632, h_M13_1631, up2_s]
      refine ⟨by omega, ?_⟩
      refine ⟨by omega, ?_⟩
      intro x17_1633 ex17_1633 rx17_1633
      have bx17_1633 : 0 ≤ x17_1633 ∧ x17_1633 ≤ 255 := by rw [ex17_1633]; exact bm_c7.mp (hM13_1631.bx _ _)
      have fx17_1633 : x17_1633 = M 7 (x14_1632 - 1) := by rw [ex17_1633, h_M13_1631, up2_n (by decide)]
      refine ⟨(by first | assumption | exact ⟨by omega, by omega⟩), ?_⟩
      have u1634 : 0 ≤ M13_1631 1 15 ∧ M13_1631 1 15 ≤ 80 := bm_c1_15.mp (hM13_1631.bx _ _)
      have t1635 : M13_1631 1 15 = x11_1630 + 1 := by rw [h_M13_1631, up2_s]
      exact hQ _ _ (hM13_1631.mono (by omega)) hFM13_1631 (by omega)
    · have u1637 : 0 ≤ M 1 15 ∧ M 1 15 ≤ 80 := bm_c1_15.mp (hI.bx _ _)
      exact hQ _ _ (hI.mono (by omega)) FrJ.rf (by omega)
theorem sX12_hour  {b : Int} {M : Mem} {Q : Int → Mem → Prop} (hI : IM b M) (hb : b + 20000 ≤ 2000000000) (hQ : ∀ z : Int, Q z M) : qX12_hour M Q := sorry
theorem sX12_line_L20   {Q : Int → Mem → Prop} {b : Int} (hQ : ∀ z : Int, ∀ M' : Mem, IM b M' → Q z M') : ∀ (n : Nat) (v1 : Int) (M : Mem), IM (b) M → (0 ≤ v1 ∧ v1 ≤ 6 ∧ M 1 1 = v1) → 6 - v1 < (n : Int) → qX12_line_L20 Q n v1 M := by
  intro n
  induction n with
  | zero => intro v1 M hI hv hm; exact absurd hm (by omega)
  | succ n ih =>
    intro v1 M hI hv hm
    rw [qX12_line_L20]
    have hbn := hI.nn
    have u1638 : 0 ≤ M 1 1 ∧ M 1 1 ≤ 24 := bm_c1_1.mp (hI.bx _ _)
    intro x4_1639 ex4_1639 rx4_1639
    have bx4_1639 : 0 ≤ x4_1639 ∧ x4_1639 ≤ 6 := by rw [ex4_1639]; exact bm_c1_35.mp (hI.bx _ _)
    refine ⟨(by first | assumption | exact ⟨by omega, by omega⟩), ?_⟩
    refine ⟨fun c => ?_, fun c => ?_⟩
    · intro x7_1641 ex7_1641 rx7_1641
      have bx7_1641 : 0 ≤ x7_1641 ∧ x7_1641 ≤ 6 := by rw [ex7_1641]; exact bm_c1_35.mp (hI.bx _ _)
      exact hQ _ _ (hI.mono (by omega))
    · refine ⟨by omega, ?_⟩
      refine ⟨by omega, ?_⟩
      intro x10_1643 ex10_1643 rx10_1643
      have bx10_1643 : 0 ≤ x10_1643 ∧ x10_1643 ≤ 5 := by rw [ex10_1643]; exact bm_c18.mp (hI.bx _ _)
      have u1644 : 0 ≤ M 1 1 ∧ M 1 1 ≤ 24 := bm_c1_1.mp (hI.bx _ _)
      refine sX12_enters (p1 := x10_1643) hI (by omega) ?_
      intro M11_1645 hM11_1645 p1646
      have u1647 : 0 ≤ M11_1645 1 1 ∧ M11_1645 1 1 ≤ 24 := bm_c1_1.mp (hM11_1645.bx _ _)
      exact ih _ _ (hM11_1645.mono (by omega)) (by omega) (by omega)
theorem sX12_line  {b : Int} {M : Mem} {Q : Int → Mem → Prop} (hI : IM b M) (hQ : ∀ z : Int, ∀ M' : Mem, IM b M' → Q z M') : qX12_line M Q := by
  unfold qX12_line
  have hbn := hI.nn
  intro M1_1648 h_M1_1648
  have hM1_1648 : IM (b) M1_1648 := by rw [h_M1_1648]; exact hI.up (by omega) (by simp [BM])
  refine sX12_laysLine  hM1_1648 (Or.inl rfl) ?_
  intro M3_1649 h_M3_1649
  have hM3_1649 : IM (b) M3_1649 := by rw [h_M3_1649]; exact hM1_1648.up (by omega) (bm_c1_1.mpr ⟨by omega, by omega⟩)
  refine ⟨7, ?_⟩
  have u1650 : 0 ≤ M3_1649 1 1 ∧ M3_1649 1 1 ≤ 24 := bm_c1_1.mp (hM3_1649.bx _ _)
  have t1651 : M3_1649 1 1 = 0 := by rw [h_M3_1649, up2_s]
  refine sX12_line_L20 (b := b)  ?_ _ _ _ (hM3_1649.mono (by omega)) (by omega) (by omega)
  · exact hQ
theorem sX12_copies_L2   {Q : Mem → Prop} {b : Int} (hQ : ∀ M' : Mem, IM b M' → Q M') : ∀ (n : Nat) (v1 : Int) (M : Mem), IM (b) M → (0 ≤ v1 ∧ v1 ≤ 38) → 38 - v1 < (n : Int) → qX12_copies_L2 Q n v1 M := by
  intro n
  induction n with
  | zero => intro v1 M hI hv hm; exact absurd hm (by omega)
  | succ n ih =>
    intro v1 M hI hv hm
    rw [qX12_copies_L2]
    have hbn := hI.nn
    refine ⟨(by first | assumption | exact ⟨by omega, by omega⟩), ?_⟩
    refine ⟨fun c => ?_, fun c => ?_⟩
    · exact hQ _ (hI.mono (by omega))
    · refine ⟨by omega, ?_⟩
      refine ⟨by omega, ?_⟩
      intro x5_1654 ex5_1654 rx5_1654
      have rbx5_1654 : -2147483648 ≤ x5_1654 ∧ x5_1654 ≤ 2147483647 := rx5_1654
      have nbx5_1654 : BN (b) v1 x5_1654 := by rw [ex5_1654]; exact (bm_n (Or.inl rfl)).mp (hI.bx _ _)
      first | (have bx5_1654 : -1 ≤ x5_1654 ∧ x5_1654 ≤ 29 := nbx5_1654.1 ⟨by omega, by omega⟩) | skip
      intro M6_1655 h_M6_1655
      have hM6_1655 : IM (b) M6_1655 := by rw [h_M6_1655]; exact hI.up (by omega) ((bm_n (Or.inr rfl)).mpr (by first | assumption | exact ⟨by omega, by omega, by omega, by omega⟩))
      exact ih _ _ (hM6_1655.mono (by omega)) (by omega) (by omega)
theorem sX12_copies  {b : Int} {M : Mem} {Q : Mem → Prop} (hI : IM b M) (hQ : ∀ M' : Mem, IM b M' → Q M') : qX12_copies M Q := by
  unfold qX12_copies
  have hbn := hI.nn
  refine ⟨39, ?_⟩
  refine sX12_copies_L2 (b := b)  ?_ _ _ _ (hI.mono (by omega)) (by omega) (by omega)
  · exact hQ
theorem sX12_ahead_L39 {p1 : Int}  {Q : Int → Mem → Prop} {b : Int} (hb : b + 200 ≤ 2000000000) (hQ : ∀ z : Int, ∀ M' : Mem, IM (b + 200) M' → Q z M') : ∀ (n : Nat) (v2 : Int) (M : Mem), IM (b + 200) M → (0 ≤ v2 ∧ v2 ≤ 6 ∧ M 1 1 = v2) → 6 - v2 < (n : Int) → qX12_ahead_L39 p1 Q n v2 M := by
  intro n
  induction n with
  | zero => intro v2 M hI hv hm; exact absurd hm (by omega)
  | succ n ih =>
    intro v2 M hI hv hm
    rw [qX12_ahead_L39]
    have hbn := hI.nn
    have u1656 : 0 ≤ M 1 1 ∧ M 1 1 ≤ 24 := bm_c1_1.mp (hI.bx _ _)
    intro x7_1657 ex7_1657 rx7_1657
    have bx7_1657 : 0 ≤ x7_1657 ∧ x7_1657 ≤ 6 := by rw [ex7_1657]; exact bm_c1_4.mp (hI.bx _ _)
    refine ⟨(by first | assumption | exact ⟨by omega, by omega⟩), ?_⟩
    refine ⟨fun c => ?_, fun c => ?_⟩
    · intro x10_1659 ex10_1659 rx10_1659
      have bx10_1659 : -2147483648 ≤ x10_1659 ∧ x10_1659 ≤ 2147483647 := rx10_1659
      exact hQ _ _ (hI.mono (by omega))
    · refine ⟨by omega, ?_⟩
      refine ⟨by omega, ?_⟩
      intro x13_1661 ex13_1661 rx13_1661
      have rbx13_1661 : -2147483648 ≤ x13_1661 ∧ x13_1661 ≤ 2147483647 := rx13_1661
      have nbx13_1661 : BN (b + 200) v2 x13_1661 := by rw [ex13_1661]; exact (bm_n (Or.inr rfl)).mp (hI.bx _ _)
      first | (have bx13_1661 : -1 ≤ x13_1661 ∧ x13_1661 ≤ 29 := nbx13_1661.1 ⟨by omega, by omega⟩) | skip
      have u1662 : 0 ≤ M 1 1 ∧ M 1 1 ≤ 24 := bm_c1_1.mp (hI.bx _ _)
      refine sX12_enters (p1 := x13_1661) hI (by omega) ?_
      intro M14_1663 hM14_1663 p1664
      have u1665 : 0 ≤ M14_1663 1 1 ∧ M14_1663 1 1 ≤ 24 := bm_c1_1.mp (hM14_1663.bx _ _)
      exact ih _ _ (hM14_1663.mono (by omega)) (by omega) (by omega)
theorem sX12_ahead {p1 : Int} {b : Int} {M : Mem} {Q : Int → Mem → Prop} (hI : IM b M) (hb : b + 200 ≤ 2000000000) (hQ : ∀ z : Int, ∀ M' : Mem, IM (b + 200) M' → Q z M') : qX12_ahead p1 M Q := by
  unfold qX12_ahead
  have hbn := hI.nn
  intro M1_1666 h_M1_1666
  have hM1_1666 : IM (b) M1_1666 := by rw [h_M1_1666]; exact hI.up (by omega) (by simp [BM])
  refine sX12_in (p0 := p1) (p2 := 0) (p4 := 99) hM1_1666  ?_
  intro x2_1667 p1668 q1669 q1670
  refine ⟨fun c => ?_, fun c => ?_⟩
  · refine sX12_copies  hM1_1666  ?_
    intro M4_1672 hM4_1672
    refine sX12_goesOn (p2 := p1) hM4_1672 (by omega) (Or.inr rfl) (by omega) ?_
    intro M5_1673 hM5_1673
    intro M6_1674 h_M6_1674
    have hM6_1674 : IM (b + 200) M6_1674 := by rw [h_M6_1674]; exact hM5_1673.up (by omega) (bm_c1_1.mpr ⟨by omega, by omega⟩)
    refine ⟨7, ?_⟩
    have u1675 : 0 ≤ M6_1674 1 1 ∧ M6_1674 1 1 ≤ 24 := bm_c1_1.mp (hM6_1674.bx _ _)
    have t1676 : M6_1674 1 1 = 0 := by rw [h_M6_1674, up2_s]
    refine sX12_ahead_L39 (b := b) (p1 := p1) hb ?_ _ _ _ (hM6_1674.mono (by omega)) (by omega) (by omega)
    · exact hQ
  · exact hQ _ _ (hM1_1666.mono (by omega))
theorem sX12_arrives_L21 {p1 : Int} {X39 : Int → Mem → Prop} {Q : Int → Mem → Prop} {b : Int} (hb : b + 201 ≤ 2000000000) (hQ : ∀ z : Int, ∀ M' : Mem, IM (b + 201) M' → Q z M') (hX39 : ∀ w1 : Int, ∀ M' : Mem, IM (b + 200) M' → (0 ≤ w1 ∧ w1 ≤ 200) → X39 w1 M') : ∀ (n : Nat) (v2 : Int) (M : Mem), IM (b + v2) M → (0 ≤ v2 ∧ v2 ≤ 201 ∧ 0 ≤ p1 ∧ p1 ≤ 5) → 201 - v2 < (n : Int) → qX12_arrives_L21 p1 X39 Q n v2 M := by
  intro n
  induction n with
  | zero => intro v2 M hI hv hm; exact absurd hm (by omega)
  | succ n ih =>
    intro v2 M hI hv hm
    rw [qX12_arrives_L21]
    have hbn := hI.nn
    refine ⟨(by first | assumption | exact ⟨by omega, by omega⟩), ?_⟩
    refine ⟨fun c => ?_, fun c => ?_⟩
    · exact hQ _ _ (hI.mono (by omega))
    · refine sX12_isOn (p1 := p1) hI (Or.inr rfl) (by omega) ?_
      intro x7_1680 p1681 q1682 q1683
      refine ⟨fun c => ?_, fun c => ?_⟩
      · refine sX12_stepGoes  hI (by omega) (Or.inr rfl) ?_
        exact ih _ _ (hI.mono (by omega)) (by omega) (by omega)
      · exact hX39 _ _ (hI.mono (by omega)) (by omega)
theorem sX12_arrives {p1 : Int} {b : Int} {M : Mem} {Q : Int → Mem → Prop} (hI : IM b M) (hb : b + 201 ≤ 2000000000) (hQ : ∀ z : Int, ∀ M' : Mem, IM (b + 201) M' → Q z M') : qX12_arrives p1 M Q := by
  unfold qX12_arrives
  have hbn := hI.nn
  intro M1_1686 h_M1_1686
  have hM1_1686 : IM (b) M1_1686 := by rw [h_M1_1686]; exact hI.up (by omega) (by simp [BM])
  refine sX12_isHearse (p1 := p1) hM1_1686  ?_
  intro x2_1687 p1688 q1689 q1690
  refine ⟨fun c => ?_, fun c => ?_⟩
  · refine sX12_copies  hM1_1686  ?_
    intro M4_1692 hM4_1692
    refine ⟨202, ?_⟩
    refine sX12_arrives_L21 (b := b) (p1 := p1) hb ?_ ?_ _ _ _ (hM4_1692.mono (by omega)) (by omega) (by omega)
    · exact hQ
    · intro v2_1693 M_1694 hM_1694 p1695
      intro M11_1696 h_M11_1696
      have hM11_1696 : IM (b + 200) M11_1696 := by rw [h_M11_1696]; exact hM_1694.up (by omega) (bm_c1_1.mpr ⟨by omega, by omega⟩)
      refine ⟨by omega, ?_⟩
      refine ⟨by omega, ?_⟩
      intro x14_1697 ex14_1697 rx14_1697
      have bx14_1697 : -2147483648 ≤ x14_1697 ∧ x14_1697 ≤ 2147483647 := rx14_1697
      have fx14_1697 : x14_1697 = M_1694 6 (6 + p1) := by rw [ex14_1697, h_M11_1696, up2_n (by decide)]
      have u1698 : 0 ≤ M11_1696 1 1 ∧ M11_1696 1 1 ≤ 24 := bm_c1_1.mp (hM11_1696.bx _ _)
      have t1699 : M11_1696 1 1 = 0 := by rw [h_M11_1696, up2_s]
      refine sX12_enters (p1 := x14_1697) hM11_1696 (by omega) ?_
      intro M15_1700 hM15_1700 p1701
      refine ⟨(by first | assumption | exact ⟨by omega, by omega⟩), ?_⟩
      exact hQ _ _ (hM15_1700.mono (by omega))
  · exact hQ _ _ (hM1_1686.mono (by omega))
theorem sX12_jam_L36 {p1 : Int} {X71 : Int → Mem → Prop} {Q : Int → Mem → Prop} {b : Int} (hb : b + 200 ≤ 2000000000) (hQ : ∀ z : Int, ∀ M' : Mem, IM (b + 200) M' → Q z M') (hX71 : ∀ w1 : Int, ∀ M' : Mem, IM (b + 200) M' → (0 ≤ w1 ∧ w1 ≤ 29) → X71 w1 M') : ∀ (n : Nat) (v2 v3 : Int) (M : Mem), IM (b + 200) M → (0 ≤ v2 ∧ v2 ≤ 29 ∧ 0 ≤ v3 ∧ v3 ≤ 30) → 30 - v3 < (n : Int) → qX12_jam_L36 p1 X71 Q n v2 v3 M := by
  intro n
  induction n with
  | zero => intro v2 v3 M hI hv hm; exact absurd hm (by omega)
  | succ n ih =>
    intro v2 v3 M hI hv hm
    rw [qX12_jam_L36]
    have hbn := hI.nn
    intro x6_1703 ex6_1703 rx6_1703
    have bx6_1703 : 4 ≤ x6_1703 ∧ x6_1703 ≤ 30 := by rw [ex6_1703]; exact bm_c1_3.mp (hI.bx _ _)
    refine ⟨(by first | assumption | exact ⟨by omega, by omega⟩), ?_⟩
    refine ⟨fun c => ?_, fun c => ?_⟩
    · exact hX71 _ _ (hI.mono (by omega)) (by omega)
    · refine ⟨by omega, ?_⟩
      refine ⟨by omega, ?_⟩
      intro x11_1706 ex11_1706 rx11_1706
      have bx11_1706 : -2147483648 ≤ x11_1706 ∧ x11_1706 ≤ 2147483647 := rx11_1706
      refine ⟨by omega, ?_⟩
      refine ⟨by omega, ?_⟩
      intro x14_1707 ex14_1707 rx14_1707
      have bx14_1707 : -2147483648 ≤ x14_1707 ∧ x14_1707 ≤ 2147483647 := rx14_1707
      refine ⟨fun c => ?_, fun c => ?_⟩
      · exact ih _ _ _ (hI.mono (by omega)) (by omega) (by omega)
      · exact ih _ _ _ (hI.mono (by omega)) (by omega) (by omega)
theorem sX12_jam {p1 : Int} {b : Int} {M : Mem} {Q : Int → Mem → Prop} (hI : IM b M) (hb : b + 200 ≤ 2000000000) (hQ : ∀ z : Int, ∀ M' : Mem, IM (b + 200) M' → Q z M') : qX12_jam p1 M Q := by
  unfold qX12_jam
  have hbn := hI.nn
  intro M1_1710 h_M1_1710
  have hM1_1710 : IM (b) M1_1710 := by rw [h_M1_1710]; exact hI.up (by omega) (by simp [BM])
  refine sX12_in (p0 := p1) (p2 := 1) (p4 := 60) hM1_1710  ?_
  intro x2_1711 p1712 q1713 q1714
  refine ⟨fun c => ?_, fun c => ?_⟩
  · refine sX12_copies  hM1_1710  ?_
    intro M4_1716 hM4_1716
    refine sX12_goesOn (p2 := p1) hM4_1716 (by omega) (Or.inr rfl) (by omega) ?_
    intro M5_1717 hM5_1717
    refine ⟨31, ?_⟩
    refine sX12_jam_L36 (b := b) (p1 := p1) hb ?_ ?_ _ _ _ _ (hM5_1717.mono (by omega)) (by omega) (by omega)
    · exact hQ
    · intro v2_1718 M_1719 hM_1719 p1720
      intro M17_1721 h_M17_1721
      have hM17_1721 : IM (b + 200) M17_1721 := by rw [h_M17_1721]; exact hM_1719.up (by omega) (bm_c1_1.mpr ⟨by omega, by omega⟩)
      refine ⟨by omega, ?_⟩
      refine ⟨by omega, ?_⟩
      intro x20_1722 ex20_1722 rx20_1722
      have bx20_1722 : -2147483648 ≤ x20_1722 ∧ x20_1722 ≤ 2147483647 := rx20_1722
      have fx20_1722 : x20_1722 = M_1719 16 v2_1718 := by rw [ex20_1722, h_M17_1721, up2_n (by decide)]
      have u1723 : 0 ≤ M17_1721 1 1 ∧ M17_1721 1 1 ≤ 24 := bm_c1_1.mp (hM17_1721.bx _ _)
      have t1724 : M17_1721 1 1 = 0 := by rw [h_M17_1721, up2_s]
      refine sX12_enters (p1 := x20_1722) hM17_1721 (by omega) ?_
      intro M21_1725 hM21_1725 p1726
      intro x22_1727 ex22_1727 rx22_1727
      have bx22_1727 : -2147483648 ≤ x22_1727 ∧ x22_1727 ≤ 2147483647 := rx22_1727
      have u1728 : 0 ≤ M21_1725 1 1 ∧ M21_1725 1 1 ≤ 24 := bm_c1_1.mp (hM21_1725.bx _ _)
      refine sX12_enters (p1 := x22_1727) hM21_1725 (by omega) ?_
      intro M23_1729 hM23_1729 p1730
      refine ⟨(by first | assumption | exact ⟨by omega, by omega⟩), ?_⟩
      exact hQ _ _ (hM23_1729.mono (by omega))
  · exact hQ _ _ (hM1_1710.mono (by omega))
theorem sX12_isAhead {k0 : Nat} {p1 : Int} {p2 : Int} {b : Int} {M : Mem} {Q : Int → Mem → Prop} (hI : IM b M) (hk0 : isN k0) (hp : 0 ≤ p1 ∧ p1 ≤ 5 ∧ 0 ≤ p2 ∧ p2 ≤ 5) (hQ : ∀ z : Int, Q z M) : qX12_isAhead k0 p1 p2 M Q := by
  unfold qX12_isAhead
  have hbn := hI.nn
  have ek0 : k0 = 5 ∨ k0 = 6 := hk0
  refine sX12_isOn (p1 := p1) hI hk0 (by omega) ?_
  intro x1_1732 p1733 q1734 q1735
  refine ⟨fun c => ?_, fun c => ?_⟩
  · refine sX12_isOn (p1 := p2) hI hk0 (by omega) ?_
    intro x3_1737 p1738 q1739 q1740
    refine ⟨fun c => ?_, fun c => ?_⟩
    · exact hQ _
    · refine ⟨by omega, ?_⟩
      refine ⟨by omega, ?_⟩
      intro x7_1743 ex7_1743 rx7_1743
      have bx7_1743 : -2147483648 ≤ x7_1743 ∧ x7_1743 ≤ 2147483647 := rx7_1743
      refine ⟨by omega, ?_⟩
      refine ⟨by omega, ?_⟩
      intro x10_1744 ex10_1744 rx10_1744
      have bx10_1744 : -2147483648 ≤ x10_1744 ∧ x10_1744 ≤ 2147483647 := rx10_1744
      refine ⟨fun c => ?_, fun c => ?_⟩
      · exact hQ _
      · exact hQ _
  · refine sX12_isOn (p1 := p2) hI hk0 (by omega) ?_
    intro x12_1748 p1749 q1750 q1751
    refine ⟨fun c => ?_, fun c => ?_⟩
    · exact hQ _
    · refine ⟨by omega, ?_⟩
      refine ⟨by omega, ?_⟩
      intro x16_1754 ex16_1754 rx16_1754
      have rbx16_1754 : -2147483648 ≤ x16_1754 ∧ x16_1754 ≤ 2147483647 := rx16_1754
      have nbx16_1754 : BN (b) p1 x16_1754 := by rw [ex16_1754]; exact (bm_n hk0).mp (hI.bx _ _)
      first | (have bx16_1754 : -1 ≤ x16_1754 ∧ x16_1754 ≤ 29 := nbx16_1754.1 ⟨by omega, by omega⟩) | skip
      refine ⟨by omega, ?_⟩
      refine ⟨by omega, ?_⟩
      intro x19_1755 ex19_1755 rx19_1755
      have rbx19_1755 : -2147483648 ≤ x19_1755 ∧ x19_1755 ≤ 2147483647 := rx19_1755
      have nbx19_1755 : BN (b) p2 x19_1755 := by rw [ex19_1755]; exact (bm_n hk0).mp (hI.bx _ _)
      first | (have bx19_1755 : -1 ≤ x19_1755 ∧ x19_1755 ≤ 29 := nbx19_1755.1 ⟨by omega, by omega⟩) | skip
      refine ⟨fun c => ?_, fun c => ?_⟩
      · exact hQ _
      · exact hQ _
theorem sX12_passes_L71 {p1 : Int} {p2 : Int} {X97 : Int → Mem → Prop} {Q : Int → Mem → Prop} {b : Int} (hb : b + 62 ≤ 2000000000) (hQ : ∀ z : Int, ∀ M' : Mem, IM (b + 62) M' → Q z M') (hX97 : ∀ w1 : Int, ∀ M' : Mem, IM (b + 62) M' → (1 ≤ w1 ∧ w1 ≤ 61) → X97 w1 M') : ∀ (n : Nat) (v3 : Int) (M : Mem), IM (b + v3) M → (1 ≤ v3 ∧ v3 ≤ 61 ∧ 0 ≤ p1 ∧ p1 ≤ 5 ∧ 0 ≤ p2 ∧ p2 ≤ 5) → 61 - v3 < (n : Int) → qX12_passes_L71 p1 p2 X97 Q n v3 M := by
  intro n
  induction n with
  | zero => intro v3 M hI hv hm; exact absurd hm (by omega)
  | succ n ih =>
    intro v3 M hI hv hm
    rw [qX12_passes_L71]
    have hbn := hI.nn
    refine ⟨(by first | assumption | exact ⟨by omega, by omega⟩), ?_⟩
    refine ⟨fun c => ?_, fun c => ?_⟩
    · exact hQ _ _ (hI.mono (by omega))
    · refine sX12_stepGoes  hI (by omega) (Or.inr rfl) ?_
      refine sX12_isAhead (p1 := p1) (p2 := p2) hI (Or.inr rfl) (by omega) ?_
      intro x17_1760 q1761 q1762
      refine ⟨fun c => ?_, fun c => ?_⟩
      · exact ih _ _ (hI.mono (by omega)) (by omega) (by omega)
      · exact hX97 _ _ (hI.mono (by omega)) (by omega)
theorem sX12_passes {p1 : Int} {p2 : Int} {b : Int} {M : Mem} {Q : Int → Mem → Prop} (hI : IM b M) (hb : b + 62 ≤ 2000000000) (hQ : ∀ z : Int, ∀ M' : Mem, IM (b + 62) M' → Q z M') : qX12_passes p1 p2 M Q := by
  unfold qX12_passes
  have hbn := hI.nn
  intro M1_1765 h_M1_1765
  have hM1_1765 : IM (b) M1_1765 := by rw [h_M1_1765]; exact hI.up (by omega) (by simp [BM])
  refine sX12_isHearse (p1 := p1) hM1_1765  ?_
  intro x2_1766 p1767 q1768 q1769
  refine ⟨fun c => ?_, fun c => ?_⟩
  · exact hQ _ _ (hM1_1765.mono (by omega))
  · refine sX12_isHearse (p1 := p2) hM1_1765  ?_
    intro x4_1772 p1773 q1774 q1775
    refine ⟨fun c => ?_, fun c => ?_⟩
    · exact hQ _ _ (hM1_1765.mono (by omega))
    · refine ⟨fun c => ?_, fun c => ?_⟩
      · refine sX12_isOn (p1 := p1) hM1_1765 (Or.inl rfl) (by omega) ?_
        intro x7_1779 p1780 q1781 q1782
        refine ⟨fun c => ?_, fun c => ?_⟩
        · exact hQ _ _ (hM1_1765.mono (by omega))
        · refine sX12_isOn (p1 := p2) hM1_1765 (Or.inl rfl) (by omega) ?_
          intro x9_1785 p1786 q1787 q1788
          refine ⟨fun c => ?_, fun c => ?_⟩
          · exact hQ _ _ (hM1_1765.mono (by omega))
          · refine sX12_isAhead (p1 := p1) (p2 := p2) hM1_1765 (Or.inl rfl) (by omega) ?_
            intro x11_1791 q1792 q1793
            refine ⟨fun c => ?_, fun c => ?_⟩
            · refine sX12_copies  hM1_1765  ?_
              intro M13_1795 hM13_1795
              refine ⟨62, ?_⟩
              refine sX12_passes_L71 (b := b) (p1 := p1) (p2 := p2) hb ?_ ?_ _ _ _ (hM13_1795.mono (by omega)) (by omega) (by omega)
              · exact hQ
              · intro v3_1796 M_1797 hM_1797 p1798
                intro M20_1799 h_M20_1799
                have hM20_1799 : IM (b + 62) M20_1799 := by rw [h_M20_1799]; exact hM_1797.up (by omega) (bm_c1_1.mpr ⟨by omega, by omega⟩)
                refine ⟨by omega, ?_⟩
                refine ⟨by omega, ?_⟩
                intro x23_1800 ex23_1800 rx23_1800
                have rbx23_1800 : -2147483648 ≤ x23_1800 ∧ x23_1800 ≤ 2147483647 := rx23_1800
                have nbx23_1800 : BN (b + 62) p1 x23_1800 := by rw [ex23_1800]; exact (bm_n (Or.inr rfl)).mp (hM20_1799.bx _ _)
                first | (have bx23_1800 : -1 ≤ x23_1800 ∧ x23_1800 ≤ 29 := nbx23_1800.1 ⟨by omega, by omega⟩) | skip
                have fx23_1800 : x23_1800 = M_1797 6 p1 := by rw [ex23_1800, h_M20_1799, up2_n (by decide)]
                have u1801 : 0 ≤ M20_1799 1 1 ∧ M20_1799 1 1 ≤ 24 := bm_c1_1.mp (hM20_1799.bx _ _)
                have t1802 : M20_1799 1 1 = 0 := by rw [h_M20_1799, up2_s]
                refine sX12_enters (p1 := x23_1800) hM20_1799 (by omega) ?_
                intro M24_1803 hM24_1803 p1804
                refine ⟨(by first | assumption | exact ⟨by omega, by omega⟩), ?_⟩
                exact hQ _ _ (hM24_1803.mono (by omega))
            · exact hQ _ _ (hM1_1765.mono (by omega))
      · exact hQ _ _ (hM1_1765.mono (by omega))
theorem sX12_ends_L30 {p1 : Int} {X48 : Int → Mem → Prop} {Q : Int → Mem → Prop} {b : Int} (hb : b + 402 ≤ 2000000000) (hQ : ∀ z : Int, ∀ M' : Mem, IM (b + 402) M' → Q z M') (hX48 : ∀ w1 : Int, ∀ M' : Mem, IM (b + 402) M' → (0 ≤ w1 ∧ w1 ≤ 200) → X48 w1 M') : ∀ (n : Nat) (v2 : Int) (M : Mem), IM (b + 200 + v2) M → (0 ≤ v2 ∧ v2 ≤ 201 ∧ 0 ≤ p1 ∧ p1 ≤ 7) → 201 - v2 < (n : Int) → qX12_ends_L30 p1 X48 Q n v2 M := by
  intro n
  induction n with
  | zero => intro v2 M hI hv hm; exact absurd hm (by omega)
  | succ n ih =>
    intro v2 M hI hv hm
    rw [qX12_ends_L30]
    have hbn := hI.nn
    refine ⟨(by first | assumption | exact ⟨by omega, by omega⟩), ?_⟩
    refine ⟨fun c => ?_, fun c => ?_⟩
    · exact hQ _ _ (hI.mono (by omega))
    · refine sX12_isEnded (p1 := p1) hI (Or.inr rfl) (by omega) ?_
      intro x8_1809 q1810 q1811
      refine ⟨fun c => ?_, fun c => ?_⟩
      · refine sX12_stepGoes  hI (by omega) (Or.inr rfl) ?_
        exact ih _ _ (hI.mono (by omega)) (by omega) (by omega)
      · exact hX48 _ _ (hI.mono (by omega)) (by omega)
theorem sX12_ends {p1 : Int} {b : Int} {M : Mem} {Q : Int → Mem → Prop} (hI : IM b M) (hb : b + 402 ≤ 2000000000) (hQ : ∀ z : Int, ∀ M' : Mem, IM (b + 402) M' → Q z M') : qX12_ends p1 M Q := by
  unfold qX12_ends
  have hbn := hI.nn
  intro M1_1814 h_M1_1814
  have hM1_1814 : IM (b) M1_1814 := by rw [h_M1_1814]; exact hI.up (by omega) (by simp [BM])
  refine sX12_isMourner (p1 := p1) hM1_1814  ?_
  intro x2_1815 p1816 q1817 q1818
  refine ⟨fun c => ?_, fun c => ?_⟩
  · refine sX12_copies  hM1_1814  ?_
    intro M4_1820 hM4_1820
    refine sX12_goesOn (p2 := 0) hM4_1820 (by omega) (Or.inr rfl) (by omega) ?_
    intro M5_1821 hM5_1821
    refine ⟨202, ?_⟩
    refine sX12_ends_L30 (b := b) (p1 := p1) hb ?_ ?_ _ _ _ (hM5_1821.mono (by omega)) (by omega) (by omega)
    · exact hQ
    · intro v2_1822 M_1823 hM_1823 p1824
      intro M12_1825 h_M12_1825
      have hM12_1825 : IM (b + 402) M12_1825 := by rw [h_M12_1825]; exact hM_1823.up (by omega) (bm_c1_1.mpr ⟨by omega, by omega⟩)
      refine ⟨(by first | assumption | exact ⟨by omega, by omega⟩), ?_⟩
      have u1826 : 0 ≤ M12_1825 1 1 ∧ M12_1825 1 1 ≤ 24 := bm_c1_1.mp (hM12_1825.bx _ _)
      have t1827 : M12_1825 1 1 = 0 := by rw [h_M12_1825, up2_s]
      refine sX12_enters (p1 := v2_1822) hM12_1825 (by omega) ?_
      intro M14_1828 hM14_1828 p1829
      refine ⟨by omega, ?_⟩
      refine ⟨by omega, ?_⟩
      intro x17_1830 ex17_1830 rx17_1830
      have bx17_1830 : -2147483648 ≤ x17_1830 ∧ x17_1830 ≤ 2147483647 := rx17_1830
      have u1831 : 0 ≤ M14_1828 1 1 ∧ M14_1828 1 1 ≤ 24 := bm_c1_1.mp (hM14_1828.bx _ _)
      refine sX12_enters (p1 := x17_1830) hM14_1828 (by omega) ?_
      intro M18_1832 hM18_1832 p1833
      refine ⟨by omega, ?_⟩
      refine ⟨by omega, ?_⟩
      intro x21_1834 ex21_1834 rx21_1834
      have bx21_1834 : -2147483648 ≤ x21_1834 ∧ x21_1834 ≤ 2147483647 := rx21_1834
      exact hQ _ _ (hM18_1832.mono (by omega))
  · exact hQ _ _ (hM1_1814.mono (by omega))
theorem sX12_endedBy_L5 {k1 : Nat} {p2 : Int}  {Q : Int → Mem → Prop} {b : Int} {M0 : Mem} (hk1 : isN k1) (hQ : ∀ z : Int, Q z M0) : ∀ (n : Nat) (v3 v4 : Int), IM (b) M0 → (0 ≤ v4 ∧ v4 ≤ 8) → iR v3 → 8 - v4 < (n : Int) → qX12_endedBy_L5 k1 p2 Q n v3 v4 M0 := by
  intro n
  induction n with
  | zero => intro v3 v4 hI hv hrv3 hm; exact absurd hm (by omega)
  | succ n ih =>
    intro v3 v4 hI hv hrv3 hm
    rw [qX12_endedBy_L5]
    have hbn := hI.nn
    have ek1 : k1 = 5 ∨ k1 = 6 := hk1
    intro x1_1836 ex1_1836 rx1_1836
    have bx1_1836 : 0 ≤ x1_1836 ∧ x1_1836 ≤ 8 := by rw [ex1_1836]; exact bm_c1_5.mp (hI.bx _ _)
    refine ⟨(by first | assumption | exact ⟨by omega, by omega⟩), ?_⟩
    refine ⟨fun c => ?_, fun c => ?_⟩
    · refine ⟨(by first | assumption | exact ⟨by omega, by omega⟩), ?_⟩
      exact hQ _
    · refine sX12_isEnded (p1 := v4) hI hk1 (by omega) ?_
      intro x5_1839 q1840 q1841
      refine ⟨fun c => ?_, fun c => ?_⟩
      · intro x7_1843 ex7_1843 rx7_1843
        first | (have fx7_1843 := oI_64 (a := v3) (b := 0) ⟨by omega, by omega⟩ ⟨by omega, by omega⟩; rw [← ex7_1843] at fx7_1843) | skip
        exact ih _ _ (hI.mono (by omega)) (by omega) (by first | assumption | exact ⟨by omega, by omega⟩) (by omega)
      · refine ⟨by omega, ?_⟩
        refine ⟨by omega, ?_⟩
        intro x10_1845 ex10_1845 rx10_1845
        have bx10_1845 : -2147483648 ≤ x10_1845 ∧ x10_1845 ≤ 2147483647 := rx10_1845
        refine ⟨by omega, ?_⟩
        refine ⟨by omega, ?_⟩
        intro x13_1846 ex13_1846 rx13_1846
        have bx13_1846 : 0 ≤ x13_1846 ∧ x13_1846 ≤ 5 := by rw [ex13_1846]; exact bm_c3.mp (hI.bx _ _)
        refine ⟨fun c => ?_, fun c => ?_⟩
        · unfold qX12_endedBy_J46
          refine ⟨(by first | assumption | exact ⟨by omega, by omega⟩), ?_⟩
          refine ⟨fun c => ?_, fun c => ?_⟩
          · intro x17_1849 ex17_1849 rx17_1849
            first | (have fx17_1849 := oI_64 (a := v3) (b := 0) ⟨by omega, by omega⟩ ⟨by omega, by omega⟩; rw [← ex17_1849] at fx17_1849) | skip
            exact ih _ _ (hI.mono (by omega)) (by omega) (by first | assumption | exact ⟨by omega, by omega⟩) (by omega)
          · intro x18_1851 ex18_1851 rx18_1851
            first | (have fx18_1851 := slI_1 (b := v4) ⟨by omega, by omega⟩; rw [← ex18_1851] at fx18_1851) | skip
            intro x19_1852 ex19_1852 rx19_1852
            first | (have fx19_1852 := oI_64 (a := v3) (b := x18_1851) ⟨by omega, by omega⟩ ⟨by omega, by omega⟩; rw [← ex19_1852] at fx19_1852) | skip
            exact ih _ _ (hI.mono (by omega)) (by omega) (by first | assumption | exact ⟨by omega, by omega⟩) (by omega)
        · unfold qX12_endedBy_J46
          refine ⟨(by first | assumption | exact ⟨by omega, by omega⟩), ?_⟩
          refine ⟨fun c => ?_, fun c => ?_⟩
          · intro x17_1855 ex17_1855 rx17_1855
            first | (have fx17_1855 := oI_64 (a := v3) (b := 0) ⟨by omega, by omega⟩ ⟨by omega, by omega⟩; rw [← ex17_1855] at fx17_1855) | skip
            exact ih _ _ (hI.mono (by omega)) (by omega) (by first | assumption | exact ⟨by omega, by omega⟩) (by omega)
          · intro x18_1857 ex18_1857 rx18_1857
            first | (have fx18_1857 := slI_1 (b := v4) ⟨by omega, by omega⟩; rw [← ex18_1857] at fx18_1857) | skip
            intro x19_1858 ex19_1858 rx19_1858
            first | (have fx19_1858 := oI_64 (a := v3) (b := x18_1857) ⟨by omega, by omega⟩ ⟨by omega, by omega⟩; rw [← ex19_1858] at fx19_1858) | skip
            exact ih _ _ (hI.mono (by omega)) (by omega) (by first | assumption | exact ⟨by omega, by omega⟩) (by omega)
theorem sX12_endedBy {k1 : Nat} {p2 : Int} {b : Int} {M : Mem} {Q : Int → Mem → Prop} (hI : IM b M) (hk1 : isN k1) (hQ : ∀ z : Int, Q z M) : qX12_endedBy k1 p2 M Q := by
  unfold qX12_endedBy
  have hbn := hI.nn
  have ek1 : k1 = 5 ∨ k1 = 6 := hk1
  refine ⟨9, ?_⟩
  refine sX12_endedBy_L5 (b := b) (p2 := p2) (M0 := M) hk1 ?_ _ _ _ (hI.mono (by omega)) (by omega) (by first | assumption | exact ⟨by omega, by omega⟩) (by omega)
  · exact hQ
theorem sX12_rightThen_L4  {X50 : Mem → Prop} {Q : Int → Mem → Prop} {b : Int} {M0 : Mem} (hb : b + 200 ≤ 2000000000) (hQ : ∀ z : Int, Q z M0) (hX50 : X50 M0) : ∀ (n : Nat) (v1 v2 : Int), IM (b + v2) M0 → (0 ≤ v1 ∧ v1 ≤ 1 ∧ 0 ≤ v2 ∧ v2 ≤ 200) → 200 - v2 < (n : Int) → qX12_rightThen_L4 X50 Q n v1 v2 M0 := by
  intro n
  induction n with
  | zero => intro v1 v2 hI hv hm; exact absurd hm (by omega)
  | succ n ih =>
    intro v1 v2 hI hv hm
    rw [qX12_rightThen_L4]
    have hbn := hI.nn
    refine ⟨(by first | assumption | exact ⟨by omega, by omega⟩), ?_⟩
    refine ⟨fun c => ?_, fun c => ?_⟩
    · exact hX50 
    · refine ⟨(by first | assumption | exact ⟨by omega, by omega⟩), ?_⟩
      refine ⟨fun c => ?_, fun c => ?_⟩
      · exact hX50 
      · refine sX12_laysLine  hI (Or.inr rfl) ?_
        intro x6_1863 ex6_1863 rx6_1863
        have bx6_1863 : 0 ≤ x6_1863 ∧ x6_1863 ≤ 6 := by rw [ex6_1863]; exact bm_c1_35.mp (hI.bx _ _)
        refine ⟨fun c => ?_, fun c => ?_⟩
        · unfold qX12_rightThen_J35
          refine sX12_stepGoes  hI (by omega) (Or.inr rfl) ?_
          exact ih _ _ (hI.mono (by omega)) (by omega) (by omega)
        · unfold qX12_rightThen_J35
          refine sX12_stepGoes  hI (by omega) (Or.inr rfl) ?_
          exact ih _ _ (hI.mono (by omega)) (by omega) (by omega)
theorem sX12_rightThen  {b : Int} {M : Mem} {Q : Int → Mem → Prop} (hI : IM b M) (hb : b + 200 ≤ 2000000000) (hQ : ∀ z : Int, Q z M) : qX12_rightThen M Q := by
  unfold qX12_rightThen
  have hbn := hI.nn
  refine ⟨201, ?_⟩
  refine sX12_rightThen_L4 (b := b)  (M0 := M) hb ?_ ?_ _ _ _ (hI.mono (by omega)) (by omega) (by omega)
  · exact hQ
  · unfold qX12_rightThen_J50
    refine sX12_endedBy (p2 := 1) hI (Or.inr rfl) ?_
    intro x10_1866 q1867
    exact hQ _
theorem sX12_right  {b : Int} {M : Mem} {Q : Int → Mem → Prop} (hI : IM b M) (hb : b + 200 ≤ 2000000000) (hQ : ∀ z : Int, ∀ M' : Mem, IM (b + 200) M' → Q z M') : qX12_right M Q := by
  unfold qX12_right
  have hbn := hI.nn
  intro M1_1868 h_M1_1868
  have hM1_1868 : IM (b) M1_1868 := by rw [h_M1_1868]; exact hI.up (by omega) (by simp [BM])
  refine sX12_copies  hM1_1868  ?_
  intro M2_1869 hM2_1869
  refine sX12_rightThen  hM2_1869 (by omega) ?_
  intro x3_1870 q1871
  intro M4_1872 h_M4_1872
  have hM4_1872 : IM (b) M4_1872 := by rw [h_M4_1872]; exact hM2_1869.up (by omega) (bm_c1_1.mpr ⟨by omega, by omega⟩)
  have u1873 : 0 ≤ M4_1872 1 1 ∧ M4_1872 1 1 ≤ 24 := bm_c1_1.mp (hM4_1872.bx _ _)
  have t1874 : M4_1872 1 1 = 0 := by rw [h_M4_1872, up2_s]
  refine sX12_enters (p1 := x3_1870) hM4_1872 (by omega) ?_
  intro M5_1875 hM5_1875 p1876
  refine sX12_endedBy (p2 := 0) hM5_1875 (Or.inr rfl) ?_
  intro x6_1877 q1878
  have u1879 : 0 ≤ M5_1875 1 1 ∧ M5_1875 1 1 ≤ 24 := bm_c1_1.mp (hM5_1875.bx _ _)
  refine sX12_enters (p1 := x6_1877) hM5_1875 (by omega) ?_
  intro M7_1880 hM7_1880 p1881
  refine sJ6_bitCountM (p0 := x3_1870) hM7_1880  ?_
  intro x8_1882 p1883 q1884
  exact hQ _ _ (hM7_1880.mono (by omega))
theorem sX12_has {p0 : Int} {p1 : Int} {b : Int} {M : Mem} {Q : Int → Mem → Prop} (hI : IM b M) (hQ : ∀ z : Int, Q z M) : qX12_has p0 p1 M Q := by
  unfold qX12_has
  have hbn := hI.nn
  intro x1_1885 ex1_1885 rx1_1885
  intro x2_1886 ex2_1886 rx2_1886
  have fx2_1886 := aI_1 x1_1885; rw [← ex2_1886] at fx2_1886
  refine ⟨fun c => ?_, fun c => ?_⟩
  · exact hQ _
  · exact hQ _
theorem sX12_order  {b : Int} {M : Mem} {Q : Int → Mem → Prop} (hI : IM b M) (hb : b + 200000 ≤ 2000000000) (hQ : ∀ z : Int, Q z M) : qX12_order M Q := sorry
theorem sX12_stands_L42 {p1 : Int} {X95 : Int → Int → Mem → Prop} {Q : Int → Mem → Prop} {b : Int} (hb : b + 6000 ≤ 2000000000) (hQ : ∀ z : Int, ∀ M' : Mem, IM (b + 6000) M' → Q z M') (hX95 : ∀ w1 w2 : Int, ∀ M' : Mem, IM (b + 6000) M' → (-2 ≤ w1 ∧ w1 ≤ 29 ∧ 0 ≤ w2 ∧ w2 ≤ 29) → X95 w1 w2 M') : ∀ (n : Nat) (v2 v3 v4 : Int) (M : Mem), IM (b + 200 * (28 - v4)) M → (-2 ≤ v2 ∧ v2 ≤ 29 ∧ 0 ≤ v3 ∧ v3 + v4 ≤ 28 ∧ -1 ≤ v4 ∧ v4 ≤ 28 ∧ 0 ≤ p1 ∧ p1 ≤ 7) → v4 + 1 < (n : Int) → qX12_stands_L42 p1 X95 Q n v2 v3 v4 M := by
  intro n
  induction n with
  | zero => intro v2 v3 v4 M hI hv hm; exact absurd hm (by omega)
  | succ n ih =>
    intro v2 v3 v4 M hI hv hm
    rw [qX12_stands_L42]
    have hbn := hI.nn
    refine ⟨(by first | assumption | exact ⟨by omega, by omega⟩), ?_⟩
    refine ⟨fun c => ?_, fun c => ?_⟩
    · exact hX95 _ _ _ (hI.mono (by omega)) (by omega)
    · refine sX12_copies  hI  ?_
      intro M9_1891 hM9_1891
      refine ⟨by omega, ?_⟩
      refine ⟨by omega, ?_⟩
      intro M12_1892 h_M12_1892
      have hM12_1892 : IM (b + 200 * (28 - v4)) M12_1892 := by rw [h_M12_1892]; exact hM9_1891.up (by omega) ((bm_n (Or.inr rfl)).mpr (by first | assumption | exact ⟨by omega, by omega, by omega, by omega⟩))
      refine ⟨by omega, ?_⟩
      refine ⟨by omega, ?_⟩
      intro M15_1893 h_M15_1893
      have hM15_1893 : IM (b + 200 * (28 - v4)) M15_1893 := by rw [h_M15_1893]; exact hM12_1892.up (by omega) ((bm_n (Or.inr rfl)).mpr (by first | assumption | exact ⟨by omega, by omega, by omega, by omega⟩))
      refine sX12_rightThen  hM15_1893 (by omega) ?_
      intro x16_1894 q1895
      refine sX12_has (p0 := x16_1894) (p1 := p1) hM15_1893  ?_
      intro x17_1896 q1897 q1898
      refine ⟨fun c => ?_, fun c => ?_⟩
      · exact ih _ _ _ _ (hM15_1893.mono (by omega)) (by omega) (by omega)
      · exact ih _ _ _ _ (hM15_1893.mono (by omega)) (by omega) (by omega)
theorem sX12_stands {p1 : Int} {b : Int} {M : Mem} {Q : Int → Mem → Prop} (hI : IM b M) (hb : b + 6000 ≤ 2000000000) (hQ : ∀ z : Int, ∀ M' : Mem, IM (b + 6000) M' → Q z M') : qX12_stands p1 M Q := by
  unfold qX12_stands
  have hbn := hI.nn
  intro M1_1901 h_M1_1901
  have hM1_1901 : IM (b) M1_1901 := by rw [h_M1_1901]; exact hI.up (by omega) (by simp [BM])
  refine sX12_isMourner (p1 := p1) hM1_1901  ?_
  intro x2_1902 p1903 q1904 q1905
  refine ⟨fun c => ?_, fun c => ?_⟩
  · refine sX12_isEnded (p1 := p1) hM1_1901 (Or.inl rfl) (by omega) ?_
    intro x4_1907 q1908 q1909
    refine ⟨fun c => ?_, fun c => ?_⟩
    · refine sX12_gate  hM1_1901  ?_
      intro x6_1911 p1912 q1913
      refine ⟨30, ?_⟩
      refine sX12_stands_L42 (b := b) (p1 := p1) hb ?_ ?_ _ _ _ _ _ (hM1_1901.mono (by omega)) (by omega) (by omega)
      · exact hQ
      · intro v2_1914 v3_1915 M_1916 hM_1916 p1917
        refine ⟨(by first | assumption | exact ⟨by omega, by omega⟩), ?_⟩
        refine ⟨fun c => ?_, fun c => ?_⟩
        · exact hQ _ _ (hM_1916.mono (by omega))
        · intro M22_1920 h_M22_1920
          have hM22_1920 : IM (b + 6000) M22_1920 := by rw [h_M22_1920]; exact hM_1916.up (by omega) (bm_c1_1.mpr ⟨by omega, by omega⟩)
          refine ⟨(by first | assumption | exact ⟨by omega, by omega⟩), ?_⟩
          have u1921 : 0 ≤ M22_1920 1 1 ∧ M22_1920 1 1 ≤ 24 := bm_c1_1.mp (hM22_1920.bx _ _)
          have t1922 : M22_1920 1 1 = 0 := by rw [h_M22_1920, up2_s]
          refine sX12_enters (p1 := v3_1915) hM22_1920 (by omega) ?_
          intro M24_1923 hM24_1923 p1924
          exact hQ _ _ (hM24_1923.mono (by omega))
    · exact hQ _ _ (hM1_1901.mono (by omega))
  · exact hQ _ _ (hM1_1901.mono (by omega))
theorem sX12_when_L24 {p1 : Int} {X142 : Int → Int → Mem → Prop} {Q : Int → Mem → Prop} {b : Int} (hb : b + 24400 ≤ 2000000000) (hQ : ∀ z : Int, ∀ M' : Mem, IM (b + 24400) M' → Q z M') (hX142 : ∀ w1 w2 : Int, ∀ M' : Mem, IM (b + 24400) M' → (-2 ≤ w1 ∧ w1 ≤ 60 ∧ 0 ≤ w2 ∧ w2 ≤ 60) → X142 w1 w2 M') : ∀ (n : Nat) (v2 v3 v4 : Int) (M : Mem), IM (b + 400 * (60 - v4)) M → (-2 ≤ v2 ∧ v2 ≤ 60 ∧ 0 ≤ v3 ∧ v3 ≤ 60 ∧ -1 ≤ v4 ∧ v4 ≤ 60 ∧ 0 ≤ p1 ∧ p1 ≤ 7) → v4 + 1 < (n : Int) → qX12_when_L24 p1 X142 Q n v2 v3 v4 M := by
  intro n
  induction n with
  | zero => intro v2 v3 v4 M hI hv hm; exact absurd hm (by omega)
  | succ n ih =>
    intro v2 v3 v4 M hI hv hm
    rw [qX12_when_L24]
    have hbn := hI.nn
    refine ⟨(by first | assumption | exact ⟨by omega, by omega⟩), ?_⟩
    refine ⟨fun c => ?_, fun c => ?_⟩
    · exact hX142 _ _ _ (hI.mono (by omega)) (by omega)
    · refine sX12_copies  hI  ?_
      intro M6_1929 hM6_1929
      refine sX12_goesOn (p2 := v4) hM6_1929 (by omega) (Or.inr rfl) (by omega) ?_
      intro M7_1930 hM7_1930
      refine sX12_isEnded (p1 := p1) hM7_1930 (Or.inr rfl) (by omega) ?_
      intro x8_1931 q1932 q1933
      refine ⟨fun c => ?_, fun c => ?_⟩
      · unfold qX12_when_J76
        unfold qX12_when_J77
        refine ⟨(by first | assumption | exact ⟨by omega, by omega⟩), ?_⟩
        refine ⟨fun c => ?_, fun c => ?_⟩
        · refine sX12_turnsOne (p2 := p1) hM7_1930 (Or.inr rfl) ?_
          intro x12_1936 M12_1937 hM12_1937 q1938
          unfold qX12_when_J97
          refine ⟨(by first | assumption | exact ⟨by omega, by omega⟩), ?_⟩
          refine ⟨fun c => ?_, fun c => ?_⟩
          · unfold qX12_when_J111
            refine sX12_rightThen  hM12_1937 (by omega) ?_
            intro x15_1940 q1941
            refine sX12_has (p0 := x15_1940) (p1 := p1) hM12_1937  ?_
            intro x16_1942 q1943 q1944
            refine ⟨fun c => ?_, fun c => ?_⟩
            · exact ih _ _ _ _ (hM12_1937.mono (by omega)) (by omega) (by omega)
            · refine ⟨(by first | assumption | exact ⟨by omega, by omega⟩), ?_⟩
              refine ⟨fun c => ?_, fun c => ?_⟩
              · exact ih _ _ _ _ (hM12_1937.mono (by omega)) (by omega) (by omega)
              · exact ih _ _ _ _ (hM12_1937.mono (by omega)) (by omega) (by omega)
          · refine ⟨fun c => ?_, fun c => ?_⟩
            · exact ih _ _ _ _ (hM12_1937.mono (by omega)) (by omega) (by omega)
            · unfold qX12_when_J111
              refine sX12_rightThen  hM12_1937 (by omega) ?_
              intro x15_1952 q1953
              refine sX12_has (p0 := x15_1952) (p1 := p1) hM12_1937  ?_
              intro x16_1954 q1955 q1956
              refine ⟨fun c => ?_, fun c => ?_⟩
              · exact ih _ _ _ _ (hM12_1937.mono (by omega)) (by omega) (by omega)
              · refine ⟨(by first | assumption | exact ⟨by omega, by omega⟩), ?_⟩
                refine ⟨fun c => ?_, fun c => ?_⟩
                · exact ih _ _ _ _ (hM12_1937.mono (by omega)) (by omega) (by omega)
                · exact ih _ _ _ _ (hM12_1937.mono (by omega)) (by omega) (by omega)
        · unfold qX12_when_J97
          refine ⟨(by first | assumption | exact ⟨by omega, by omega⟩), ?_⟩
          refine ⟨fun c => ?_, fun c => ?_⟩
          · unfold qX12_when_J111
            refine sX12_rightThen  hM7_1930 (by omega) ?_
            intro x15_1963 q1964
            refine sX12_has (p0 := x15_1963) (p1 := p1) hM7_1930  ?_
            intro x16_1965 q1966 q1967
            refine ⟨fun c => ?_, fun c => ?_⟩
            · exact ih _ _ _ _ (hM7_1930.mono (by omega)) (by omega) (by omega)
            · refine ⟨(by first | assumption | exact ⟨by omega, by omega⟩), ?_⟩
              refine ⟨fun c => ?_, fun c => ?_⟩
              · exact ih _ _ _ _ (hM7_1930.mono (by omega)) (by omega) (by omega)
              · exact ih _ _ _ _ (hM7_1930.mono (by omega)) (by omega) (by omega)
          · refine ⟨fun c => ?_, fun c => ?_⟩
            · exact ih _ _ _ _ (hM7_1930.mono (by omega)) (by omega) (by omega)
            · unfold qX12_when_J111
              refine sX12_rightThen  hM7_1930 (by omega) ?_
              intro x15_1975 q1976
              refine sX12_has (p0 := x15_1975) (p1 := p1) hM7_1930  ?_
              intro x16_1977 q1978 q1979
              refine ⟨fun c => ?_, fun c => ?_⟩
              · exact ih _ _ _ _ (hM7_1930.mono (by omega)) (by omega) (by omega)
              · refine ⟨(by first | assumption | exact ⟨by omega, by omega⟩), ?_⟩
                refine ⟨fun c => ?_, fun c => ?_⟩
                · exact ih _ _ _ _ (hM7_1930.mono (by omega)) (by omega) (by omega)
                · exact ih _ _ _ _ (hM7_1930.mono (by omega)) (by omega) (by omega)
      · refine ⟨by omega, ?_⟩
        refine ⟨by omega, ?_⟩
        intro x23_1985 ex23_1985 rx23_1985
        have rbx23_1985 : -2147483648 ≤ x23_1985 ∧ x23_1985 ≤ 2147483647 := rx23_1985
        first | (have bx23_1985 : -1 ≤ x23_1985 ∧ x23_1985 ≤ 5 := by rw [ex23_1985]; exact ((bm_n (Or.inr rfl)).mp (hM7_1930.bx _ _)).2.2.1 ⟨by omega, by omega⟩) | skip
        refine ⟨by omega, ?_⟩
        refine ⟨by omega, ?_⟩
        intro x26_1986 ex26_1986 rx26_1986
        have bx26_1986 : 0 ≤ x26_1986 ∧ x26_1986 ≤ 5 := by rw [ex26_1986]; exact bm_c3.mp (hM7_1930.bx _ _)
        refine ⟨fun c => ?_, fun c => ?_⟩
        · unfold qX12_when_J76
          unfold qX12_when_J77
          refine ⟨(by first | assumption | exact ⟨by omega, by omega⟩), ?_⟩
          refine ⟨fun c => ?_, fun c => ?_⟩
          · refine sX12_turnsOne (p2 := p1) hM7_1930 (Or.inr rfl) ?_
            intro x12_1989 M12_1990 hM12_1990 q1991
            unfold qX12_when_J97
            refine ⟨(by first | assumption | exact ⟨by omega, by omega⟩), ?_⟩
            refine ⟨fun c => ?_, fun c => ?_⟩
            · unfold qX12_when_J111
              refine sX12_rightThen  hM12_1990 (by omega) ?_
              intro x15_1993 q1994
              refine sX12_has (p0 := x15_1993) (p1 := p1) hM12_1990  ?_
              intro x16_1995 q1996 q1997
              refine ⟨fun c => ?_, fun c => ?_⟩
              · exact ih _ _ _ _ (hM12_1990.mono (by omega)) (by omega) (by omega)
              · refine ⟨(by first | assumption | exact ⟨by omega, by omega⟩), ?_⟩
                refine ⟨fun c => ?_, fun c => ?_⟩
                · exact ih _ _ _ _ (hM12_1990.mono (by omega)) (by omega) (by omega)
                · exact ih _ _ _ _ (hM12_1990.mono (by omega)) (by omega) (by omega)
            · refine ⟨fun c => ?_, fun c => ?_⟩
              · exact ih _ _ _ _ (hM12_1990.mono (by omega)) (by omega) (by omega)
              · unfold qX12_when_J111
                refine sX12_rightThen  hM12_1990 (by omega) ?_
                intro x15_2005 q2006
                refine sX12_has (p0 := x15_2005) (p1 := p1) hM12_1990  ?_
                intro x16_2007 q2008 q2009
                refine ⟨fun c => ?_, fun c => ?_⟩
                · exact ih _ _ _ _ (hM12_1990.mono (by omega)) (by omega) (by omega)
                · refine ⟨(by first | assumption | exact ⟨by omega, by omega⟩), ?_⟩
                  refine ⟨fun c => ?_, fun c => ?_⟩
                  · exact ih _ _ _ _ (hM12_1990.mono (by omega)) (by omega) (by omega)
                  · exact ih _ _ _ _ (hM12_1990.mono (by omega)) (by omega) (by omega)
          · unfold qX12_when_J97
            refine ⟨(by first | assumption | exact ⟨by omega, by omega⟩), ?_⟩
            refine ⟨fun c => ?_, fun c => ?_⟩
            · unfold qX12_when_J111
              refine sX12_rightThen  hM7_1930 (by omega) ?_
              intro x15_2016 q2017
              refine sX12_has (p0 := x15_2016) (p1 := p1) hM7_1930  ?_
              intro x16_2018 q2019 q2020
              refine ⟨fun c => ?_, fun c => ?_⟩
              · exact ih _ _ _ _ (hM7_1930.mono (by omega)) (by omega) (by omega)
              · refine ⟨(by first | assumption | exact ⟨by omega, by omega⟩), ?_⟩
                refine ⟨fun c => ?_, fun c => ?_⟩
                · exact ih _ _ _ _ (hM7_1930.mono (by omega)) (by omega) (by omega)
                · exact ih _ _ _ _ (hM7_1930.mono (by omega)) (by omega) (by omega)
            · refine ⟨fun c => ?_, fun c => ?_⟩
              · exact ih _ _ _ _ (hM7_1930.mono (by omega)) (by omega) (by omega)
              · unfold qX12_when_J111
                refine sX12_rightThen  hM7_1930 (by omega) ?_
                intro x15_2028 q2029
                refine sX12_has (p0 := x15_2028) (p1 := p1) hM7_1930  ?_
                intro x16_2030 q2031 q2032
                refine ⟨fun c => ?_, fun c => ?_⟩
                · exact ih _ _ _ _ (hM7_1930.mono (by omega)) (by omega) (by omega)
                · refine ⟨(by first | assumption | exact ⟨by omega, by omega⟩), ?_⟩
                  refine ⟨fun c => ?_, fun c => ?_⟩
                  · exact ih _ _ _ _ (hM7_1930.mono (by omega)) (by omega) (by omega)
                  · exact ih _ _ _ _ (hM7_1930.mono (by omega)) (by omega) (by omega)
        · unfold qX12_when_J77
          refine ⟨(by first | assumption | exact ⟨by omega, by omega⟩), ?_⟩
          refine ⟨fun c => ?_, fun c => ?_⟩
          · refine sX12_turnsOne (p2 := p1) hM7_1930 (Or.inr rfl) ?_
            intro x12_2039 M12_2040 hM12_2040 q2041
            unfold qX12_when_J97
            refine ⟨(by first | assumption | exact ⟨by omega, by omega⟩), ?_⟩
            refine ⟨fun c => ?_, fun c => ?_⟩
            · unfold qX12_when_J111
              refine sX12_rightThen  hM12_2040 (by omega) ?_
              intro x15_2043 q2044
              refine sX12_has (p0 := x15_2043) (p1 := p1) hM12_2040  ?_
              intro x16_2045 q2046 q2047
              refine ⟨fun c => ?_, fun c => ?_⟩
              · exact ih _ _ _ _ (hM12_2040.mono (by omega)) (by omega) (by omega)
              · refine ⟨(by first | assumption | exact ⟨by omega, by omega⟩), ?_⟩
                refine ⟨fun c => ?_, fun c => ?_⟩
                · exact ih _ _ _ _ (hM12_2040.mono (by omega)) (by omega) (by omega)
                · exact ih _ _ _ _ (hM12_2040.mono (by omega)) (by omega) (by omega)
            · refine ⟨fun c => ?_, fun c => ?_⟩
              · exact ih _ _ _ _ (hM12_2040.mono (by omega)) (by omega) (by omega)
              · unfold qX12_when_J111
                refine sX12_rightThen  hM12_2040 (by omega) ?_
                intro x15_2055 q2056
                refine sX12_has (p0 := x15_2055) (p1 := p1) hM12_2040  ?_
                intro x16_2057 q2058 q2059
                refine ⟨fun c => ?_, fun c => ?_⟩
                · exact ih _ _ _ _ (hM12_2040.mono (by omega)) (by omega) (by omega)
                · refine ⟨(by first | assumption | exact ⟨by omega, by omega⟩), ?_⟩
                  refine ⟨fun c => ?_, fun c => ?_⟩
                  · exact ih _ _ _ _ (hM12_2040.mono (by omega)) (by omega) (by omega)
                  · exact ih _ _ _ _ (hM12_2040.mono (by omega)) (by omega) (by omega)
          · unfold qX12_when_J97
            refine ⟨(by first | assumption | exact ⟨by omega, by omega⟩), ?_⟩
            refine ⟨fun c => ?_, fun c => ?_⟩
            · unfold qX12_when_J111
              refine sX12_rightThen  hM7_1930 (by omega) ?_
              intro x15_2066 q2067
              refine sX12_has (p0 := x15_2066) (p1 := p1) hM7_1930  ?_
              intro x16_2068 q2069 q2070
              refine ⟨fun c => ?_, fun c => ?_⟩
              · exact ih _ _ _ _ (hM7_1930.mono (by omega)) (by omega) (by omega)
              · refine ⟨(by first | assumption | exact ⟨by omega, by omega⟩), ?_⟩
                refine ⟨fun c => ?_, fun c => ?_⟩
                · exact ih _ _ _ _ (hM7_1930.mono (by omega)) (by omega) (by omega)
                · exact ih _ _ _ _ (hM7_1930.mono (by omega)) (by omega) (by omega)
            · refine ⟨fun c => ?_, fun c => ?_⟩
              · exact ih _ _ _ _ (hM7_1930.mono (by omega)) (by omega) (by omega)
              · unfold qX12_when_J111
                refine sX12_rightThen  hM7_1930 (by omega) ?_
                intro x15_2078 q2079
                refine sX12_has (p0 := x15_2078) (p1 := p1) hM7_1930  ?_
                intro x16_2080 q2081 q2082
                refine ⟨fun c => ?_, fun c => ?_⟩
                · exact ih _ _ _ _ (hM7_1930.mono (by omega)) (by omega) (by omega)
                · refine ⟨(by first | assumption | exact ⟨by omega, by omega⟩), ?_⟩
                  refine ⟨fun c => ?_, fun c => ?_⟩
                  · exact ih _ _ _ _ (hM7_1930.mono (by omega)) (by omega) (by omega)
                  · exact ih _ _ _ _ (hM7_1930.mono (by omega)) (by omega) (by omega)
theorem sX12_when {p1 : Int} {b : Int} {M : Mem} {Q : Int → Mem → Prop} (hI : IM b M) (hb : b + 24400 ≤ 2000000000) (hQ : ∀ z : Int, ∀ M' : Mem, IM (b + 24400) M' → Q z M') : qX12_when p1 M Q := by
  unfold qX12_when
  have hbn := hI.nn
  intro M1_2087 h_M1_2087
  have hM1_2087 : IM (b) M1_2087 := by rw [h_M1_2087]; exact hI.up (by omega) (by simp [BM])
  refine sX12_isMourner (p1 := p1) hM1_2087  ?_
  intro x2_2088 p2089 q2090 q2091
  refine ⟨fun c => ?_, fun c => ?_⟩
  · refine ⟨62, ?_⟩
    refine sX12_when_L24 (b := b) (p1 := p1) hb ?_ ?_ _ _ _ _ _ (hM1_2087.mono (by omega)) (by omega) (by omega)
    · exact hQ
    · intro v2_2093 v3_2094 M_2095 hM_2095 p2096
      refine ⟨(by first | assumption | exact ⟨by omega, by omega⟩), ?_⟩
      refine ⟨fun c => ?_, fun c => ?_⟩
      · exact hQ _ _ (hM_2095.mono (by omega))
      · intro M31_2099 h_M31_2099
        have hM31_2099 : IM (b + 24400) M31_2099 := by rw [h_M31_2099]; exact hM_2095.up (by omega) (bm_c1_1.mpr ⟨by omega, by omega⟩)
        refine ⟨(by first | assumption | exact ⟨by omega, by omega⟩), ?_⟩
        have u2100 : 0 ≤ M31_2099 1 1 ∧ M31_2099 1 1 ≤ 24 := bm_c1_1.mp (hM31_2099.bx _ _)
        have t2101 : M31_2099 1 1 = 0 := by rw [h_M31_2099, up2_s]
        refine sX12_enters (p1 := v3_2094) hM31_2099 (by omega) ?_
        intro M33_2102 hM33_2102 p2103
        exact hQ _ _ (hM33_2102.mono (by omega))
  · exact hQ _ _ (hM1_2087.mono (by omega))
theorem sX12_mends_L58 {p1 : Int} {X122 : Int → Int → Int → Mem → Prop} {Q : Int → Mem → Prop} {b : Int} {g0 : Int} {g1 : Int} (hb : b + 51200 ≤ 2000000000) (hQ : ∀ z : Int, ∀ M' : Mem, IM (b + 51200) M' → Q z M') (hX122 : ∀ w1 w2 w3 : Int, ∀ M' : Mem, IM (b + 200 * g1) M' → (w1 = g0 ∧ w2 = g1 ∧ 0 ≤ w3 ∧ w3 ≤ 1) → X122 w1 w2 w3 M') : ∀ (n : Nat) (v2 v3 v4 v5 : Int) (M : Mem), IM (b + 200 * v3) M → (v2 = g0 ∧ v3 = g1 ∧ 0 ≤ v3 ∧ v3 ≤ 255 ∧ 0 ≤ v4 ∧ v4 ≤ 1 ∧ 0 ≤ v5 ∧ v5 ≤ 8) → 8 - v5 < (n : Int) → qX12_mends_L58 p1 X122 Q n v2 v3 v4 v5 M := by
  intro n
  induction n with
  | zero => intro v2 v3 v4 v5 M hI hv hm; exact absurd hm (by omega)
  | succ n ih =>
    intro v2 v3 v4 v5 M hI hv hm
    rw [qX12_mends_L58]
    have hbn := hI.nn
    intro x11_2105 ex11_2105 rx11_2105
    have bx11_2105 : 0 ≤ x11_2105 ∧ x11_2105 ≤ 8 := by rw [ex11_2105]; exact bm_c1_5.mp (hI.bx _ _)
    refine ⟨(by first | assumption | exact ⟨by omega, by omega⟩), ?_⟩
    refine ⟨fun c => ?_, fun c => ?_⟩
    · exact hX122 _ _ _ _ (hI.mono (by omega)) (by omega)
    · refine ⟨(by first | assumption | exact ⟨by omega, by omega⟩), ?_⟩
      refine sX12_has (p0 := v3) (p1 := v5) hI  ?_
      intro x15_2108 q2109 q2110
      refine ⟨fun c => ?_, fun c => ?_⟩
      · unfold qX12_mends_J90
        refine ⟨(by first | assumption | exact ⟨by omega, by omega⟩), ?_⟩
        refine ⟨fun c => ?_, fun c => ?_⟩
        · exact ih _ _ _ _ _ (hI.mono (by omega)) (by omega) (by omega)
        · refine ⟨(by first | assumption | exact ⟨by omega, by omega⟩), ?_⟩
          refine ⟨fun c => ?_, fun c => ?_⟩
          · exact ih _ _ _ _ _ (hI.mono (by omega)) (by omega) (by omega)
          · refine ⟨fun c => ?_, fun c => ?_⟩
            · exact ih _ _ _ _ _ (hI.mono (by omega)) (by omega) (by omega)
            · exact ih _ _ _ _ _ (hI.mono (by omega)) (by omega) (by omega)
      · refine sX12_turnsOne (p2 := v5) hI (Or.inr rfl) ?_
        intro x22_2119 M22_2120 hM22_2120 q2121
        unfold qX12_mends_J90
        refine ⟨(by first | assumption | exact ⟨by omega, by omega⟩), ?_⟩
        refine ⟨fun c => ?_, fun c => ?_⟩
        · exact ih _ _ _ _ _ (hM22_2120.mono (by omega)) (by omega) (by omega)
        · refine ⟨(by first | assumption | exact ⟨by omega, by omega⟩), ?_⟩
          refine ⟨fun c => ?_, fun c => ?_⟩
          · exact ih _ _ _ _ _ (hM22_2120.mono (by omega)) (by omega) (by omega)
          · refine ⟨fun c => ?_, fun c => ?_⟩
            · exact ih _ _ _ _ _ (hM22_2120.mono (by omega)) (by omega) (by omega)
            · exact ih _ _ _ _ _ (hM22_2120.mono (by omega)) (by omega) (by omega)
theorem sX12_mends_L23 {p1 : Int} {X150 : Int → Mem → Prop} {Q : Int → Mem → Prop} {b : Int} (hb : b + 51200 ≤ 2000000000) (hQ : ∀ z : Int, ∀ M' : Mem, IM (b + 51200) M' → Q z M') (hX150 : ∀ w1 : Int, ∀ M' : Mem, IM (b + 51200) M' → (-1 ≤ w1 ∧ w1 ≤ 255) → X150 w1 M') : ∀ (n : Nat) (v2 v3 : Int) (M : Mem), IM (b + 200 * v3) M → (-1 ≤ v2 ∧ v2 ≤ 255 ∧ 0 ≤ v3 ∧ v3 ≤ 256) → 256 - v3 < (n : Int) → qX12_mends_L23 p1 X150 Q n v2 v3 M := by
  intro n
  induction n with
  | zero => intro v2 v3 M hI hv hm; exact absurd hm (by omega)
  | succ n ih =>
    intro v2 v3 M hI hv hm
    rw [qX12_mends_L23]
    have hbn := hI.nn
    intro x4_2128 ex4_2128 rx4_2128
    have bx4_2128 : 0 ≤ x4_2128 ∧ x4_2128 ≤ 8 := by rw [ex4_2128]; exact bm_c1_5.mp (hI.bx _ _)
    intro x5_2129 ex5_2129 rx5_2129
    first | (have fx5_2129 := slI_1 (b := x4_2128) ⟨by omega, by omega⟩; rw [← ex5_2129] at fx5_2129) | skip
    refine ⟨(by first | assumption | exact ⟨by omega, by omega⟩), ?_⟩
    refine ⟨fun c => ?_, fun c => ?_⟩
    · exact hX150 _ _ (hI.mono (by omega)) (by omega)
    · refine ⟨(by first | assumption | exact ⟨by omega, by omega⟩), ?_⟩
      refine ⟨fun c => ?_, fun c => ?_⟩
      · unfold qX12_mends_J48
        refine sX12_copies  hI  ?_
        intro M10_2133 hM10_2133
        refine ⟨9, ?_⟩
        refine sX12_mends_L58 (b := b) (p1 := p1) (g0 := v2) (g1 := v3) hb ?_ ?_ _ _ _ _ _ _ (hM10_2133.mono (by omega)) (by omega) (by omega)
        · exact hQ
        · intro v2_2134 v3_2135 v4_2136 M_2137 hM_2137 p2138
          refine ⟨(by first | assumption | exact ⟨by omega, by omega⟩), ?_⟩
          refine ⟨fun c => ?_, fun c => ?_⟩
          · exact ih _ _ _ (hM_2137.mono (by omega)) (by omega) (by omega)
          · refine sX12_rightThen  hM_2137 (by omega) ?_
            intro x26_2141 q2142
            refine sJ6_bitCountM (p0 := x26_2141) hM_2137  ?_
            intro x27_2143 p2144 q2145
            refine ⟨fun c => ?_, fun c => ?_⟩
            · exact ih _ _ _ (hM_2137.mono (by omega)) (by omega) (by omega)
            · exact ih _ _ _ (hM_2137.mono (by omega)) (by omega) (by omega)
      · refine sJ6_bitCountM (p0 := v3) hI  ?_
        intro x29_2149 p2150 q2151
        refine sJ6_bitCountM (p0 := v2) hI  ?_
        intro x30_2152 p2153 q2154
        refine ⟨fun c => ?_, fun c => ?_⟩
        · exact ih _ _ _ (hI.mono (by omega)) (by omega) (by omega)
        · unfold qX12_mends_J48
          refine sX12_copies  hI  ?_
          intro M10_2157 hM10_2157
          refine ⟨9, ?_⟩
          refine sX12_mends_L58 (b := b) (p1 := p1) (g0 := v2) (g1 := v3) hb ?_ ?_ _ _ _ _ _ _ (hM10_2157.mono (by omega)) (by omega) (by omega)
          · exact hQ
          · intro v2_2158 v3_2159 v4_2160 M_2161 hM_2161 p2162
            refine ⟨(by first | assumption | exact ⟨by omega, by omega⟩), ?_⟩
            refine ⟨fun c => ?_, fun c => ?_⟩
            · exact ih _ _ _ (hM_2161.mono (by omega)) (by omega) (by omega)
            · refine sX12_rightThen  hM_2161 (by omega) ?_
              intro x26_2165 q2166
              refine sJ6_bitCountM (p0 := x26_2165) hM_2161  ?_
              intro x27_2167 p2168 q2169
              refine ⟨fun c => ?_, fun c => ?_⟩
              · exact ih _ _ _ (hM_2161.mono (by omega)) (by omega) (by omega)
              · exact ih _ _ _ (hM_2161.mono (by omega)) (by omega) (by omega)
theorem sX12_mends {p1 : Int} {b : Int} {M : Mem} {Q : Int → Mem → Prop} (hI : IM b M) (hb : b + 51200 ≤ 2000000000) (hQ : ∀ z : Int, ∀ M' : Mem, IM (b + 51200) M' → Q z M') : qX12_mends p1 M Q := by
  unfold qX12_mends
  have hbn := hI.nn
  intro M1_2172 h_M1_2172
  have hM1_2172 : IM (b) M1_2172 := by rw [h_M1_2172]; exact hI.up (by omega) (by simp [BM])
  refine sX12_in (p0 := p1) (p2 := 0) (p4 := 8) hM1_2172  ?_
  intro x2_2173 p2174 q2175 q2176
  refine ⟨fun c => ?_, fun c => ?_⟩
  · refine ⟨257, ?_⟩
    refine sX12_mends_L23 (b := b) (p1 := p1) hb ?_ ?_ _ _ _ _ (hM1_2172.mono (by omega)) (by omega) (by omega)
    · exact hQ
    · intro v2_2178 M_2179 hM_2179 p2180
      refine ⟨(by first | assumption | exact ⟨by omega, by omega⟩), ?_⟩
      refine ⟨fun c => ?_, fun c => ?_⟩
      · intro M35_2182 h_M35_2182
        have hM35_2182 : IM (b + 51200) M35_2182 := by rw [h_M35_2182]; exact hM_2179.up (by omega) (bm_c1_1.mpr ⟨by omega, by omega⟩)
        have u2183 : 0 ≤ M35_2182 1 1 ∧ M35_2182 1 1 ≤ 24 := bm_c1_1.mp (hM35_2182.bx _ _)
        have t2184 : M35_2182 1 1 = 0 := by rw [h_M35_2182, up2_s]
        refine sX12_enters (p1 := v2_2178) hM35_2182 (by omega) ?_
        intro M36_2185 hM36_2185 p2186
        refine sJ6_bitCountM (p0 := v2_2178) hM36_2185  ?_
        intro x37_2187 p2188 q2189
        exact hQ _ _ (hM36_2185.mono (by omega))
      · exact hQ _ _ (hM_2179.mono (by omega))
  · exact hQ _ _ (hM1_2172.mono (by omega))
theorem sX12_misleads_L58  {X124 : Int → Int → Int → Int → Mem → Prop} {Q : Int → Mem → Prop} {b : Int} {g1 : Int} {g2 : Int} {g3 : Int} {g4 : Int} (hb : b + 1600 ≤ 2000000000) (hQ : ∀ z : Int, ∀ M' : Mem, IM (b + 1600) M' → Q z M') (hX124 : ∀ w1 w2 w3 w4 : Int, ∀ M' : Mem, IM (b + 200 + 200 * g4) M' → (w1 = g1 ∧ w2 = g2 ∧ w3 = g3 ∧ w4 = g4) → X124 w1 w2 w3 w4 M') : ∀ (n : Nat) (v1 v2 v3 v4 v5 : Int) (M : Mem), IM (b + 200 + 200 * v4) M → (v1 = g1 ∧ v2 = g2 ∧ v3 = g3 ∧ v4 = g4 ∧ 0 ≤ v4 ∧ v4 ≤ 5 ∧ 0 ≤ v5 ∧ v5 ≤ 8) → 8 - v5 < (n : Int) → qX12_misleads_L58 X124 Q n v1 v2 v3 v4 v5 M := by
  intro n
  induction n with
  | zero => intro v1 v2 v3 v4 v5 M hI hv hm; exact absurd hm (by omega)
  | succ n ih =>
    intro v1 v2 v3 v4 v5 M hI hv hm
    rw [qX12_misleads_L58]
    have hbn := hI.nn
    intro x13_2192 ex13_2192 rx13_2192
    have bx13_2192 : 0 ≤ x13_2192 ∧ x13_2192 ≤ 8 := by rw [ex13_2192]; exact bm_c1_5.mp (hI.bx _ _)
    refine ⟨(by first | assumption | exact ⟨by omega, by omega⟩), ?_⟩
    refine ⟨fun c => ?_, fun c => ?_⟩
    · exact hX124 _ _ _ _ _ (hI.mono (by omega)) (by omega)
    · refine sX12_isEnded (p1 := v5) hI (Or.inr rfl) (by omega) ?_
      intro x16_2195 q2196 q2197
      refine ⟨fun c => ?_, fun c => ?_⟩
      · unfold qX12_misleads_J107
        refine ⟨by omega, ?_⟩
        refine ⟨by omega, ?_⟩
        intro x20_2199 ex20_2199 rx20_2199
        have rbx20_2199 : -2147483648 ≤ x20_2199 ∧ x20_2199 ≤ 2147483647 := rx20_2199
        first | (have bx20_2199 : -1 ≤ x20_2199 ∧ x20_2199 ≤ 5 := by rw [ex20_2199]; exact ((bm_n (Or.inr rfl)).mp (hI.bx _ _)).2.2.1 ⟨by omega, by omega⟩) | skip
        unfold qX12_misleads_J117
        refine ⟨by omega, ?_⟩
        refine ⟨by omega, ?_⟩
        refine ⟨(by first | assumption | exact ⟨by omega, by omega⟩), ?_⟩
        intro M24_2200 h_M24_2200
        have hM24_2200 : IM (b + 200 + 200 * v4) M24_2200 := by rw [h_M24_2200]; exact hI.up (by omega) ((bm_n (Or.inr rfl)).mpr (by first | assumption | exact ⟨by omega, by omega, by omega, by omega⟩))
        exact ih _ _ _ _ _ _ (hM24_2200.mono (by omega)) (by omega) (by omega)
      · refine ⟨by omega, ?_⟩
        refine ⟨by omega, ?_⟩
        intro x27_2202 ex27_2202 rx27_2202
        have rbx27_2202 : -2147483648 ≤ x27_2202 ∧ x27_2202 ≤ 2147483647 := rx27_2202
        first | (have bx27_2202 : -1 ≤ x27_2202 ∧ x27_2202 ≤ 5 := by rw [ex27_2202]; exact ((bm_n (Or.inr rfl)).mp (hI.bx _ _)).2.2.1 ⟨by omega, by omega⟩) | skip
        refine ⟨(by first | assumption | exact ⟨by omega, by omega⟩), ?_⟩
        refine ⟨fun c => ?_, fun c => ?_⟩
        · unfold qX12_misleads_J107
          refine ⟨by omega, ?_⟩
          refine ⟨by omega, ?_⟩
          intro x20_2204 ex20_2204 rx20_2204
          have rbx20_2204 : -2147483648 ≤ x20_2204 ∧ x20_2204 ≤ 2147483647 := rx20_2204
          first | (have bx20_2204 : -1 ≤ x20_2204 ∧ x20_2204 ≤ 5 := by rw [ex20_2204]; exact ((bm_n (Or.inr rfl)).mp (hI.bx _ _)).2.2.1 ⟨by omega, by omega⟩) | skip
          unfold qX12_misleads_J117
          refine ⟨by omega, ?_⟩
          refine ⟨by omega, ?_⟩
          refine ⟨(by first | assumption | exact ⟨by omega, by omega⟩), ?_⟩
          intro M24_2205 h_M24_2205
          have hM24_2205 : IM (b + 200 + 200 * v4) M24_2205 := by rw [h_M24_2205]; exact hI.up (by omega) ((bm_n (Or.inr rfl)).mpr (by first | assumption | exact ⟨by omega, by omega, by omega, by omega⟩))
          exact ih _ _ _ _ _ _ (hM24_2205.mono (by omega)) (by omega) (by omega)
        · unfold qX12_misleads_J117
          refine ⟨by omega, ?_⟩
          refine ⟨by omega, ?_⟩
          refine ⟨(by first | assumption | exact ⟨by omega, by omega⟩), ?_⟩
          intro M24_2207 h_M24_2207
          have hM24_2207 : IM (b + 200 + 200 * v4) M24_2207 := by rw [h_M24_2207]; exact hI.up (by omega) ((bm_n (Or.inr rfl)).mpr (by first | assumption | exact ⟨by omega, by omega, by omega, by omega⟩))
          exact ih _ _ _ _ _ _ (hM24_2207.mono (by omega)) (by omega) (by omega)
theorem sX12_misleads_L22  {X168 : Int → Int → Int → Mem → Prop} {Q : Int → Mem → Prop} {b : Int} (hb : b + 1600 ≤ 2000000000) (hQ : ∀ z : Int, ∀ M' : Mem, IM (b + 1600) M' → Q z M') (hX168 : ∀ w1 w2 w3 : Int, ∀ M' : Mem, IM (b + 1600) M' → (-2 ≤ w2 ∧ w2 ≤ 5 ∧ -1 ≤ w3 ∧ w3 ≤ 63) → X168 w1 w2 w3 M') : ∀ (n : Nat) (v1 v2 v3 v4 : Int) (M : Mem), IM (b + 200 + 200 * v4) M → (-2 ≤ v2 ∧ v2 ≤ 5 ∧ -1 ≤ v3 ∧ v3 ≤ 63 ∧ 0 ≤ v4 ∧ v4 ≤ 6) → 6 - v4 < (n : Int) → qX12_misleads_L22 X168 Q n v1 v2 v3 v4 M := by
  intro n
  induction n with
  | zero => intro v1 v2 v3 v4 M hI hv hm; exact absurd hm (by omega)
  | succ n ih =>
    intro v1 v2 v3 v4 M hI hv hm
    rw [qX12_misleads_L22]
    have hbn := hI.nn
    intro x4_2208 ex4_2208 rx4_2208
    have bx4_2208 : 0 ≤ x4_2208 ∧ x4_2208 ≤ 6 := by rw [ex4_2208]; exact bm_c1_4.mp (hI.bx _ _)
    refine ⟨(by first | assumption | exact ⟨by omega, by omega⟩), ?_⟩
    refine ⟨fun c => ?_, fun c => ?_⟩
    · exact hX168 _ _ _ _ (hI.mono (by omega)) (by omega)
    · refine sX12_isOn (p1 := v4) hI (Or.inl rfl) (by omega) ?_
      intro x7_2211 p2212 q2213 q2214
      refine ⟨fun c => ?_, fun c => ?_⟩
      · exact ih _ _ _ _ _ (hI.mono (by omega)) (by omega) (by omega)
      · refine sX12_copies  hI  ?_
        intro M9_2217 hM9_2217
        refine ⟨by omega, ?_⟩
        refine ⟨by omega, ?_⟩
        intro M12_2218 h_M12_2218
        have hM12_2218 : IM (b + 200 + 200 * v4) M12_2218 := by rw [h_M12_2218]; exact hM9_2217.up (by omega) ((bm_n (Or.inr rfl)).mpr (by first | assumption | exact ⟨by omega, by omega, by omega, by omega⟩))
        refine ⟨9, ?_⟩
        refine sX12_misleads_L58 (b := b)  (g1 := v1) (g2 := v2) (g3 := v3) (g4 := v4) hb ?_ ?_ _ _ _ _ _ _ _ (hM12_2218.mono (by omega)) (by omega) (by omega)
        · exact hQ
        · intro v1_2219 v2_2220 v3_2221 v4_2222 M_2223 hM_2223 p2224
          refine sX12_rightThen  hM_2223 (by omega) ?_
          intro x31_2225 q2226
          refine ⟨(by first | assumption | exact ⟨by omega, by omega⟩), ?_⟩
          refine sX12_owners (p1 := v4_2222) hM_2223  ?_
          intro x33_2227 q2228
          intro x34_2229 ex34_2229 rx34_2229
          intro x35_2230 ex35_2230 rx35_2230
          refine sJ6_bitCountM (p0 := x35_2230) hM_2223  ?_
          intro x36_2231 p2232 q2233
          refine ⟨(by first | assumption | exact ⟨by omega, by omega⟩), ?_⟩
          refine ⟨fun c => ?_, fun c => ?_⟩
          · unfold qX12_misleads_J154
            refine ⟨(by first | assumption | exact ⟨by omega, by omega⟩), ?_⟩
            refine ⟨(by first | assumption | exact ⟨by omega, by omega⟩), ?_⟩
            intro x41_2235 ex41_2235 rx41_2235
            exact ih _ _ _ _ _ (hM_2223.mono (by omega)) (by omega) (by omega)
          · unfold qX12_misleads_J154
            refine ⟨(by first | assumption | exact ⟨by omega, by omega⟩), ?_⟩
            refine ⟨(by first | assumption | exact ⟨by omega, by omega⟩), ?_⟩
            intro x41_2237 ex41_2237 rx41_2237
            exact ih _ _ _ _ _ (hM_2223.mono (by omega)) (by omega) (by omega)
theorem sX12_misleads  {b : Int} {M : Mem} {Q : Int → Mem → Prop} (hI : IM b M) (hb : b + 1600 ≤ 2000000000) (hQ : ∀ z : Int, ∀ M' : Mem, IM (b + 1600) M' → Q z M') : qX12_misleads M Q := by
  unfold qX12_misleads
  have hbn := hI.nn
  intro M1_2238 h_M1_2238
  have hM1_2238 : IM (b) M1_2238 := by rw [h_M1_2238]; exact hI.up (by omega) (by simp [BM])
  refine sX12_copies  hM1_2238  ?_
  intro M2_2239 hM2_2239
  refine sX12_rightThen  hM2_2239 (by omega) ?_
  intro x3_2240 q2241
  refine ⟨7, ?_⟩
  refine sX12_misleads_L22 (b := b)  hb ?_ ?_ _ _ _ _ _ _ (hM2_2239.mono (by omega)) (by omega) (by omega)
  · exact hQ
  · intro v1_2242 v2_2243 v3_2244 M_2245 hM_2245 p2246
    refine ⟨(by first | assumption | exact ⟨by omega, by omega⟩), ?_⟩
    refine ⟨fun c => ?_, fun c => ?_⟩
    · exact hQ _ _ (hM_2245.mono (by omega))
    · intro M45_2249 h_M45_2249
      have hM45_2249 : IM (b + 1600) M45_2249 := by rw [h_M45_2249]; exact hM_2245.up (by omega) (bm_c1_1.mpr ⟨by omega, by omega⟩)
      refine ⟨(by first | assumption | exact ⟨by omega, by omega⟩), ?_⟩
      have u2250 : 0 ≤ M45_2249 1 1 ∧ M45_2249 1 1 ≤ 24 := bm_c1_1.mp (hM45_2249.bx _ _)
      have t2251 : M45_2249 1 1 = 0 := by rw [h_M45_2249, up2_s]
      refine sX12_enters (p1 := v3_2244) hM45_2249 (by omega) ?_
      intro M47_2252 hM47_2252 p2253
      refine sX12_owners (p1 := v2_2243) hM47_2252  ?_
      intro x48_2254 q2255
      intro x49_2256 ex49_2256 rx49_2256
      intro x50_2257 ex50_2257 rx50_2257
      refine sJ6_bitCountM (p0 := x50_2257) hM47_2252  ?_
      intro x51_2258 p2259 q2260
      have u2261 : 0 ≤ M47_2252 1 1 ∧ M47_2252 1 1 ≤ 24 := bm_c1_1.mp (hM47_2252.bx _ _)
      refine sX12_enters (p1 := x51_2258) hM47_2252 (by omega) ?_
      intro M52_2262 hM52_2262 p2263
      exact hQ _ _ (hM52_2262.mono (by omega))
theorem sX12_crowd_L34  {X85 : Int → Mem → Prop} {Q : Int → Mem → Prop} {b : Int} (hb : b + 200 ≤ 2000000000) (hQ : ∀ z : Int, ∀ M' : Mem, IM (b + 200) M' → Q z M') (hX85 : ∀ w1 : Int, ∀ M' : Mem, IM (b + 200) M' → (0 ≤ w1 ∧ w1 ≤ 5) → X85 w1 M') : ∀ (n : Nat) (v1 v2 : Int) (M : Mem), IM (b + 200) M → (0 ≤ v1 ∧ v1 ≤ 5 ∧ 0 ≤ v2 ∧ v2 ≤ 6) → 6 - v2 < (n : Int) → qX12_crowd_L34 X85 Q n v1 v2 M := by
  intro n
  induction n with
  | zero => intro v1 v2 M hI hv hm; exact absurd hm (by omega)
  | succ n ih =>
    intro v1 v2 M hI hv hm
    rw [qX12_crowd_L34]
    have hbn := hI.nn
    intro x6_2264 ex6_2264 rx6_2264
    have bx6_2264 : 0 ≤ x6_2264 ∧ x6_2264 ≤ 6 := by rw [ex6_2264]; exact bm_c1_4.mp (hI.bx _ _)
    refine ⟨(by first | assumption | exact ⟨by omega, by omega⟩), ?_⟩
    refine ⟨fun c => ?_, fun c => ?_⟩
    · exact hX85 _ _ (hI.mono (by omega)) (by omega)
    · refine sX12_bitsBy (p2 := 29) (p3 := v2) hI (Or.inr rfl) (by omega) ?_
      intro x9_2267 q2268
      refine sJ6_bitCountM (p0 := x9_2267) hI  ?_
      intro x10_2269 p2270 q2271
      refine ⟨(by first | assumption | exact ⟨by omega, by omega⟩), ?_⟩
      refine sX12_bitsBy (p2 := 29) (p3 := v1) hI (Or.inr rfl) (by omega) ?_
      intro x12_2272 q2273
      refine sJ6_bitCountM (p0 := x12_2272) hI  ?_
      intro x13_2274 p2275 q2276
      refine ⟨fun c => ?_, fun c => ?_⟩
      · exact ih _ _ _ (hI.mono (by omega)) (by omega) (by omega)
      · exact ih _ _ _ (hI.mono (by omega)) (by omega) (by omega)
theorem sX12_crowd  {b : Int} {M : Mem} {Q : Int → Mem → Prop} (hI : IM b M) (hb : b + 200 ≤ 2000000000) (hQ : ∀ z : Int, ∀ M' : Mem, IM (b + 200) M' → Q z M') : qX12_crowd M Q := by
  unfold qX12_crowd
  have hbn := hI.nn
  intro M1_2279 h_M1_2279
  have hM1_2279 : IM (b) M1_2279 := by rw [h_M1_2279]; exact hI.up (by omega) (by simp [BM])
  intro x2_2280 ex2_2280 rx2_2280
  have bx2_2280 : 0 ≤ x2_2280 ∧ x2_2280 ≤ 6 := by rw [ex2_2280]; exact bm_c1_4.mp (hM1_2279.bx _ _)
  have fx2_2280 : x2_2280 = M 1 4 := by rw [ex2_2280, h_M1_2279, up2_j (by decide)]
  refine ⟨fun c => ?_, fun c => ?_⟩
  · refine sX12_copies  hM1_2279  ?_
    intro M4_2282 hM4_2282
    refine sX12_goesOn (p2 := 200) hM4_2282 (by omega) (Or.inr rfl) (by omega) ?_
    intro M5_2283 hM5_2283
    refine ⟨7, ?_⟩
    refine sX12_crowd_L34 (b := b)  hb ?_ ?_ _ _ _ _ (hM5_2283.mono (by omega)) (by omega) (by omega)
    · exact hQ
    · intro v1_2284 M_2285 hM_2285 p2286
      refine ⟨(by first | assumption | exact ⟨by omega, by omega⟩), ?_⟩
      refine sX12_bitsBy (p2 := 29) (p3 := v1_2284) hM_2285 (Or.inr rfl) (by omega) ?_
      intro x17_2287 q2288
      intro M18_2289 h_M18_2289
      have hM18_2289 : IM (b + 200) M18_2289 := by rw [h_M18_2289]; exact hM_2285.up (by omega) (bm_c1_1.mpr ⟨by omega, by omega⟩)
      refine sJ6_bitCountM (p0 := x17_2287) hM18_2289  ?_
      intro x19_2290 p2291 q2292
      have u2293 : 0 ≤ M18_2289 1 1 ∧ M18_2289 1 1 ≤ 24 := bm_c1_1.mp (hM18_2289.bx _ _)
      have t2294 : M18_2289 1 1 = 0 := by rw [h_M18_2289, up2_s]
      refine sX12_enters (p1 := x19_2290) hM18_2289 (by omega) ?_
      intro M20_2295 hM20_2295 p2296
      refine sX12_owners (p1 := v1_2284) hM20_2295  ?_
      intro x21_2297 q2298
      intro x22_2299 ex22_2299 rx22_2299
      refine sJ6_bitCountM (p0 := x22_2299) hM20_2295  ?_
      intro x23_2300 p2301 q2302
      have u2303 : 0 ≤ M20_2295 1 1 ∧ M20_2295 1 1 ≤ 24 := bm_c1_1.mp (hM20_2295.bx _ _)
      refine sX12_enters (p1 := x23_2300) hM20_2295 (by omega) ?_
      intro M24_2304 hM24_2304 p2305
      exact hQ _ _ (hM24_2304.mono (by omega))
  · exact hQ _ _ (hM1_2279.mono (by omega))
theorem sX12_shares {p1 : Int} {b : Int} {M : Mem} {Q : Int → Mem → Prop} (hI : IM b M) (hQ : ∀ z : Int, Q z M) : qX12_shares p1 M Q := sorry
theorem sX12_strangers_L31  {X128 : Int → Int → Int → Int → Mem → Prop} {Q : Int → Mem → Prop} {b : Int} {g0 : Int} (hQ : ∀ z : Int, ∀ M' : Mem, IM b M' → Q z M') (hX128 : ∀ w1 w2 w3 w4 : Int, ∀ M' : Mem, IM (b) M' → (w4 = g0 ∧ 0 ≤ w1 ∧ w1 ≤ 1000000 ∧ -1 ≤ w2 ∧ w2 ≤ 7 ∧ -1 ≤ w3 ∧ w3 ≤ 7) → X128 w1 w2 w3 w4 M') : ∀ (n : Nat) (v1 v2 v3 v4 v5 : Int) (M : Mem), IM (b) M → (v4 = g0 ∧ 0 ≤ v1 ∧ v1 ≤ 1000000 ∧ -1 ≤ v2 ∧ v2 ≤ 7 ∧ -1 ≤ v3 ∧ v3 ≤ 7 ∧ 0 ≤ v4 ∧ v4 ≤ 7 ∧ 0 ≤ v5 ∧ v5 ≤ 8) → 8 - v5 < (n : Int) → qX12_strangers_L31 X128 Q n v1 v2 v3 v4 v5 M := by
  intro n
  induction n with
  | zero => intro v1 v2 v3 v4 v5 M hI hv hm; exact absurd hm (by omega)
  | succ n ih =>
    intro v1 v2 v3 v4 v5 M hI hv hm
    rw [qX12_strangers_L31]
    have hbn := hI.nn
    intro x5_2307 ex5_2307 rx5_2307
    have bx5_2307 : 0 ≤ x5_2307 ∧ x5_2307 ≤ 8 := by rw [ex5_2307]; exact bm_c1_5.mp (hI.bx _ _)
    refine ⟨(by first | assumption | exact ⟨by omega, by omega⟩), ?_⟩
    refine ⟨fun c => ?_, fun c => ?_⟩
    · exact hX128 _ _ _ _ _ (hI.mono (by omega)) (by omega)
    · refine ⟨by omega, ?_⟩
      refine ⟨by omega, ?_⟩
      intro x10_2310 ex10_2310 rx10_2310
      have rbx10_2310 : -2147483648 ≤ x10_2310 ∧ x10_2310 ≤ 2147483647 := rx10_2310
      first | (have bx10_2310 : -1 ≤ x10_2310 ∧ x10_2310 ≤ 29 := by rw [ex10_2310]; exact ((bm_n (Or.inl rfl)).mp (hI.bx _ _)).2.1 ⟨by omega, by omega⟩) | skip
      refine ⟨by omega, ?_⟩
      refine ⟨by omega, ?_⟩
      intro x13_2311 ex13_2311 rx13_2311
      have rbx13_2311 : -2147483648 ≤ x13_2311 ∧ x13_2311 ≤ 2147483647 := rx13_2311
      first | (have bx13_2311 : -1 ≤ x13_2311 ∧ x13_2311 ≤ 29 := by rw [ex13_2311]; exact ((bm_n (Or.inl rfl)).mp (hI.bx _ _)).2.1 ⟨by omega, by omega⟩) | skip
      refine ⟨(by first | assumption | exact ⟨by omega, by omega⟩), ?_⟩
      intro x15_2312 px15_2312 nx15_2312
      have bx15_2312 : 0 ≤ x15_2312 ∧ (x10_2310 - x13_2311 = x15_2312 ∨ x10_2310 - x13_2311 = -x15_2312) := by omega
      refine ⟨by omega, ?_⟩
      refine ⟨by omega, ?_⟩
      intro x18_2313 ex18_2313 rx18_2313
      have bx18_2313 : 0 ≤ x18_2313 ∧ x18_2313 ≤ 5 := by rw [ex18_2313]; exact bm_c3.mp (hI.bx _ _)
      refine ⟨by omega, ?_⟩
      refine ⟨by omega, ?_⟩
      intro x21_2314 ex21_2314 rx21_2314
      have bx21_2314 : 0 ≤ x21_2314 ∧ x21_2314 ≤ 5 := by rw [ex21_2314]; exact bm_c3.mp (hI.bx _ _)
      refine ⟨fun c => ?_, fun c => ?_⟩
      · exact ih _ _ _ _ _ _ (hI.mono (by omega)) (by omega) (by omega)
      · refine ⟨(by first | assumption | exact ⟨by omega, by omega⟩), ?_⟩
        refine sX12_isEnded (p1 := v4) hI (Or.inl rfl) (by omega) ?_
        intro x24_2317 q2318 q2319
        refine ⟨fun c => ?_, fun c => ?_⟩
        · exact ih _ _ _ _ _ _ (hI.mono (by omega)) (by omega) (by omega)
        · refine sX12_isEnded (p1 := v5) hI (Or.inl rfl) (by omega) ?_
          intro x26_2322 q2323 q2324
          refine ⟨fun c => ?_, fun c => ?_⟩
          · exact ih _ _ _ _ _ _ (hI.mono (by omega)) (by omega) (by omega)
          · refine ⟨(by first | assumption | exact ⟨by omega, by omega⟩), ?_⟩
            refine ⟨(by first | assumption | exact ⟨by omega, by omega⟩), ?_⟩
            refine ⟨fun c => ?_, fun c => ?_⟩
            · exact ih _ _ _ _ _ _ (hI.mono (by omega)) (by omega) (by omega)
            · exact ih _ _ _ _ _ _ (hI.mono (by omega)) (by omega) (by omega)
theorem sX12_strangers_L16  {X134 : Int → Int → Int → Mem → Prop} {Q : Int → Mem → Prop} {b : Int} (hQ : ∀ z : Int, ∀ M' : Mem, IM b M' → Q z M') (hX134 : ∀ w1 w2 w3 : Int, ∀ M' : Mem, IM (b) M' → (0 ≤ w1 ∧ w1 ≤ 1000000 ∧ -1 ≤ w2 ∧ w2 ≤ 7 ∧ -1 ≤ w3 ∧ w3 ≤ 7) → X134 w1 w2 w3 M') : ∀ (n : Nat) (v1 v2 v3 v4 : Int) (M : Mem), IM (b) M → (0 ≤ v1 ∧ v1 ≤ 1000000 ∧ -1 ≤ v2 ∧ v2 ≤ 7 ∧ -1 ≤ v3 ∧ v3 ≤ 7 ∧ 0 ≤ v4 ∧ v4 ≤ 8) → 8 - v4 < (n : Int) → qX12_strangers_L16 X134 Q n v1 v2 v3 v4 M := by
  intro n
  induction n with
  | zero => intro v1 v2 v3 v4 M hI hv hm; exact absurd hm (by omega)
  | succ n ih =>
    intro v1 v2 v3 v4 M hI hv hm
    rw [qX12_strangers_L16]
    have hbn := hI.nn
    intro x2_2329 ex2_2329 rx2_2329
    have bx2_2329 : 0 ≤ x2_2329 ∧ x2_2329 ≤ 8 := by rw [ex2_2329]; exact bm_c1_5.mp (hI.bx _ _)
    refine ⟨(by first | assumption | exact ⟨by omega, by omega⟩), ?_⟩
    refine ⟨fun c => ?_, fun c => ?_⟩
    · exact hX134 _ _ _ _ (hI.mono (by omega)) (by omega)
    · refine ⟨9, ?_⟩
      refine sX12_strangers_L31 (b := b)  (g0 := v4) ?_ ?_ _ _ _ _ _ _ _ (hI.mono (by omega)) (by omega) (by omega)
      · exact hQ
      · intro v1_2332 v2_2333 v3_2334 v4_2335 M_2336 hM_2336 p2337
        exact ih _ _ _ _ _ (hM_2336.mono (by omega)) (by omega) (by omega)
theorem sX12_strangers  {b : Int} {M : Mem} {Q : Int → Mem → Prop} (hI : IM b M) (hQ : ∀ z : Int, ∀ M' : Mem, IM b M' → Q z M') : qX12_strangers M Q := by
  unfold qX12_strangers
  have hbn := hI.nn
  intro M1_2338 h_M1_2338
  have hM1_2338 : IM (b) M1_2338 := by rw [h_M1_2338]; exact hI.up (by omega) (by simp [BM])
  refine ⟨9, ?_⟩
  refine sX12_strangers_L16 (b := b)  ?_ ?_ _ _ _ _ _ _ (hM1_2338.mono (by omega)) (by omega) (by omega)
  · exact hQ
  · intro v1_2339 v2_2340 v3_2341 M_2342 hM_2342 p2343
    refine ⟨(by first | assumption | exact ⟨by omega, by omega⟩), ?_⟩
    refine ⟨fun c => ?_, fun c => ?_⟩
    · intro M35_2345 h_M35_2345
      have hM35_2345 : IM (b) M35_2345 := by rw [h_M35_2345]; exact hM_2342.up (by omega) (bm_c1_1.mpr ⟨by omega, by omega⟩)
      have u2346 : 0 ≤ M35_2345 1 1 ∧ M35_2345 1 1 ≤ 24 := bm_c1_1.mp (hM35_2345.bx _ _)
      have t2347 : M35_2345 1 1 = 0 := by rw [h_M35_2345, up2_s]
      refine sX12_enters (p1 := v2_2340) hM35_2345 (by omega) ?_
      intro M36_2348 hM36_2348 p2349
      refine ⟨(by first | assumption | exact ⟨by omega, by omega⟩), ?_⟩
      have u2350 : 0 ≤ M36_2348 1 1 ∧ M36_2348 1 1 ≤ 24 := bm_c1_1.mp (hM36_2348.bx _ _)
      refine sX12_enters (p1 := v3_2341) hM36_2348 (by omega) ?_
      intro M38_2351 hM38_2351 p2352
      refine ⟨(by first | assumption | exact ⟨by omega, by omega⟩), ?_⟩
      exact hQ _ _ (hM38_2351.mono (by omega))
    · exact hQ _ _ (hM_2342.mono (by omega))
