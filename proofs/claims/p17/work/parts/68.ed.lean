theorem sX12_pushesOne {k1 : Nat} {p2 : Int} {p3 : Int} {b : Int} {M : Mem} {Q : Int → Mem → Prop} (hI : IM b M) (hk1 : isN k1) (hQ : ∀ z : Int, ∀ M' : Mem, IM b M' → Q z M') : qX12_pushesOne k1 p2 p3 M Q := by
  unfold qX12_pushesOne
  have hbn := hI.nn
  have ek1 : k1 = 5 ∨ k1 = 6 := hk1
  refine sX12_isMourner (p1 := p2) hI  ?_
  intro x1_1558 p1559 q1560 q1561
  refine ⟨fun c => ?_, fun c => ?_⟩
  · exact hQ _ _ (hI.mono (by omega))
  · refine sX12_in (p0 := p3) (p2 := (-9)) (p4 := 9) hI  ?_
    intro x3_1564 p1565 q1566 q1567
    refine ⟨fun c => ?_, fun c => ?_⟩
    · exact hQ _ _ (hI.mono (by omega))
    · refine ⟨fun c => ?_, fun c => ?_⟩
      · refine sX12_isEnded (p1 := p2) hI hk1 (by omega) ?_
        intro x6_1571 q1572 q1573
        refine ⟨fun c => ?_, fun c => ?_⟩
        · refine sX12_gate  hI  ?_
          intro x8_1575 p1576 q1577
          refine ⟨by omega, ?_⟩
          refine ⟨by omega, ?_⟩
          intro x11_1578 ex11_1578 rx11_1578
          have rbx11_1578 : -2147483648 ≤ x11_1578 ∧ x11_1578 ≤ 2147483647 := rx11_1578
          first | (have bx11_1578 : -1 ≤ x11_1578 ∧ x11_1578 ≤ 29 := by rw [ex11_1578]; exact ((bm_n hk1).mp (hI.bx _ _)).2.1 (by omega)) | skip
          refine ⟨(by first | assumption | exact (by omega)), ?_⟩
          refine ⟨(by first | assumption | exact (by omega)), ?_⟩
          intro x14_1579 ex14_1579 rx14_1579
          intro x15_1580 ex15_1580 rx15_1580
          intro M16_1581 h_M16_1581
          have hM16_1581 : IM (b) M16_1581 := by rw [h_M16_1581]; exact hI.up (by omega) ((bm_n hk1).mpr (by first | assumption | exact ⟨by omega, by omega, by omega, by omega⟩))
          intro x17_1582 ex17_1582 rx17_1582
          have rbx17_1582 : -2147483648 ≤ x17_1582 ∧ x17_1582 ≤ 2147483647 := rx17_1582
          first | (have bx17_1582 : -1 ≤ x17_1582 ∧ x17_1582 ≤ 29 := by rw [ex17_1582]; exact ((bm_n hk1).mp (hM16_1581.bx _ _)).2.1 (by omega)) | skip
          have fx17_1582 : x17_1582 = x15_1580 := by rw [ex17_1582, h_M16_1581, up2_s]
          exact hQ _ _ (hM16_1581.mono (by omega))
        · exact hQ _ _ (hI.mono (by omega))
      · exact hQ _ _ (hI.mono (by omega))
theorem sX12_line_L20   {Q : Int → Mem → Prop} {b : Int} (hQ : ∀ z : Int, ∀ M' : Mem, IM b M' → Q z M') : ∀ (n : Nat) (v1 : Int) (M : Mem), IM (b) M → (0 ≤ v1 ∧ v1 ≤ 6 ∧ M 1 1 = v1) → 6 - v1 < (n : Int) → qX12_line_L20 Q n v1 M := by
  intro n
  induction n with
  | zero => intro v1 M hI hv hm; exact absurd hm (by omega)
  | succ n ih =>
    intro v1 M hI hv hm
    rw [qX12_line_L20]
    have hbn := hI.nn
    have u1690 : 0 ≤ M 1 1 ∧ M 1 1 ≤ 24 := bm_c1_1.mp (hI.bx _ _)
    intro x4_1691 ex4_1691 rx4_1691
    have bx4_1691 : 0 ≤ x4_1691 ∧ x4_1691 ≤ 6 := by rw [ex4_1691]; exact bm_c1_35.mp (hI.bx _ _)
    refine ⟨(by first | assumption | exact (by omega)), ?_⟩
    refine ⟨fun c => ?_, fun c => ?_⟩
    · intro x7_1693 ex7_1693 rx7_1693
      have bx7_1693 : 0 ≤ x7_1693 ∧ x7_1693 ≤ 6 := by rw [ex7_1693]; exact bm_c1_35.mp (hI.bx _ _)
      exact hQ _ _ (hI.mono (by omega))
    · refine ⟨by omega, ?_⟩
      refine ⟨by omega, ?_⟩
      intro x10_1695 ex10_1695 rx10_1695
      have bx10_1695 : 0 ≤ x10_1695 ∧ x10_1695 ≤ 5 := by rw [ex10_1695]; exact bm_c18.mp (hI.bx _ _)
      have u1696 : 0 ≤ M 1 1 ∧ M 1 1 ≤ 24 := bm_c1_1.mp (hI.bx _ _)
      refine sX12_enters (p1 := x10_1695) hI (by omega) ?_
      intro M11_1697 hM11_1697 p1698
      have u1699 : 0 ≤ M11_1697 1 1 ∧ M11_1697 1 1 ≤ 24 := bm_c1_1.mp (hM11_1697.bx _ _)
      exact ih _ _ (hM11_1697.mono (by omega)) (by omega) (by omega)
theorem sX12_line  {b : Int} {M : Mem} {Q : Int → Mem → Prop} (hI : IM b M) (hQ : ∀ z : Int, ∀ M' : Mem, IM b M' → Q z M') : qX12_line M Q := by
  unfold qX12_line
  have hbn := hI.nn
  intro M1_1700 h_M1_1700
  have hM1_1700 : IM (b) M1_1700 := by rw [h_M1_1700]; exact hI.up (by omega) (by simp [BM])
  refine sX12_laysLine  hM1_1700 (Or.inl rfl) ?_
  intro M2_1701 hM2_1701
  intro M3_1702 h_M3_1702
  have hM3_1702 : IM (b) M3_1702 := by rw [h_M3_1702]; exact hM2_1701.up (by omega) (bm_c1_1.mpr (by omega))
  refine ⟨7, ?_⟩
  have u1703 : 0 ≤ M3_1702 1 1 ∧ M3_1702 1 1 ≤ 24 := bm_c1_1.mp (hM3_1702.bx _ _)
  have t1704 : M3_1702 1 1 = 0 := by rw [h_M3_1702, up2_s]
  refine sX12_line_L20 (b := b)  ?_ _ _ _ (hM3_1702.mono (by omega)) (by omega) (by omega)
  · exact hQ
theorem sX12_copies_L2   {Q : Mem → Prop} {b : Int} (hQ : ∀ M' : Mem, IM b M' → Q M') : ∀ (n : Nat) (v1 : Int) (M : Mem), IM (b) M → (0 ≤ v1 ∧ v1 ≤ 38) → 38 - v1 < (n : Int) → qX12_copies_L2 Q n v1 M := by
  intro n
  induction n with
  | zero => intro v1 M hI hv hm; exact absurd hm (by omega)
  | succ n ih =>
    intro v1 M hI hv hm
    rw [qX12_copies_L2]
    have hbn := hI.nn
    refine ⟨(by first | assumption | exact (by omega)), ?_⟩
    refine ⟨fun c => ?_, fun c => ?_⟩
    · exact hQ _ (hI.mono (by omega))
    · refine ⟨by omega, ?_⟩
      refine ⟨by omega, ?_⟩
      intro x5_1707 ex5_1707 rx5_1707
      have rbx5_1707 : -2147483648 ≤ x5_1707 ∧ x5_1707 ≤ 2147483647 := rx5_1707
      have nbx5_1707 : BN (b) v1 x5_1707 := by rw [ex5_1707]; exact (bm_n (Or.inl rfl)).mp (hI.bx _ _)
      first | (have bx5_1707 : -1 ≤ x5_1707 ∧ x5_1707 ≤ 29 := nbx5_1707.1 (by omega)) | (have bx5_1707 : -1 ≤ x5_1707 ∧ x5_1707 ≤ 29 := nbx5_1707.2.1 (by omega)) | skip
      intro M6_1708 h_M6_1708
      have hM6_1708 : IM (b) M6_1708 := by rw [h_M6_1708]; exact hI.up (by omega) ((bm_n (Or.inr rfl)).mpr (by first | assumption | exact ⟨by omega, by omega, by omega, by omega⟩))
      exact ih _ _ (hM6_1708.mono (by omega)) (by omega) (by omega)
theorem sX12_copies  {b : Int} {M : Mem} {Q : Mem → Prop} (hI : IM b M) (hQ : ∀ M' : Mem, IM b M' → Q M') : qX12_copies M Q := by
  unfold qX12_copies
  have hbn := hI.nn
  refine ⟨39, ?_⟩
  refine sX12_copies_L2 (b := b)  ?_ _ _ _ (hI.mono (by omega)) (by omega) (by omega)
  · exact hQ
theorem sX12_ahead_L39 {p1 : Int}  {Q : Int → Mem → Prop} {b : Int} (hb : b + 200 ≤ 2000000000) (hQ : ∀ z : Int, ∀ M' : Mem, IM (b + 200) M' → Q z M') : ∀ (n : Nat) (v2 : Int) (M : Mem), IM (b + 200) M → (0 ≤ v2 ∧ v2 ≤ 6 ∧ M 1 1 = v2) → 6 - v2 < (n : Int) → qX12_ahead_L39 p1 Q n v2 M := by
  intro n
  induction n with
  | zero => intro v2 M hI hv hm; exact absurd hm (by omega)
  | succ n ih =>
    intro v2 M hI hv hm
    rw [qX12_ahead_L39]
    have hbn := hI.nn
    have u1709 : 0 ≤ M 1 1 ∧ M 1 1 ≤ 24 := bm_c1_1.mp (hI.bx _ _)
    intro x7_1710 ex7_1710 rx7_1710
    have bx7_1710 : 0 ≤ x7_1710 ∧ x7_1710 ≤ 6 := by rw [ex7_1710]; exact bm_c1_4.mp (hI.bx _ _)
    refine ⟨(by first | assumption | exact (by omega)), ?_⟩
    refine ⟨fun c => ?_, fun c => ?_⟩
    · intro x10_1712 ex10_1712 rx10_1712
      have bx10_1712 : -2147483648 ≤ x10_1712 ∧ x10_1712 ≤ 2147483647 := rx10_1712
      exact hQ _ _ (hI.mono (by omega))
    · refine ⟨by omega, ?_⟩
      refine ⟨by omega, ?_⟩
      intro x13_1714 ex13_1714 rx13_1714
      have rbx13_1714 : -2147483648 ≤ x13_1714 ∧ x13_1714 ≤ 2147483647 := rx13_1714
      have nbx13_1714 : BN (b + 200) v2 x13_1714 := by rw [ex13_1714]; exact (bm_n (Or.inr rfl)).mp (hI.bx _ _)
      first | (have bx13_1714 : -1 ≤ x13_1714 ∧ x13_1714 ≤ 29 := nbx13_1714.1 (by omega)) | (have bx13_1714 : -1 ≤ x13_1714 ∧ x13_1714 ≤ 29 := nbx13_1714.2.1 (by omega)) | skip
      have u1715 : 0 ≤ M 1 1 ∧ M 1 1 ≤ 24 := bm_c1_1.mp (hI.bx _ _)
      refine sX12_enters (p1 := x13_1714) hI (by omega) ?_
      intro M14_1716 hM14_1716 p1717
      have u1718 : 0 ≤ M14_1716 1 1 ∧ M14_1716 1 1 ≤ 24 := bm_c1_1.mp (hM14_1716.bx _ _)
      exact ih _ _ (hM14_1716.mono (by omega)) (by omega) (by omega)
theorem sX12_ahead {p1 : Int} {b : Int} {M : Mem} {Q : Int → Mem → Prop} (hI : IM b M) (hb : b + 200 ≤ 2000000000) (hQ : ∀ z : Int, ∀ M' : Mem, IM (b + 200) M' → Q z M') : qX12_ahead p1 M Q := by
  unfold qX12_ahead
  have hbn := hI.nn
  intro M1_1719 h_M1_1719
  have hM1_1719 : IM (b) M1_1719 := by rw [h_M1_1719]; exact hI.up (by omega) (by simp [BM])
  refine sX12_in (p0 := p1) (p2 := 0) (p4 := 99) hM1_1719  ?_
  intro x2_1720 p1721 q1722 q1723
  refine ⟨fun c => ?_, fun c => ?_⟩
  · refine sX12_copies  hM1_1719  ?_
    intro M4_1725 hM4_1725
    refine sX12_goesOn (p2 := p1) hM4_1725 (by omega) (Or.inr rfl) (by omega) ?_
    intro M5_1726 hM5_1726
    intro M6_1727 h_M6_1727
    have hM6_1727 : IM (b + 200) M6_1727 := by rw [h_M6_1727]; exact hM5_1726.up (by omega) (bm_c1_1.mpr (by omega))
    refine ⟨7, ?_⟩
    have u1728 : 0 ≤ M6_1727 1 1 ∧ M6_1727 1 1 ≤ 24 := bm_c1_1.mp (hM6_1727.bx _ _)
    have t1729 : M6_1727 1 1 = 0 := by rw [h_M6_1727, up2_s]
    refine sX12_ahead_L39 (b := b) (p1 := p1) hb ?_ _ _ _ (hM6_1727.mono (by omega)) (by omega) (by omega)
    · exact hQ
  · exact hQ _ _ (hM1_1719.mono (by omega))
theorem sX12_arrives_L21 {p1 : Int} {X39 : Int → Mem → Prop} {Q : Int → Mem → Prop} {b : Int} (hb : b + 201 ≤ 2000000000) (hQ : ∀ z : Int, ∀ M' : Mem, IM (b + 201) M' → Q z M') (hX39 : ∀ w1 : Int, ∀ M' : Mem, IM (b + 200) M' → (0 ≤ w1 ∧ w1 ≤ 200) → X39 w1 M') : ∀ (n : Nat) (v2 : Int) (M : Mem), IM (b + v2) M → (0 ≤ v2 ∧ v2 ≤ 201 ∧ 0 ≤ p1 ∧ p1 ≤ 5) → 201 - v2 < (n : Int) → qX12_arrives_L21 p1 X39 Q n v2 M := by
  intro n
  induction n with
  | zero => intro v2 M hI hv hm; exact absurd hm (by omega)
  | succ n ih =>
    intro v2 M hI hv hm
    rw [qX12_arrives_L21]
    have hbn := hI.nn
    refine ⟨(by first | assumption | exact (by omega)), ?_⟩
    refine ⟨fun c => ?_, fun c => ?_⟩
    · exact hQ _ _ (hI.mono (by omega))
    · refine sX12_isOn (p1 := p1) hI (Or.inr rfl) (by omega) ?_
      intro x7_1733 p1734 q1735 q1736
      refine ⟨fun c => ?_, fun c => ?_⟩
      · refine sX12_stepGoes  hI (by omega) (Or.inr rfl) ?_
        intro M9_1738 hM9_1738
        exact ih _ _ (hM9_1738.mono (by omega)) (by omega) (by omega)
      · exact hX39 _ _ (hI.mono (by omega)) (by omega)
theorem sX12_arrives {p1 : Int} {b : Int} {M : Mem} {Q : Int → Mem → Prop} (hI : IM b M) (hb : b + 201 ≤ 2000000000) (hQ : ∀ z : Int, ∀ M' : Mem, IM (b + 201) M' → Q z M') : qX12_arrives p1 M Q := by
  unfold qX12_arrives
  have hbn := hI.nn
  intro M1_1740 h_M1_1740
  have hM1_1740 : IM (b) M1_1740 := by rw [h_M1_1740]; exact hI.up (by omega) (by simp [BM])
  refine sX12_isHearse (p1 := p1) hM1_1740  ?_
  intro x2_1741 p1742 q1743 q1744
  refine ⟨fun c => ?_, fun c => ?_⟩
  · refine sX12_copies  hM1_1740  ?_
    intro M4_1746 hM4_1746
    refine ⟨202, ?_⟩
    refine sX12_arrives_L21 (b := b) (p1 := p1) hb ?_ ?_ _ _ _ (hM4_1746.mono (by omega)) (by omega) (by omega)
    · exact hQ
    · intro v2_1747 M_1748 hM_1748 p1749
      intro M11_1750 h_M11_1750
      have hM11_1750 : IM (b + 200) M11_1750 := by rw [h_M11_1750]; exact hM_1748.up (by omega) (bm_c1_1.mpr (by omega))
      refine ⟨by omega, ?_⟩
      refine ⟨by omega, ?_⟩
      intro x14_1751 ex14_1751 rx14_1751
      have bx14_1751 : -2147483648 ≤ x14_1751 ∧ x14_1751 ≤ 2147483647 := rx14_1751
      have fx14_1751 : x14_1751 = M_1748 6 (6 + p1) := by rw [ex14_1751, h_M11_1750, up2_n (by decide)]
      have u1752 : 0 ≤ M11_1750 1 1 ∧ M11_1750 1 1 ≤ 24 := bm_c1_1.mp (hM11_1750.bx _ _)
      have t1753 : M11_1750 1 1 = 0 := by rw [h_M11_1750, up2_s]
      refine sX12_enters (p1 := x14_1751) hM11_1750 (by omega) ?_
      intro M15_1754 hM15_1754 p1755
      refine ⟨(by first | assumption | exact (by omega)), ?_⟩
      exact hQ _ _ (hM15_1754.mono (by omega))
  · exact hQ _ _ (hM1_1740.mono (by omega))
theorem sX12_jam_L36 {p1 : Int} {X71 : Int → Mem → Prop} {Q : Int → Mem → Prop} {b : Int} (hb : b + 200 ≤ 2000000000) (hQ : ∀ z : Int, ∀ M' : Mem, IM (b + 200) M' → Q z M') (hX71 : ∀ w1 : Int, ∀ M' : Mem, IM (b + 200) M' → (0 ≤ w1 ∧ w1 ≤ 29) → X71 w1 M') : ∀ (n : Nat) (v2 v3 : Int) (M : Mem), IM (b + 200) M → (0 ≤ v2 ∧ v2 ≤ 29 ∧ 0 ≤ v3 ∧ v3 ≤ 30) → 30 - v3 < (n : Int) → qX12_jam_L36 p1 X71 Q n v2 v3 M := by
  intro n
  induction n with
  | zero => intro v2 v3 M hI hv hm; exact absurd hm (by omega)
  | succ n ih =>
    intro v2 v3 M hI hv hm
    rw [qX12_jam_L36]
    have hbn := hI.nn
    intro x6_1757 ex6_1757 rx6_1757
    have bx6_1757 : 4 ≤ x6_1757 ∧ x6_1757 ≤ 30 := by rw [ex6_1757]; exact bm_c1_3.mp (hI.bx _ _)
    refine ⟨(by first | assumption | exact (by omega)), ?_⟩
    refine ⟨fun c => ?_, fun c => ?_⟩
    · exact hX71 _ _ (hI.mono (by omega)) (by omega)
    · refine ⟨by omega, ?_⟩
      refine ⟨by omega, ?_⟩
      intro x11_1760 ex11_1760 rx11_1760
      have bx11_1760 : -2147483648 ≤ x11_1760 ∧ x11_1760 ≤ 2147483647 := rx11_1760
      refine ⟨by omega, ?_⟩
      refine ⟨by omega, ?_⟩
      intro x14_1761 ex14_1761 rx14_1761
      have bx14_1761 : -2147483648 ≤ x14_1761 ∧ x14_1761 ≤ 2147483647 := rx14_1761
      refine ⟨fun c => ?_, fun c => ?_⟩
      · exact ih _ _ _ (hI.mono (by omega)) (by omega) (by omega)
      · exact ih _ _ _ (hI.mono (by omega)) (by omega) (by omega)
theorem sX12_jam {p1 : Int} {b : Int} {M : Mem} {Q : Int → Mem → Prop} (hI : IM b M) (hb : b + 200 ≤ 2000000000) (hQ : ∀ z : Int, ∀ M' : Mem, IM (b + 200) M' → Q z M') : qX12_jam p1 M Q := by
  unfold qX12_jam
  have hbn := hI.nn
  intro M1_1764 h_M1_1764
  have hM1_1764 : IM (b) M1_1764 := by rw [h_M1_1764]; exact hI.up (by omega) (by simp [BM])
  refine sX12_in (p0 := p1) (p2 := 1) (p4 := 60) hM1_1764  ?_
  intro x2_1765 p1766 q1767 q1768
  refine ⟨fun c => ?_, fun c => ?_⟩
  · refine sX12_copies  hM1_1764  ?_
    intro M4_1770 hM4_1770
    refine sX12_goesOn (p2 := p1) hM4_1770 (by omega) (Or.inr rfl) (by omega) ?_
    intro M5_1771 hM5_1771
    refine ⟨31, ?_⟩
    refine sX12_jam_L36 (b := b) (p1 := p1) hb ?_ ?_ _ _ _ _ (hM5_1771.mono (by omega)) (by omega) (by omega)
    · exact hQ
    · intro v2_1772 M_1773 hM_1773 p1774
      intro M17_1775 h_M17_1775
      have hM17_1775 : IM (b + 200) M17_1775 := by rw [h_M17_1775]; exact hM_1773.up (by omega) (bm_c1_1.mpr (by omega))
      refine ⟨by omega, ?_⟩
      refine ⟨by omega, ?_⟩
      intro x20_1776 ex20_1776 rx20_1776
      have bx20_1776 : -2147483648 ≤ x20_1776 ∧ x20_1776 ≤ 2147483647 := rx20_1776
      have fx20_1776 : x20_1776 = M_1773 16 v2_1772 := by rw [ex20_1776, h_M17_1775, up2_n (by decide)]
      have u1777 : 0 ≤ M17_1775 1 1 ∧ M17_1775 1 1 ≤ 24 := bm_c1_1.mp (hM17_1775.bx _ _)
      have t1778 : M17_1775 1 1 = 0 := by rw [h_M17_1775, up2_s]
      refine sX12_enters (p1 := x20_1776) hM17_1775 (by omega) ?_
      intro M21_1779 hM21_1779 p1780
      intro x22_1781 ex22_1781 rx22_1781
      have bx22_1781 : -2147483648 ≤ x22_1781 ∧ x22_1781 ≤ 2147483647 := rx22_1781
      have u1782 : 0 ≤ M21_1779 1 1 ∧ M21_1779 1 1 ≤ 24 := bm_c1_1.mp (hM21_1779.bx _ _)
      refine sX12_enters (p1 := x22_1781) hM21_1779 (by omega) ?_
      intro M23_1783 hM23_1783 p1784
      refine ⟨(by first | assumption | exact (by omega)), ?_⟩
      exact hQ _ _ (hM23_1783.mono (by omega))
  · exact hQ _ _ (hM1_1764.mono (by omega))
theorem sX12_isAhead {k0 : Nat} {p1 : Int} {p2 : Int} {b : Int} {M : Mem} {Q : Int → Mem → Prop} (hI : IM b M) (hk0 : isN k0) (hp : 0 ≤ p1 ∧ p1 ≤ 5 ∧ 0 ≤ p2 ∧ p2 ≤ 5) (hQ : ∀ z : Int, Q z M) : qX12_isAhead k0 p1 p2 M Q := by
  unfold qX12_isAhead
  have hbn := hI.nn
  have ek0 : k0 = 5 ∨ k0 = 6 := hk0
  refine sX12_isOn (p1 := p1) hI hk0 (by omega) ?_
  intro x1_1786 p1787 q1788 q1789
  refine ⟨fun c => ?_, fun c => ?_⟩
  · refine sX12_isOn (p1 := p2) hI hk0 (by omega) ?_
    intro x3_1791 p1792 q1793 q1794
    refine ⟨fun c => ?_, fun c => ?_⟩
    · exact hQ _
    · refine ⟨by omega, ?_⟩
      refine ⟨by omega, ?_⟩
      intro x7_1797 ex7_1797 rx7_1797
      have bx7_1797 : -2147483648 ≤ x7_1797 ∧ x7_1797 ≤ 2147483647 := rx7_1797
      refine ⟨by omega, ?_⟩
      refine ⟨by omega, ?_⟩
      intro x10_1798 ex10_1798 rx10_1798
      have bx10_1798 : -2147483648 ≤ x10_1798 ∧ x10_1798 ≤ 2147483647 := rx10_1798
      refine ⟨fun c => ?_, fun c => ?_⟩
      · exact hQ _
      · exact hQ _
  · refine sX12_isOn (p1 := p2) hI hk0 (by omega) ?_
    intro x12_1802 p1803 q1804 q1805
    refine ⟨fun c => ?_, fun c => ?_⟩
    · exact hQ _
    · refine ⟨by omega, ?_⟩
      refine ⟨by omega, ?_⟩
      intro x16_1808 ex16_1808 rx16_1808
      have rbx16_1808 : -2147483648 ≤ x16_1808 ∧ x16_1808 ≤ 2147483647 := rx16_1808
      have nbx16_1808 : BN (b) p1 x16_1808 := by rw [ex16_1808]; exact (bm_n hk0).mp (hI.bx _ _)
      first | (have bx16_1808 : -1 ≤ x16_1808 ∧ x16_1808 ≤ 29 := nbx16_1808.1 (by omega)) | (have bx16_1808 : -1 ≤ x16_1808 ∧ x16_1808 ≤ 29 := nbx16_1808.2.1 (by omega)) | skip
      refine ⟨by omega, ?_⟩
      refine ⟨by omega, ?_⟩
      intro x19_1809 ex19_1809 rx19_1809
      have rbx19_1809 : -2147483648 ≤ x19_1809 ∧ x19_1809 ≤ 2147483647 := rx19_1809
      have nbx19_1809 : BN (b) p2 x19_1809 := by rw [ex19_1809]; exact (bm_n hk0).mp (hI.bx _ _)
      first | (have bx19_1809 : -1 ≤ x19_1809 ∧ x19_1809 ≤ 29 := nbx19_1809.1 (by omega)) | (have bx19_1809 : -1 ≤ x19_1809 ∧ x19_1809 ≤ 29 := nbx19_1809.2.1 (by omega)) | skip
      refine ⟨fun c => ?_, fun c => ?_⟩
      · exact hQ _
      · exact hQ _
theorem sX12_passes_L71 {p1 : Int} {p2 : Int} {X97 : Int → Mem → Prop} {Q : Int → Mem → Prop} {b : Int} (hb : b + 62 ≤ 2000000000) (hQ : ∀ z : Int, ∀ M' : Mem, IM (b + 62) M' → Q z M') (hX97 : ∀ w1 : Int, ∀ M' : Mem, IM (b + 62) M' → (1 ≤ w1 ∧ w1 ≤ 61) → X97 w1 M') : ∀ (n : Nat) (v3 : Int) (M : Mem), IM (b + v3) M → (1 ≤ v3 ∧ v3 ≤ 61 ∧ 0 ≤ p1 ∧ p1 ≤ 5 ∧ 0 ≤ p2 ∧ p2 ≤ 5) → 61 - v3 < (n : Int) → qX12_passes_L71 p1 p2 X97 Q n v3 M := by
  intro n
  induction n with
  | zero => intro v3 M hI hv hm; exact absurd hm (by omega)
  | succ n ih =>
    intro v3 M hI hv hm
    rw [qX12_passes_L71]
    have hbn := hI.nn
    refine ⟨(by first | assumption | exact (by omega)), ?_⟩
    refine ⟨fun c => ?_, fun c => ?_⟩
    · exact hQ _ _ (hI.mono (by omega))
    · refine sX12_stepGoes  hI (by omega) (Or.inr rfl) ?_
      intro M16_1814 hM16_1814
      refine sX12_isAhead (p1 := p1) (p2 := p2) hM16_1814 (Or.inr rfl) (by omega) ?_
      intro x17_1815 q1816 q1817
      refine ⟨fun c => ?_, fun c => ?_⟩
      · exact ih _ _ (hM16_1814.mono (by omega)) (by omega) (by omega)
      · exact hX97 _ _ (hM16_1814.mono (by omega)) (by omega)
theorem sX12_passes {p1 : Int} {p2 : Int} {b : Int} {M : Mem} {Q : Int → Mem → Prop} (hI : IM b M) (hb : b + 62 ≤ 2000000000) (hQ : ∀ z : Int, ∀ M' : Mem, IM (b + 62) M' → Q z M') : qX12_passes p1 p2 M Q := by
  unfold qX12_passes
  have hbn := hI.nn
  intro M1_1820 h_M1_1820
  have hM1_1820 : IM (b) M1_1820 := by rw [h_M1_1820]; exact hI.up (by omega) (by simp [BM])
  refine sX12_isHearse (p1 := p1) hM1_1820  ?_
  intro x2_1821 p1822 q1823 q1824
  refine ⟨fun c => ?_, fun c => ?_⟩
  · exact hQ _ _ (hM1_1820.mono (by omega))
  · refine sX12_isHearse (p1 := p2) hM1_1820  ?_
    intro x4_1827 p1828 q1829 q1830
    refine ⟨fun c => ?_, fun c => ?_⟩
    · exact hQ _ _ (hM1_1820.mono (by omega))
    · refine ⟨fun c => ?_, fun c => ?_⟩
      · refine sX12_isOn (p1 := p1) hM1_1820 (Or.inl rfl) (by omega) ?_
        intro x7_1834 p1835 q1836 q1837
        refine ⟨fun c => ?_, fun c => ?_⟩
        · exact hQ _ _ (hM1_1820.mono (by omega))
        · refine sX12_isOn (p1 := p2) hM1_1820 (Or.inl rfl) (by omega) ?_
          intro x9_1840 p1841 q1842 q1843
          refine ⟨fun c => ?_, fun c => ?_⟩
          · exact hQ _ _ (hM1_1820.mono (by omega))
          · refine sX12_isAhead (p1 := p1) (p2 := p2) hM1_1820 (Or.inl rfl) (by omega) ?_
            intro x11_1846 q1847 q1848
            refine ⟨fun c => ?_, fun c => ?_⟩
            · refine sX12_copies  hM1_1820  ?_
              intro M13_1850 hM13_1850
              refine ⟨62, ?_⟩
              refine sX12_passes_L71 (b := b) (p1 := p1) (p2 := p2) hb ?_ ?_ _ _ _ (hM13_1850.mono (by omega)) (by omega) (by omega)
              · exact hQ
              · intro v3_1851 M_1852 hM_1852 p1853
                intro M20_1854 h_M20_1854
                have hM20_1854 : IM (b + 62) M20_1854 := by rw [h_M20_1854]; exact hM_1852.up (by omega) (bm_c1_1.mpr (by omega))
                refine ⟨by omega, ?_⟩
                refine ⟨by omega, ?_⟩
                intro x23_1855 ex23_1855 rx23_1855
                have rbx23_1855 : -2147483648 ≤ x23_1855 ∧ x23_1855 ≤ 2147483647 := rx23_1855
                have nbx23_1855 : BN (b + 62) p1 x23_1855 := by rw [ex23_1855]; exact (bm_n (Or.inr rfl)).mp (hM20_1854.bx _ _)
                first | (have bx23_1855 : -1 ≤ x23_1855 ∧ x23_1855 ≤ 29 := nbx23_1855.1 (by omega)) | (have bx23_1855 : -1 ≤ x23_1855 ∧ x23_1855 ≤ 29 := nbx23_1855.2.1 (by omega)) | skip
                have fx23_1855 : x23_1855 = M_1852 6 p1 := by rw [ex23_1855, h_M20_1854, up2_n (by decide)]
                have u1856 : 0 ≤ M20_1854 1 1 ∧ M20_1854 1 1 ≤ 24 := bm_c1_1.mp (hM20_1854.bx _ _)
                have t1857 : M20_1854 1 1 = 0 := by rw [h_M20_1854, up2_s]
                refine sX12_enters (p1 := x23_1855) hM20_1854 (by omega) ?_
                intro M24_1858 hM24_1858 p1859
                refine ⟨(by first | assumption | exact (by omega)), ?_⟩
                exact hQ _ _ (hM24_1858.mono (by omega))
            · exact hQ _ _ (hM1_1820.mono (by omega))
      · exact hQ _ _ (hM1_1820.mono (by omega))
theorem sX12_ends_L30 {p1 : Int} {X48 : Int → Mem → Prop} {Q : Int → Mem → Prop} {b : Int} (hb : b + 402 ≤ 2000000000) (hQ : ∀ z : Int, ∀ M' : Mem, IM (b + 402) M' → Q z M') (hX48 : ∀ w1 : Int, ∀ M' : Mem, IM (b + 402) M' → (0 ≤ w1 ∧ w1 ≤ 200) → X48 w1 M') : ∀ (n : Nat) (v2 : Int) (M : Mem), IM (b + 200 + v2) M → (0 ≤ v2 ∧ v2 ≤ 201 ∧ 0 ≤ p1 ∧ p1 ≤ 7) → 201 - v2 < (n : Int) → qX12_ends_L30 p1 X48 Q n v2 M := by
  intro n
  induction n with
  | zero => intro v2 M hI hv hm; exact absurd hm (by omega)
  | succ n ih =>
    intro v2 M hI hv hm
    rw [qX12_ends_L30]
    have hbn := hI.nn
    refine ⟨(by first | assumption | exact (by omega)), ?_⟩
    refine ⟨fun c => ?_, fun c => ?_⟩
    · exact hQ _ _ (hI.mono (by omega))
    · refine sX12_isEnded (p1 := p1) hI (Or.inr rfl) (by omega) ?_
      intro x8_1864 q1865 q1866
      refine ⟨fun c => ?_, fun c => ?_⟩
      · refine sX12_stepGoes  hI (by omega) (Or.inr rfl) ?_
        intro M10_1868 hM10_1868
        exact ih _ _ (hM10_1868.mono (by omega)) (by omega) (by omega)
      · exact hX48 _ _ (hI.mono (by omega)) (by omega)
theorem sX12_ends {p1 : Int} {b : Int} {M : Mem} {Q : Int → Mem → Prop} (hI : IM b M) (hb : b + 402 ≤ 2000000000) (hQ : ∀ z : Int, ∀ M' : Mem, IM (b + 402) M' → Q z M') : qX12_ends p1 M Q := by
  unfold qX12_ends
  have hbn := hI.nn
  intro M1_1870 h_M1_1870
  have hM1_1870 : IM (b) M1_1870 := by rw [h_M1_1870]; exact hI.up (by omega) (by simp [BM])
  refine sX12_isMourner (p1 := p1) hM1_1870  ?_
  intro x2_1871 p1872 q1873 q1874
  refine ⟨fun c => ?_, fun c => ?_⟩
  · refine sX12_copies  hM1_1870  ?_
    intro M4_1876 hM4_1876
    refine sX12_goesOn (p2 := 0) hM4_1876 (by omega) (Or.inr rfl) (by omega) ?_
    intro M5_1877 hM5_1877
    refine ⟨202, ?_⟩
    refine sX12_ends_L30 (b := b) (p1 := p1) hb ?_ ?_ _ _ _ (hM5_1877.mono (by omega)) (by omega) (by omega)
    · exact hQ
    · intro v2_1878 M_1879 hM_1879 p1880
      intro M12_1881 h_M12_1881
      have hM12_1881 : IM (b + 402) M12_1881 := by rw [h_M12_1881]; exact hM_1879.up (by omega) (bm_c1_1.mpr (by omega))
      refine ⟨(by first | assumption | exact (by omega)), ?_⟩
      have u1882 : 0 ≤ M12_1881 1 1 ∧ M12_1881 1 1 ≤ 24 := bm_c1_1.mp (hM12_1881.bx _ _)
      have t1883 : M12_1881 1 1 = 0 := by rw [h_M12_1881, up2_s]
      refine sX12_enters (p1 := v2_1878) hM12_1881 (by omega) ?_
      intro M14_1884 hM14_1884 p1885
      refine ⟨by omega, ?_⟩
      refine ⟨by omega, ?_⟩
      intro x17_1886 ex17_1886 rx17_1886
      have bx17_1886 : -2147483648 ≤ x17_1886 ∧ x17_1886 ≤ 2147483647 := rx17_1886
      have u1887 : 0 ≤ M14_1884 1 1 ∧ M14_1884 1 1 ≤ 24 := bm_c1_1.mp (hM14_1884.bx _ _)
      refine sX12_enters (p1 := x17_1886) hM14_1884 (by omega) ?_
      intro M18_1888 hM18_1888 p1889
      refine ⟨by omega, ?_⟩
      refine ⟨by omega, ?_⟩
      intro x21_1890 ex21_1890 rx21_1890
      have bx21_1890 : -2147483648 ≤ x21_1890 ∧ x21_1890 ≤ 2147483647 := rx21_1890
      exact hQ _ _ (hM18_1888.mono (by omega))
  · exact hQ _ _ (hM1_1870.mono (by omega))
theorem sX12_endedBy_L5 {k1 : Nat} {p2 : Int}  {Q : Int → Mem → Prop} {b : Int} {M0 : Mem} (hk1 : isN k1) (hQ : ∀ z : Int, Q z M0) : ∀ (n : Nat) (v3 v4 : Int), IM (b) M0 → (0 ≤ v4 ∧ v4 ≤ 8) → iR v3 → 8 - v4 < (n : Int) → qX12_endedBy_L5 k1 p2 Q n v3 v4 M0 := by
  intro n
  induction n with
  | zero => intro v3 v4 hI hv hrv3 hm; exact absurd hm (by omega)
  | succ n ih =>
    intro v3 v4 hI hv hrv3 hm
    rw [qX12_endedBy_L5]
    have hbn := hI.nn
    have ek1 : k1 = 5 ∨ k1 = 6 := hk1
    intro x1_1892 ex1_1892 rx1_1892
    have bx1_1892 : 0 ≤ x1_1892 ∧ x1_1892 ≤ 8 := by rw [ex1_1892]; exact bm_c1_5.mp (hI.bx _ _)
    refine ⟨(by first | assumption | exact (by omega)), ?_⟩
    refine ⟨fun c => ?_, fun c => ?_⟩
    · refine ⟨(by first | assumption | exact (by omega)), ?_⟩
      exact hQ _
    · refine sX12_isEnded (p1 := v4) hI hk1 (by omega) ?_
      intro x5_1895 q1896 q1897
      refine ⟨fun c => ?_, fun c => ?_⟩
      · intro x7_1899 ex7_1899 rx7_1899
        first | (have fx7_1899 := oI_64 (a := v3) (b := 0) (by omega) (by omega); rw [← ex7_1899] at fx7_1899) | skip
        exact ih _ _ (hI.mono (by omega)) (by omega) (by first | assumption | exact (by omega)) (by omega)
      · refine ⟨by omega, ?_⟩
        refine ⟨by omega, ?_⟩
        intro x10_1901 ex10_1901 rx10_1901
        have bx10_1901 : -2147483648 ≤ x10_1901 ∧ x10_1901 ≤ 2147483647 := rx10_1901
        refine ⟨by omega, ?_⟩
        refine ⟨by omega, ?_⟩
        intro x13_1902 ex13_1902 rx13_1902
        have bx13_1902 : 0 ≤ x13_1902 ∧ x13_1902 ≤ 5 := by rw [ex13_1902]; exact bm_c3.mp (hI.bx _ _)
        refine ⟨fun c => ?_, fun c => ?_⟩
        · unfold qX12_endedBy_J46
          refine ⟨(by first | assumption | exact (by omega)), ?_⟩
          refine ⟨fun c => ?_, fun c => ?_⟩
          · intro x17_1905 ex17_1905 rx17_1905
            first | (have fx17_1905 := oI_64 (a := v3) (b := 0) (by omega) (by omega); rw [← ex17_1905] at fx17_1905) | skip
            exact ih _ _ (hI.mono (by omega)) (by omega) (by first | assumption | exact (by omega)) (by omega)
          · intro x18_1907 ex18_1907 rx18_1907
            first | (have fx18_1907 := slI_1 (b := v4) (by omega); rw [← ex18_1907] at fx18_1907) | skip
            intro x19_1908 ex19_1908 rx19_1908
            first | (have fx19_1908 := oI_64 (a := v3) (b := x18_1907) (by omega) (by omega); rw [← ex19_1908] at fx19_1908) | skip
            exact ih _ _ (hI.mono (by omega)) (by omega) (by first | assumption | exact (by omega)) (by omega)
        · unfold qX12_endedBy_J46
          refine ⟨(by first | assumption | exact (by omega)), ?_⟩
          refine ⟨fun c => ?_, fun c => ?_⟩
          · intro x17_1911 ex17_1911 rx17_1911
            first | (have fx17_1911 := oI_64 (a := v3) (b := 0) (by omega) (by omega); rw [← ex17_1911] at fx17_1911) | skip
            exact ih _ _ (hI.mono (by omega)) (by omega) (by first | assumption | exact (by omega)) (by omega)
          · intro x18_1913 ex18_1913 rx18_1913
            first | (have fx18_1913 := slI_1 (b := v4) (by omega); rw [← ex18_1913] at fx18_1913) | skip
            intro x19_1914 ex19_1914 rx19_1914
            first | (have fx19_1914 := oI_64 (a := v3) (b := x18_1913) (by omega) (by omega); rw [← ex19_1914] at fx19_1914) | skip
            exact ih _ _ (hI.mono (by omega)) (by omega) (by first | assumption | exact (by omega)) (by omega)
