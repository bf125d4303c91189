theorem sX12_nearest {k1 : Nat} {p2 : Int} {b : Int} {M : Mem} {Q : Int → Mem → Prop} (hI : IM b M) (hk1 : isN k1) (hp : -1 ≤ p2 ∧ p2 ≤ 29) (hQ : ∀ z : Int, (-1 ≤ z ∧ z ≤ 5 ∧ (0 ≤ z → 0 ≤ M k1 z)) → Q z M) : qX12_nearest k1 p2 M Q := by
  unfold qX12_nearest
  have hbn := hI.nn
  have ek1 : k1 = 5 ∨ k1 = 6 := hk1
  refine ⟨7, ?_⟩
  refine sX12_nearest_L5 (b := b) (p2 := p2) (M0 := M) hk1 hp ?_ _ _ _ (hI.mono (by omega)) (by omega) (by omega)
  · exact hQ
theorem sX12_mourner {p1 : Int} {p2 : Int} {b : Int} {M : Mem} {Q : Int → Mem → Prop} (hI : IM b M) (hQ : ∀ z : Int, ∀ M' : Mem, IM b M' → Q z M') : qX12_mourner p1 p2 M Q := by
  unfold qX12_mourner
  have hbn := hI.nn
  intro M1_756 h_M1_756
  have hM1_756 : IM (b) M1_756 := by rw [h_M1_756]; exact hI.up (by omega) (by simp [BM])
  refine sX12_isMourner (p1 := p1) hM1_756  ?_
  intro x2_757 p758 q759 q760
  refine ⟨fun c => ?_, fun c => ?_⟩
  · unfold qX12_mourner_J25
    refine sX12_refuse  hM1_756  ?_
    intro x4_762 M4_763 hM4_763 q764
    exact hQ _ _ (hM4_763.mono (by omega))
  · refine sX12_in (p0 := p2) (p2 := 0) (p4 := 4) hM1_756  ?_
    intro x5_766 p767 q768 q769
    refine ⟨fun c => ?_, fun c => ?_⟩
    · refine ⟨fun c => ?_, fun c => ?_, fun c => ?_, fun c => ?_, fun c => ?_⟩
      · refine ⟨by omega, ?_⟩
        refine ⟨by omega, ?_⟩
        intro x10_772 ex10_772 rx10_772
        have rbx10_772 : -2147483648 ≤ x10_772 ∧ x10_772 ≤ 2147483647 := rx10_772
        first | (have bx10_772 : -1 ≤ x10_772 ∧ x10_772 ≤ 29 := by rw [ex10_772]; exact ((bm_n (Or.inl rfl)).mp (hM1_756.bx _ _)).2.1 ⟨by omega, by omega⟩) | skip
        have fx10_772 : x10_772 = M 5 (13 + p1) := by rw [ex10_772, h_M1_756, up2_n (by decide)]
        exact hQ _ _ (hM1_756.mono (by omega))
      · refine ⟨by omega, ?_⟩
        refine ⟨by omega, ?_⟩
        intro x13_774 ex13_774 rx13_774
        have bx13_774 : 0 ≤ x13_774 ∧ x13_774 ≤ 5 := by rw [ex13_774]; exact bm_c3.mp (hM1_756.bx _ _)
        have fx13_774 : x13_774 = M 3 p1 := by rw [ex13_774, h_M1_756, up2_n (by decide)]
        exact hQ _ _ (hM1_756.mono (by omega))
      · refine ⟨by omega, ?_⟩
        refine ⟨by omega, ?_⟩
        intro x16_776 ex16_776 rx16_776
        have rbx16_776 : -2147483648 ≤ x16_776 ∧ x16_776 ≤ 2147483647 := rx16_776
        first | (have bx16_776 : -1 ≤ x16_776 ∧ x16_776 ≤ 5 := by rw [ex16_776]; exact ((bm_n (Or.inl rfl)).mp (hM1_756.bx _ _)).2.2.1 ⟨by omega, by omega⟩) | skip
        have fx16_776 : x16_776 = M 5 (21 + p1) := by rw [ex16_776, h_M1_756, up2_n (by decide)]
        exact hQ _ _ (hM1_756.mono (by omega))
      · refine ⟨by omega, ?_⟩
        refine ⟨by omega, ?_⟩
        intro x19_778 ex19_778 rx19_778
        have bx19_778 : -2147483648 ≤ x19_778 ∧ x19_778 ≤ 2147483647 := rx19_778
        have fx19_778 : x19_778 = M 5 (29 + p1) := by rw [ex19_778, h_M1_756, up2_n (by decide)]
        exact hQ _ _ (hM1_756.mono (by omega))
      · refine ⟨by omega, ?_⟩
        refine ⟨by omega, ?_⟩
        intro x22_780 ex22_780 rx22_780
        have rbx22_780 : -2147483648 ≤ x22_780 ∧ x22_780 ≤ 2147483647 := rx22_780
        first | (have bx22_780 : -1 ≤ x22_780 ∧ x22_780 ≤ 29 := by rw [ex22_780]; exact ((bm_n (Or.inl rfl)).mp (hM1_756.bx _ _)).2.1 ⟨by omega, by omega⟩) | skip
        have fx22_780 : x22_780 = M 5 (13 + p1) := by rw [ex22_780, h_M1_756, up2_n (by decide)]
        refine sX12_nearest (p2 := x22_780) hM1_756 (Or.inl rfl) (by omega) ?_
        intro x23_781 p782 q783
        exact hQ _ _ (hM1_756.mono (by omega))
    · unfold qX12_mourner_J25
      refine sX12_refuse  hM1_756  ?_
      intro x4_785 M4_786 hM4_786 q787
      exact hQ _ _ (hM4_786.mono (by omega))
theorem sX12_isEnded {k0 : Nat} {p1 : Int} {b : Int} {M : Mem} {Q : Int → Mem → Prop} (hI : IM b M) (hk0 : isN k0) (hp : 0 ≤ p1 ∧ p1 ≤ 7) (hQ : ∀ z : Int, Q z M) : qX12_isEnded k0 p1 M Q := by
  unfold qX12_isEnded
  have hbn := hI.nn
  have ek0 : k0 = 5 ∨ k0 = 6 := hk0
  refine ⟨by omega, ?_⟩
  refine ⟨by omega, ?_⟩
  intro x3_788 ex3_788 rx3_788
  have bx3_788 : -2147483648 ≤ x3_788 ∧ x3_788 ≤ 2147483647 := rx3_788
  refine ⟨fun c => ?_, fun c => ?_⟩
  · exact hQ _
  · exact hQ _
theorem sX12_sheet_L46 {p1 : Int} {p2 : Int} {p3 : Int} {p4 : Int} {X177 : Int → Mem → Prop} {Q : Int → Mem → Prop} {b : Int} (hp : -2147483648 ≤ p3 ∧ p3 ≤ 2147483647) (hQ : ∀ z : Int, ∀ M' : Mem, IM b M' → Q z M') (hX177 : ∀ w1 : Int, ∀ M' : Mem, IM (b) M' → iR w1 → X177 w1 M') : ∀ (n : Nat) (v5 v6 v7 : Int) (M : Mem), IM (b) M → (0 ≤ v7 ∧ v7 ≤ 8) → iR v5 → iR v6 → 8 - v7 < (n : Int) → qX12_sheet_L46 p1 p2 p3 p4 X177 Q n v5 v6 v7 M := by
  intro n
  induction n with
  | zero => intro v5 v6 v7 M hI hv hrv5 hrv6 hm; exact absurd hm (by omega)
  | succ n ih =>
    intro v5 v6 v7 M hI hv hrv5 hrv6 hm
    rw [qX12_sheet_L46]
    have hbn := hI.nn
    intro x6_791 ex6_791 rx6_791
    have bx6_791 : 0 ≤ x6_791 ∧ x6_791 ≤ 8 := by rw [ex6_791]; exact bm_c1_5.mp (hI.bx _ _)
    refine ⟨(by first | assumption | exact ⟨by omega, by omega⟩), ?_⟩
    refine ⟨fun c => ?_, fun c => ?_⟩
    · exact hX177 _ _ (hI.mono (by omega)) (by first | assumption | exact ⟨by omega, by omega⟩)
    · refine ⟨fun c => ?_, fun c => ?_⟩
      · refine ⟨fun c => ?_, fun c => ?_⟩
        · unfold qX12_sheet_J78
          refine ⟨fun c => ?_, fun c => ?_⟩
          · unfold qX12_sheet_J91
            unfold qX12_sheet_J110
            intro x12_797 ex12_797 rx12_797
            first | (have fx12_797 : x12_797 = 13 + v7 := by rw [ex12_797]; exact w32_id ⟨by omega, by omega⟩) | skip
            refine ⟨(by first | assumption | exact ⟨by omega, by omega⟩), ?_⟩
            refine sX12_isEnded (p1 := v7) hI (Or.inl rfl) (by omega) ?_
            intro x14_798 q799 q800
            refine ⟨fun c => ?_, fun c => ?_⟩
            · unfold qX12_sheet_J148
              refine ⟨by omega, ?_⟩
              refine ⟨by omega, ?_⟩
              refine ⟨(by first | assumption | exact ⟨by omega, by omega⟩), ?_⟩
              intro M19_802 h_M19_802
              have hM19_802 : IM (b) M19_802 := by rw [h_M19_802]; exact hI.up (by omega) ((bm_n (Or.inl rfl)).mpr (by first | assumption | exact ⟨by omega, by omega, by omega, by omega⟩))
              intro x20_803 ex20_803 rx20_803
              first | (have fx20_803 : x20_803 = 13 + v7 := by rw [ex20_803]; exact w32_id ⟨by omega, by omega⟩) | skip
              refine ⟨by omega, ?_⟩
              refine ⟨by omega, ?_⟩
              intro x23_804 ex23_804 rx23_804
              have rbx23_804 : -2147483648 ≤ x23_804 ∧ x23_804 ≤ 2147483647 := rx23_804
              have nbx23_804 : BN (b) x20_803 x23_804 := by rw [ex23_804]; exact (bm_n (Or.inl rfl)).mp (hM19_802.bx _ _)
              first | (have bx23_804 : -1 ≤ x23_804 ∧ x23_804 ≤ 29 := nbx23_804.1 ⟨by omega, by omega⟩) | (have bx23_804 : -1 ≤ x23_804 ∧ x23_804 ≤ 29 := nbx23_804.2.1 ⟨by omega, by omega⟩) | skip
              intro x24_805 ex24_805 rx24_805
              first | (have fx24_805 : x24_805 = v5 + x23_804 := by rw [ex24_805]; exact w32_id ⟨by omega, by omega⟩) | skip
              intro x25_806 ex25_806 rx25_806
              first | (have fx25_806 : x25_806 = v6 + p4 := by rw [ex25_806]; exact w32_id ⟨by omega, by omega⟩) | skip
              exact ih _ _ _ _ (hM19_802.mono (by omega)) (by omega) (by first | assumption | exact ⟨by omega, by omega⟩) (by first | assumption | exact ⟨by omega, by omega⟩) (by omega)
            · intro x26_808 ex26_808 rx26_808
              first | (have fx26_808 : x26_808 = 13 + v7 := by rw [ex26_808]; exact w32_id ⟨by omega, by omega⟩) | skip
              refine ⟨by omega, ?_⟩
              refine ⟨by omega, ?_⟩
              intro x29_809 ex29_809 rx29_809
              have rbx29_809 : -2147483648 ≤ x29_809 ∧ x29_809 ≤ 2147483647 := rx29_809
              have nbx29_809 : BN (b) x26_808 x29_809 := by rw [ex29_809]; exact (bm_n (Or.inl rfl)).mp (hI.bx _ _)
              first | (have bx29_809 : -1 ≤ x29_809 ∧ x29_809 ≤ 29 := nbx29_809.1 ⟨by omega, by omega⟩) | (have bx29_809 : -1 ≤ x29_809 ∧ x29_809 ≤ 29 := nbx29_809.2.1 ⟨by omega, by omega⟩) | skip
              unfold qX12_sheet_J148
              refine ⟨by omega, ?_⟩
              refine ⟨by omega, ?_⟩
              refine ⟨(by first | assumption | exact ⟨by omega, by omega⟩), ?_⟩
              intro M19_810 h_M19_810
              have hM19_810 : IM (b) M19_810 := by rw [h_M19_810]; exact hI.up (by omega) ((bm_n (Or.inl rfl)).mpr (by first | assumption | exact ⟨by omega, by omega, by omega, by omega⟩))
              intro x20_811 ex20_811 rx20_811
              first | (have fx20_811 : x20_811 = 13 + v7 := by rw [ex20_811]; exact w32_id ⟨by omega, by omega⟩) | skip
              refine ⟨by omega, ?_⟩
              refine ⟨by omega, ?_⟩
              intro x23_812 ex23_812 rx23_812
              have rbx23_812 : -2147483648 ≤ x23_812 ∧ x23_812 ≤ 2147483647 := rx23_812
              have nbx23_812 : BN (b) x20_811 x23_812 := by rw [ex23_812]; exact (bm_n (Or.inl rfl)).mp (hM19_810.bx _ _)
              first | (have bx23_812 : -1 ≤ x23_812 ∧ x23_812 ≤ 29 := nbx23_812.1 ⟨by omega, by omega⟩) | (have bx23_812 : -1 ≤ x23_812 ∧ x23_812 ≤ 29 := nbx23_812.2.1 ⟨by omega, by omega⟩) | skip
              intro x24_813 ex24_813 rx24_813
              first | (have fx24_813 : x24_813 = v5 + x23_812 := by rw [ex24_813]; exact w32_id ⟨by omega, by omega⟩) | skip
              intro x25_814 ex25_814 rx25_814
              first | (have fx25_814 : x25_814 = v6 + p4 := by rw [ex25_814]; exact w32_id ⟨by omega, by omega⟩) | skip
              exact ih _ _ _ _ (hM19_810.mono (by omega)) (by omega) (by first | assumption | exact ⟨by omega, by omega⟩) (by first | assumption | exact ⟨by omega, by omega⟩) (by omega)
          · refine ⟨(by first | assumption | exact ⟨by omega, by omega⟩), ?_⟩
            refine ⟨fun c => ?_, fun c => ?_⟩
            · refine sX12_gate  hI  ?_
              intro x32_817 p818 q819
              intro x33_820 ex33_820 rx33_820
              first | (have fx33_820 : x33_820 = x32_817 - 1 := by rw [ex33_820]; exact w32_id ⟨by omega, by omega⟩) | skip
              refine ⟨(by first | assumption | exact ⟨by omega, by omega⟩), ?_⟩
              intro x35_821 ex35_821 rx35_821
              intro x36_822 ex36_822 rx36_822
              unfold qX12_sheet_J110
              intro x12_823 ex12_823 rx12_823
              first | (have fx12_823 : x12_823 = 13 + v7 := by rw [ex12_823]; exact w32_id ⟨by omega, by omega⟩) | skip
              refine ⟨(by first | assumption | exact ⟨by omega, by omega⟩), ?_⟩
              refine sX12_isEnded (p1 := v7) hI (Or.inl rfl) (by omega) ?_
              intro x14_824 q825 q826
              refine ⟨fun c => ?_, fun c => ?_⟩
              · unfold qX12_sheet_J148
                refine ⟨by omega, ?_⟩
                refine ⟨by omega, ?_⟩
                refine ⟨(by first | assumption | exact ⟨by omega, by omega⟩), ?_⟩
                intro M19_828 h_M19_828
                have hM19_828 : IM (b) M19_828 := by rw [h_M19_828]; exact hI.up (by omega) ((bm_n (Or.inl rfl)).mpr (by first | assumption | exact ⟨by omega, by omega, by omega, by omega⟩))
                intro x20_829 ex20_829 rx20_829
                first | (have fx20_829 : x20_829 = 13 + v7 := by rw [ex20_829]; exact w32_id ⟨by omega, by omega⟩) | skip
                refine ⟨by omega, ?_⟩
                refine ⟨by omega, ?_⟩
                intro x23_830 ex23_830 rx23_830
                have rbx23_830 : -2147483648 ≤ x23_830 ∧ x23_830 ≤ 2147483647 := rx23_830
                have nbx23_830 : BN (b) x20_829 x23_830 := by rw [ex23_830]; exact (bm_n (Or.inl rfl)).mp (hM19_828.bx _ _)
                first | (have bx23_830 : -1 ≤ x23_830 ∧ x23_830 ≤ 29 := nbx23_830.1 ⟨by omega, by omega⟩) | (have bx23_830 : -1 ≤ x23_830 ∧ x23_830 ≤ 29 := nbx23_830.2.1 ⟨by omega, by omega⟩) | skip
                intro x24_831 ex24_831 rx24_831
                first | (have fx24_831 : x24_831 = v5 + x23_830 := by rw [ex24_831]; exact w32_id ⟨by omega, by omega⟩) | skip
                intro x25_832 ex25_832 rx25_832
                first | (have fx25_832 : x25_832 = v6 + p4 := by rw [ex25_832]; exact w32_id ⟨by omega, by omega⟩) | skip
                exact ih _ _ _ _ (hM19_828.mono (by omega)) (by omega) (by first | assumption | exact ⟨by omega, by omega⟩) (by first | assumption | exact ⟨by omega, by omega⟩) (by omega)
              · intro x26_834 ex26_834 rx26_834
                first | (have fx26_834 : x26_834 = 13 + v7 := by rw [ex26_834]; exact w32_id ⟨by omega, by omega⟩) | skip
                refine ⟨by omega, ?_⟩
                refine ⟨by omega, ?_⟩
                intro x29_835 ex29_835 rx29_835
                have rbx29_835 : -2147483648 ≤ x29_835 ∧ x29_835 ≤ 2147483647 := rx29_835
                have nbx29_835 : BN (b) x26_834 x29_835 := by rw [ex29_835]; exact (bm_n (Or.inl rfl)).mp (hI.bx _ _)
                first | (have bx29_835 : -1 ≤ x29_835 ∧ x29_835 ≤ 29 := nbx29_835.1 ⟨by omega, by omega⟩) | (have bx29_835 : -1 ≤ x29_835 ∧ x29_835 ≤ 29 := nbx29_835.2.1 ⟨by omega, by omega⟩) | skip
                unfold qX12_sheet_J148
                refine ⟨by omega, ?_⟩
                refine ⟨by omega, ?_⟩
                refine ⟨(by first | assumption | exact ⟨by omega, by omega⟩), ?_⟩
                intro M19_836 h_M19_836
                have hM19_836 : IM (b) M19_836 := by rw [h_M19_836]; exact hI.up (by omega) ((bm_n (Or.inl rfl)).mpr (by first | assumption | exact ⟨by omega, by omega, by omega, by omega⟩))
                intro x20_837 ex20_837 rx20_837
                first | (have fx20_837 : x20_837 = 13 + v7 := by rw [ex20_837]; exact w32_id ⟨by omega, by omega⟩) | skip
                refine ⟨by omega, ?_⟩
                refine ⟨by omega, ?_⟩
                intro x23_838 ex23_838 rx23_838
                have rbx23_838 : -2147483648 ≤ x23_838 ∧ x23_838 ≤ 2147483647 := rx23_838
                have nbx23_838 : BN (b) x20_837 x23_838 := by rw [ex23_838]; exact (bm_n (Or.inl rfl)).mp (hM19_836.bx _ _)
                first | (have bx23_838 : -1 ≤ x23_838 ∧ x23_838 ≤ 29 := nbx23_838.1 ⟨by omega, by omega⟩) | (have bx23_838 : -1 ≤ x23_838 ∧ x23_838 ≤ 29 := nbx23_838.2.1 ⟨by omega, by omega⟩) | skip
                intro x24_839 ex24_839 rx24_839
                first | (have fx24_839 : x24_839 = v5 + x23_838 := by rw [ex24_839]; exact w32_id ⟨by omega, by omega⟩) | skip
                intro x25_840 ex25_840 rx25_840
                first | (have fx25_840 : x25_840 = v6 + p4 := by rw [ex25_840]; exact w32_id ⟨by omega, by omega⟩) | skip
                exact ih _ _ _ _ (hM19_836.mono (by omega)) (by omega) (by first | assumption | exact ⟨by omega, by omega⟩) (by first | assumption | exact ⟨by omega, by omega⟩) (by omega)
            · unfold qX12_sheet_J91
              unfold qX12_sheet_J110
              intro x12_842 ex12_842 rx12_842
              first | (have fx12_842 : x12_842 = 13 + v7 := by rw [ex12_842]; exact w32_id ⟨by omega, by omega⟩) | skip
              refine ⟨(by first | assumption | exact ⟨by omega, by omega⟩), ?_⟩
              refine sX12_isEnded (p1 := v7) hI (Or.inl rfl) (by omega) ?_
              intro x14_843 q844 q845
              refine ⟨fun c => ?_, fun c => ?_⟩
              · unfold qX12_sheet_J148
                refine ⟨by omega, ?_⟩
                refine ⟨by omega, ?_⟩
                refine ⟨(by first | assumption | exact ⟨by omega, by omega⟩), ?_⟩
                intro M19_847 h_M19_847
                have hM19_847 : IM (b) M19_847 := by rw [h_M19_847]; exact hI.up (by omega) ((bm_n (Or.inl rfl)).mpr (by first | assumption | exact ⟨by omega, by omega, by omega, by omega⟩))
                intro x20_848 ex20_848 rx20_848
                first | (have fx20_848 : x20_848 = 13 + v7 := by rw [ex20_848]; exact w32_id ⟨by omega, by omega⟩) | skip
                refine ⟨by omega, ?_⟩
                refine ⟨by omega, ?_⟩
                intro x23_849 ex23_849 rx23_849
                have rbx23_849 : -2147483648 ≤ x23_849 ∧ x23_849 ≤ 2147483647 := rx23_849
                have nbx23_849 : BN (b) x20_848 x23_849 := by rw [ex23_849]; exact (bm_n (Or.inl rfl)).mp (hM19_847.bx _ _)
                first | (have bx23_849 : -1 ≤ x23_849 ∧ x23_849 ≤ 29 := nbx23_849.1 ⟨by omega, by omega⟩) | (have bx23_849 : -1 ≤ x23_849 ∧ x23_849 ≤ 29 := nbx23_849.2.1 ⟨by omega, by omega⟩) | skip
                intro x24_850 ex24_850 rx24_850
                first | (have fx24_850 : x24_850 = v5 + x23_849 := by rw [ex24_850]; exact w32_id ⟨by omega, by omega⟩) | skip
                intro x25_851 ex25_851 rx25_851
                first | (have fx25_851 : x25_851 = v6 + p4 := by rw [ex25_851]; exact w32_id ⟨by omega, by omega⟩) | skip
                exact ih _ _ _ _ (hM19_847.mono (by omega)) (by omega) (by first | assumption | exact ⟨by omega, by omega⟩) (by first | assumption | exact ⟨by omega, by omega⟩) (by omega)
              · intro x26_853 ex26_853 rx26_853
                first | (have fx26_853 : x26_853 = 13 + v7 := by rw [ex26_853]; exact w32_id ⟨by omega, by omega⟩) | skip
                refine ⟨by omega, ?_⟩
                refine ⟨by omega, ?_⟩
                intro x29_854 ex29_854 rx29_854
                have rbx29_854 : -2147483648 ≤ x29_854 ∧ x29_854 ≤ 2147483647 := rx29_854
                have nbx29_854 : BN (b) x26_853 x29_854 := by rw [ex29_854]; exact (bm_n (Or.inl rfl)).mp (hI.bx _ _)
                first | (have bx29_854 : -1 ≤ x29_854 ∧ x29_854 ≤ 29 := nbx29_854.1 ⟨by omega, by omega⟩) | (have bx29_854 : -1 ≤ x29_854 ∧ x29_854 ≤ 29 := nbx29_854.2.1 ⟨by omega, by omega⟩) | skip
                unfold qX12_sheet_J148
                refine ⟨by omega, ?_⟩
                refine ⟨by omega, ?_⟩
                refine ⟨(by first | assumption | exact ⟨by omega, by omega⟩), ?_⟩
                intro M19_855 h_M19_855
                have hM19_855 : IM (b) M19_855 := by rw [h_M19_855]; exact hI.up (by omega) ((bm_n (Or.inl rfl)).mpr (by first | assumption | exact ⟨by omega, by omega, by omega, by omega⟩))
                intro x20_856 ex20_856 rx20_856
                first | (have fx20_856 : x20_856 = 13 + v7 := by rw [ex20_856]; exact w32_id ⟨by omega, by omega⟩) | skip
                refine ⟨by omega, ?_⟩
                refine ⟨by omega, ?_⟩
                intro x23_857 ex23_857 rx23_857
                have rbx23_857 : -2147483648 ≤ x23_857 ∧ x23_857 ≤ 2147483647 := rx23_857
                have nbx23_857 : BN (b) x20_856 x23_857 := by rw [ex23_857]; exact (bm_n (Or.inl rfl)).mp (hM19_855.bx _ _)
                first | (have bx23_857 : -1 ≤ x23_857 ∧ x23_857 ≤ 29 := nbx23_857.1 ⟨by omega, by omega⟩) | (have bx23_857 : -1 ≤ x23_857 ∧ x23_857 ≤ 29 := nbx23_857.2.1 ⟨by omega, by omega⟩) | skip
                intro x24_858 ex24_858 rx24_858
                first | (have fx24_858 : x24_858 = v5 + x23_857 := by rw [ex24_858]; exact w32_id ⟨by omega, by omega⟩) | skip
                intro x25_859 ex25_859 rx25_859
                first | (have fx25_859 : x25_859 = v6 + p4 := by rw [ex25_859]; exact w32_id ⟨by omega, by omega⟩) | skip
                exact ih _ _ _ _ (hM19_855.mono (by omega)) (by omega) (by first | assumption | exact ⟨by omega, by omega⟩) (by first | assumption | exact ⟨by omega, by omega⟩) (by omega)
        · intro x37_861 ex37_861 rx37_861
          unfold qX12_sheet_J78
          refine ⟨fun c => ?_, fun c => ?_⟩
          · unfold qX12_sheet_J91
            unfold qX12_sheet_J110
            intro x12_863 ex12_863 rx12_863
            first | (have fx12_863 : x12_863 = 13 + v7 := by rw [ex12_863]; exact w32_id ⟨by omega, by omega⟩) | skip
            refine ⟨(by first | assumption | exact ⟨by omega, by omega⟩), ?_⟩
            refine sX12_isEnded (p1 := v7) hI (Or.inl rfl) (by omega) ?_
            intro x14_864 q865 q866
            refine ⟨fun c => ?_, fun c => ?_⟩
            · unfold qX12_sheet_J148
              refine ⟨by omega, ?_⟩
              refine ⟨by omega, ?_⟩
              refine ⟨(by first | assumption | exact ⟨by omega, by omega⟩), ?_⟩
              intro M19_868 h_M19_868
              have hM19_868 : IM (b) M19_868 := by rw [h_M19_868]; exact hI.up (by omega) ((bm_n (Or.inl rfl)).mpr (by first | assumption | exact ⟨by omega, by omega, by omega, by omega⟩))
              intro x20_869 ex20_869 rx20_869
              first | (have fx20_869 : x20_869 = 13 + v7 := by rw [ex20_869]; exact w32_id ⟨by omega, by omega⟩) | skip
              refine ⟨by omega, ?_⟩
              refine ⟨by omega, ?_⟩
              intro x23_870 ex23_870 rx23_870
              have rbx23_870 : -2147483648 ≤ x23_870 ∧ x23_870 ≤ 2147483647 := rx23_870
              have nbx23_870 : BN (b) x20_869 x23_870 := by rw [ex23_870]; exact (bm_n (Or.inl rfl)).mp (hM19_868.bx _ _)
              first | (have bx23_870 : -1 ≤ x23_870 ∧ x23_870 ≤ 29 := nbx23_870.1 ⟨by omega, by omega⟩) | (have bx23_870 : -1 ≤ x23_870 ∧ x23_870 ≤ 29 := nbx23_870.2.1 ⟨by omega, by omega⟩) | skip
              intro x24_871 ex24_871 rx24_871
              first | (have fx24_871 : x24_871 = v5 + x23_870 := by rw [ex24_871]; exact w32_id ⟨by omega, by omega⟩) | skip
              intro x25_872 ex25_872 rx25_872
              first | (have fx25_872 : x25_872 = v6 + p4 := by rw [ex25_872]; exact w32_id ⟨by omega, by omega⟩) | skip
              exact ih _ _ _ _ (hM19_868.mono (by omega)) (by omega) (by first | assumption | exact ⟨by omega, by omega⟩) (by first | assumption | exact ⟨by omega, by omega⟩) (by omega)
            · intro x26_874 ex26_874 rx26_874
              first | (have fx26_874 : x26_874 = 13 + v7 := by rw [ex26_874]; exact w32_id ⟨by omega, by omega⟩) | skip
              refine ⟨by omega, ?_⟩
              refine ⟨by omega, ?_⟩
              intro x29_875 ex29_875 rx29_875
              have rbx29_875 : -2147483648 ≤ x29_875 ∧ x29_875 ≤ 2147483647 := rx29_875
              have nbx29_875 : BN (b) x26_874 x29_875 := by rw [ex29_875]; exact (bm_n (Or.inl rfl)).mp (hI.bx _ _)
              first | (have bx29_875 : -1 ≤ x29_875 ∧ x29_875 ≤ 29 := nbx29_875.1 ⟨by omega, by omega⟩) | (have bx29_875 : -1 ≤ x29_875 ∧ x29_875 ≤ 29 := nbx29_875.2.1 ⟨by omega, by omega⟩) | skip
              unfold qX12_sheet_J148
              refine ⟨by omega, ?_⟩
              refine ⟨by omega, ?_⟩
              refine ⟨(by first | assumption | exact ⟨by omega, by omega⟩), ?_⟩
              intro M19_876 h_M19_876
              have hM19_876 : IM (b) M19_876 := by rw [h_M19_876]; exact hI.up (by omega) ((bm_n (Or.inl rfl)).mpr (by first | assumption | exact ⟨by omega, by omega, by omega, by omega⟩))
              intro x20_877 ex20_877 rx20_877
              first | (have fx20_877 : x20_877 = 13 + v7 := by rw [ex20_877]; exact w32_id ⟨by omega, by omega⟩) | skip
              refine ⟨by omega, ?_⟩
              refine ⟨by omega, ?_⟩
              intro x23_878 ex23_878 rx23_878
              have rbx23_878 : -2147483648 ≤ x23_878 ∧ x23_878 ≤ 2147483647 := rx23_878
              have nbx23_878 : BN (b) x20_877 x23_878 := by rw [ex23_878]; exact (bm_n (Or.inl rfl)).mp (hM19_876.bx _ _)
              first | (have bx23_878 : -1 ≤ x23_878 ∧ x23_878 ≤ 29 := nbx23_878.1 ⟨by omega, by omega⟩) | (have bx23_878 : -1 ≤ x23_878 ∧ x23_878 ≤ 29 := nbx23_878.2.1 ⟨by omega, by omega⟩) | skip
              intro x24_879 ex24_879 rx24_879
              first | (have fx24_879 : x24_879 = v5 + x23_878 := by rw [ex24_879]; exact w32_id ⟨by omega, by omega⟩) | skip
              intro x25_880 ex25_880 rx25_880
              first | (have fx25_880 : x25_880 = v6 + p4 := by rw [ex25_880]; exact w32_id ⟨by omega, by omega⟩) | skip
              exact ih _ _ _ _ (hM19_876.mono (by omega)) (by omega) (by first | assumption | exact ⟨by omega, by omega⟩) (by first | assumption | exact ⟨by omega, by omega⟩) (by omega)
          · refine ⟨(by first | assumption | exact ⟨by omega, by omega⟩), ?_⟩
            refine ⟨fun c => ?_, fun c => ?_⟩
            · refine sX12_gate  hI  ?_
              intro x32_883 p884 q885
              intro x33_886 ex33_886 rx33_886
              first | (have fx33_886 : x33_886 = x32_883 - 1 := by rw [ex33_886]; exact w32_id ⟨by omega, by omega⟩) | skip
              refine ⟨(by first | assumption | exact ⟨by omega, by omega⟩), ?_⟩
              intro x35_887 ex35_887 rx35_887
              intro x36_888 ex36_888 rx36_888
              unfold qX12_sheet_J110
              intro x12_889 ex12_889 rx12_889
              first | (have fx12_889 : x12_889 = 13 + v7 := by rw [ex12_889]; exact w32_id ⟨by omega, by omega⟩) | skip
              refine ⟨(by first | assumption | exact ⟨by omega, by omega⟩), ?_⟩
              refine sX12_isEnded (p1 := v7) hI (Or.inl rfl) (by omega) ?_
              intro x14_890 q891 q892
              refine ⟨fun c => ?_, fun c => ?_⟩
              · unfold qX12_sheet_J148
                refine ⟨by omega, ?_⟩
                refine ⟨by omega, ?_⟩
                refine ⟨(by first | assumption | exact ⟨by omega, by omega⟩), ?_⟩
                intro M19_894 h_M19_894
                have hM19_894 : IM (b) M19_894 := by rw [h_M19_894]; exact hI.up (by omega) ((bm_n (Or.inl rfl)).mpr (by first | assumption | exact ⟨by omega, by omega, by omega, by omega⟩))
                intro x20_895 ex20_895 rx20_895
                first | (have fx20_895 : x20_895 = 13 + v7 := by rw [ex20_895]; exact w32_id ⟨by omega, by omega⟩) | skip
                refine ⟨by omega, ?_⟩
                refine ⟨by omega, ?_⟩
                intro x23_896 ex23_896 rx23_896
                have rbx23_896 : -2147483648 ≤ x23_896 ∧ x23_896 ≤ 2147483647 := rx23_896
                have nbx23_896 : BN (b) x20_895 x23_896 := by rw [ex23_896]; exact (bm_n (Or.inl rfl)).mp (hM19_894.bx _ _)
                first | (have bx23_896 : -1 ≤ x23_896 ∧ x23_896 ≤ 29 := nbx23_896.1 ⟨by omega, by omega⟩) | (have bx23_896 : -1 ≤ x23_896 ∧ x23_896 ≤ 29 := nbx23_896.2.1 ⟨by omega, by omega⟩) | skip
                intro x24_897 ex24_897 rx24_897
                first | (have fx24_897 : x24_897 = v5 + x23_896 := by rw [ex24_897]; exact w32_id ⟨by omega, by omega⟩) | skip
                intro x25_898 ex25_898 rx25_898
                first | (have fx25_898 : x25_898 = v6 + p4 := by rw [ex25_898]; exact w32_id ⟨by omega, by omega⟩) | skip
                exact ih _ _ _ _ (hM19_894.mono (by omega)) (by omega) (by first | assumption | exact ⟨by omega, by omega⟩) (by first | assumption | exact ⟨by omega, by omega⟩) (by omega)
              · intro x26_900 ex26_900 rx26_900
                first | (have fx26_900 : x26_900 = 13 + v7 := by rw [ex26_900]; exact w32_id ⟨by omega, by omega⟩) | skip
                refine ⟨by omega, ?_⟩
                refine ⟨by omega, ?_⟩
                intro x29_901 ex29_901 rx29_901
                have rbx29_901 : -2147483648 ≤ x29_901 ∧ x29_901 ≤ 2147483647 := rx29_901
                have nbx29_901 : BN (b) x26_900 x29_901 := by rw [ex29_901]; exact (bm_n (Or.inl rfl)).mp (hI.bx _ _)
                first | (have bx29_901 : -1 ≤ x29_901 ∧ x29_901 ≤ 29 := nbx29_901.1 ⟨by omega, by omega⟩) | (have bx29_901 : -1 ≤ x29_901 ∧ x29_901 ≤ 29 := nbx29_901.2.1 ⟨by omega, by omega⟩) | skip
                unfold qX12_sheet_J148
                refine ⟨by omega, ?_⟩
                refine ⟨by omega, ?_⟩
                refine ⟨(by first | assumption | exact ⟨by omega, by omega⟩), ?_⟩
                intro M19_902 h_M19_902
                have hM19_902 : IM (b) M19_902 := by rw [h_M19_902]; exact hI.up (by omega) ((bm_n (Or.inl rfl)).mpr (by first | assumption | exact ⟨by omega, by omega, by omega, by omega⟩))
                intro x20_903 ex20_903 rx20_903
                first | (have fx20_903 : x20_903 = 13 + v7 := by rw [ex20_903]; exact w32_id ⟨by omega, by omega⟩) | skip
                refine ⟨by omega, ?_⟩
                refine ⟨by omega, ?_⟩
                intro x23_904 ex23_904 rx23_904
                have rbx23_904 : -2147483648 ≤ x23_904 ∧ x23_904 ≤ 2147483647 := rx23_904
                have nbx23_904 : BN (b) x20_903 x23_904 := by rw [ex23_904]; exact (bm_n (Or.inl rfl)).mp (hM19_902.bx _ _)
                first | (have bx23_904 : -1 ≤ x23_904 ∧ x23_904 ≤ 29 := nbx23_904.1 ⟨by omega, by omega⟩) | (have bx23_904 : -1 ≤ x23_904 ∧ x23_904 ≤ 29 := nbx23_904.2.1 ⟨by omega, by omega⟩) | skip
                intro x24_905 ex24_905 rx24_905
                first | (have fx24_905 : x24_905 = v5 + x23_904 := by rw [ex24_905]; exact w32_id ⟨by omega, by omega⟩) | skip
                intro x25_906 ex25_906 rx25_906
                first | (have fx25_906 : x25_906 = v6 + p4 := by rw [ex25_906]; exact w32_id ⟨by omega, by omega⟩) | skip
                exact ih _ _ _ _ (hM19_902.mono (by omega)) (by omega) (by first | assumption | exact ⟨by omega, by omega⟩) (by first | assumption | exact ⟨by omega, by omega⟩) (by omega)
            · unfold qX12_sheet_J91
              unfold qX12_sheet_J110
              intro x12_908 ex12_908 rx12_908
              first | (have fx12_908 : x12_908 = 13 + v7 := by rw [ex12_908]; exact w32_id ⟨by omega, by omega⟩) | skip
              refine ⟨(by first | assumption | exact ⟨by omega, by omega⟩), ?_⟩
              refine sX12_isEnded (p1 := v7) hI (Or.inl rfl) (by omega) ?_
              intro x14_909 q910 q911
              refine ⟨fun c => ?_, fun c => ?_⟩
              · unfold qX12_sheet_J148
                refine ⟨by omega, ?_⟩
                refine ⟨by omega, ?_⟩
                refine ⟨(by first | assumption | exact ⟨by omega, by omega⟩), ?_⟩
                intro M19_913 h_M19_913
                have hM19_913 : IM (b) M19_913 := by rw [h_M19_913]; exact hI.up (by omega) ((bm_n (Or.inl rfl)).mpr (by first | assumption | exact ⟨by omega, by omega, by omega, by omega⟩))
                intro x20_914 ex20_914 rx20_914
                first | (have fx20_914 : x20_914 = 13 + v7 := by rw [ex20_914]; exact w32_id ⟨by omega, by omega⟩) | skip
                refine ⟨by omega, ?_⟩
                refine ⟨by omega, ?_⟩
                intro x23_915 ex23_915 rx23_915
                have rbx23_915 : -2147483648 ≤ x23_915 ∧ x23_915 ≤ 2147483647 := rx23_915
                have nbx23_915 : BN (b) x20_914 x23_915 := by rw [ex23_915]; exact (bm_n (Or.inl rfl)).mp (hM19_913.bx _ _)
                first | (have bx23_915 : -1 ≤ x23_915 ∧ x23_915 ≤ 29 := nbx23_915.1 ⟨by omega, by omega⟩) | (have bx23_915 : -1 ≤ x23_915 ∧ x23_915 ≤ 29 := nbx23_915.2.1 ⟨by omega, by omega⟩) | skip
                intro x24_916 ex24_916 rx24_916
                first | (have fx24_916 : x24_916 = v5 + x23_915 := by rw [ex24_916]; exact w32_id ⟨by omega, by omega⟩) | skip
                intro x25_917 ex25_917 rx25_917
                first | (have fx25_917 : x25_917 = v6 + p4 := by rw [ex25_917]; exact w32_id ⟨by omega, by omega⟩) | skip
                exact ih _ _ _ _ (hM19_913.mono (by omega)) (by omega) (by first | assumption | exact ⟨by omega, by omega⟩) (by first | assumption | exact ⟨by omega, by omega⟩) (by omega)
              · intro x26_919 ex26_919 rx26_919
                first | (have fx26_919 : x26_919 = 13 + v7 := by rw [ex26_919]; exact w32_id ⟨by omega, by omega⟩) | skip
                refine ⟨by omega, ?_⟩
                refine ⟨by omega, ?_⟩
                intro x29_920 ex29_920 rx29_920
                have rbx29_920 : -2147483648 ≤ x29_920 ∧ x29_920 ≤ 2147483647 := rx29_920
                have nbx29_920 : BN (b) x26_919 x29_920 := by rw [ex29_920]; exact (bm_n (Or.inl rfl)).mp (hI.bx _ _)
                first | (have bx29_920 : -1 ≤ x29_920 ∧ x29_920 ≤ 29 := nbx29_920.1 ⟨by omega, by omega⟩) | (have bx29_920 : -1 ≤ x29_920 ∧ x29_920 ≤ 29 := nbx29_920.2.1 ⟨by omega, by omega⟩) | skip
                unfold qX12_sheet_J148
                refine ⟨by omega, ?_⟩
                refine ⟨by omega, ?_⟩
                refine ⟨(by first | assumption | exact ⟨by omega, by omega⟩), ?_⟩
                intro M19_921 h_M19_921
                have hM19_921 : IM (b) M19_921 := by rw [h_M19_921]; exact hI.up (by omega) ((bm_n (Or.inl rfl)).mpr (by first | assumption | exact ⟨by omega, by omega, by omega, by omega⟩))
                intro x20_922 ex20_922 rx20_922
                first | (have fx20_922 : x20_922 = 13 + v7 := by rw [ex20_922]; exact w32_id ⟨by omega, by omega⟩) | skip
                refine ⟨by omega, ?_⟩
                refine ⟨by omega, ?_⟩
                intro x23_923 ex23_923 rx23_923
                have rbx23_923 : -2147483648 ≤ x23_923 ∧ x23_923 ≤ 2147483647 := rx23_923
                have nbx23_923 : BN (b) x20_922 x23_923 := by rw [ex23_923]; exact (bm_n (Or.inl rfl)).mp (hM19_921.bx _ _)
                first | (have bx23_923 : -1 ≤ x23_923 ∧ x23_923 ≤ 29 := nbx23_923.1 ⟨by omega, by omega⟩) | (have bx23_923 : -1 ≤ x23_923 ∧ x23_923 ≤ 29 := nbx23_923.2.1 ⟨by omega, by omega⟩) | skip
                intro x24_924 ex24_924 rx24_924
                first | (have fx24_924 : x24_924 = v5 + x23_923 := by rw [ex24_924]; exact w32_id ⟨by omega, by omega⟩) | skip
                intro x25_925 ex25_925 rx25_925
                first | (have fx25_925 : x25_925 = v6 + p4 := by rw [ex25_925]; exact w32_id ⟨by omega, by omega⟩) | skip
                exact ih _ _ _ _ (hM19_921.mono (by omega)) (by omega) (by first | assumption | exact ⟨by omega, by omega⟩) (by first | assumption | exact ⟨by omega, by omega⟩) (by omega)
      · intro x38_927 ex38_927 rx38_927
        unfold qX12_sheet_J78
        refine ⟨fun c => ?_, fun c => ?_⟩
        · unfold qX12_sheet_J91
          unfold qX12_sheet_J110
          intro x12_929 ex12_929 rx12_929
          first | (have fx12_929 : x12_929 = 13 + v7 := by rw [ex12_929]; exact w32_id ⟨by omega, by omega⟩) | skip
          refine ⟨(by first | assumption | exact ⟨by omega, by omega⟩), ?_⟩
          refine sX12_isEnded (p1 := v7) hI (Or.inl rfl) (by omega) ?_
          intro x14_930 q931 q932
          refine ⟨fun c => ?_, fun c => ?_⟩
          · unfold qX12_sheet_J148
            refine ⟨by omega, ?_⟩
            refine ⟨by omega, ?_⟩
            refine ⟨(by first | assumption | exact ⟨by omega, by omega⟩), ?_⟩
            intro M19_934 h_M19_934
            have hM19_934 : IM (b) M19_934 := by rw [h_M19_934]; exact hI.up (by omega) ((bm_n (Or.inl rfl)).mpr (by first | assumption | exact ⟨by omega, by omega, by omega, by omega⟩))
            intro x20_935 ex20_935 rx20_935
            first | (have fx20_935 : x20_935 = 13 + v7 := by rw [ex20_935]; exact w32_id ⟨by omega, by omega⟩) | skip
            refine ⟨by omega, ?_⟩
            refine ⟨by omega, ?_⟩
            intro x23_936 ex23_936 rx23_936
            have rbx23_936 : -2147483648 ≤ x23_936 ∧ x23_936 ≤ 2147483647 := rx23_936
            have nbx23_936 : BN (b) x20_935 x23_936 := by rw [ex23_936]; exact (bm_n (Or.inl rfl)).mp (hM19_934.bx _ _)
            first | (have bx23_936 : -1 ≤ x23_936 ∧ x23_936 ≤ 29 := nbx23_936.1 ⟨by omega, by omega⟩) | (have bx23_936 : -1 ≤ x23_936 ∧ x23_936 ≤ 29 := nbx23_936.2.1 ⟨by omega, by omega⟩) | skip
            intro x24_937 ex24_937 rx24_937
            first | (have fx24_937 : x24_937 = v5 + x23_936 := by rw [ex24_937]; exact w32_id ⟨by omega, by omega⟩) | skip
            intro x25_938 ex25_938 rx25_938
            first | (have fx25_938 : x25_938 = v6 + p4 := by rw [ex25_938]; exact w32_id ⟨by omega, by omega⟩) | skip
            exact ih _ _ _ _ (hM19_934.mono (by omega)) (by omega) (by first | assumption | exact ⟨by omega, by omega⟩) (by first | assumption | exact ⟨by omega, by omega⟩) (by omega)
          · intro x26_940 ex26_940 rx26_940
            first | (have fx26_940 : x26_940 = 13 + v7 := by rw [ex26_940]; exact w32_id ⟨by omega, by omega⟩) | skip
            refine ⟨by omega, ?_⟩
            refine ⟨by omega, ?_⟩
            intro x29_941 ex29_941 rx29_941
            have rbx29_941 : -2147483648 ≤ x29_941 ∧ x29_941 ≤ 2147483647 := rx29_941
            have nbx29_941 : BN (b) x26_940 x29_941 := by rw [ex29_941]; exact (bm_n (Or.inl rfl)).mp (hI.bx _ _)
            first | (have bx29_941 : -1 ≤ x29_941 ∧ x29_941 ≤ 29 := nbx29_941.1 ⟨by omega, by omega⟩) | (have bx29_941 : -1 ≤ x29_941 ∧ x29_941 ≤ 29 := nbx29_941.2.1 ⟨by omega, by omega⟩) | skip
            unfold qX12_sheet_J148
            refine ⟨by omega, ?_⟩
            refine ⟨by omega, ?_⟩
            refine ⟨(by first | assumption | exact ⟨by omega, by omega⟩), ?_⟩
            intro M19_942 h_M19_942
            have hM19_942 : IM (b) M19_942 := by rw [h_M19_942]; exact hI.up (by omega) ((bm_n (Or.inl rfl)).mpr (by first | assumption | exact ⟨by omega, by omega, by omega, by omega⟩))
            intro x20_943 ex20_943 rx20_943
            first | (have fx20_943 : x20_943 = 13 + v7 := by rw [ex20_943]; exact w32_id ⟨by omega, by omega⟩) | skip
            refine ⟨by omega, ?_⟩
            refine ⟨by omega, ?_⟩
            intro x23_944 ex23_944 rx23_944
            have rbx23_944 : -2147483648 ≤ x23_944 ∧ x23_944 ≤ 2147483647 := rx23_944
            have nbx23_944 : BN (b) x20_943 x23_944 := by rw [ex23_944]; exact (bm_n (Or.inl rfl)).mp (hM19_942.bx _ _)
            first | (have bx23_944 : -1 ≤ x23_944 ∧ x23_944 ≤ 29 := nbx23_944.1 ⟨by omega, by omega⟩) | (have bx23_944 : -1 ≤ x23_944 ∧ x23_944 ≤ 29 := nbx23_944.2.1 ⟨by omega, by omega⟩) | skip
            intro x24_945 ex24_945 rx24_945
            first | (have fx24_945 : x24_945 = v5 + x23_944 := by rw [ex24_945]; exact w32_id ⟨by omega, by omega⟩) | skip
            intro x25_946 ex25_946 rx25_946
            first | (have fx25_946 : x25_946 = v6 + p4 := by rw [ex25_946]; exact w32_id ⟨by omega, by omega⟩) | skip
            exact ih _ _ _ _ (hM19_942.mono (by omega)) (by omega) (by first | assumption | exact ⟨by omega, by omega⟩) (by first | assumption | exact ⟨by omega, by omega⟩) (by omega)
        · refine ⟨(by first | assumption | exact ⟨by omega, by omega⟩), ?_⟩
          refine ⟨fun c => ?_, fun c => ?_⟩
          · refine sX12_gate  hI  ?_
            intro x32_949 p950 q951
            intro x33_952 ex33_952 rx33_952
            first | (have fx33_952 : x33_952 = x32_949 - 1 := by rw [ex33_952]; exact w32_id ⟨by omega, by omega⟩) | skip
            refine ⟨(by first | assumption | exact ⟨by omega, by omega⟩), ?_⟩
            intro x35_953 ex35_953 rx35_953
            intro x36_954 ex36_954 rx36_954
            unfold qX12_sheet_J110
            intro x12_955 ex12_955 rx12_955
            first | (have fx12_955 : x12_955 = 13 + v7 := by rw [ex12_955]; exact w32_id ⟨by omega, by omega⟩) | skip
            refine ⟨(by first | assumption | exact ⟨by omega, by omega⟩), ?_⟩
            refine sX12_isEnded (p1 := v7) hI (Or.inl rfl) (by omega) ?_
            intro x14_956 q957 q958
            refine ⟨fun c => ?_, fun c => ?_⟩
            · unfold qX12_sheet_J148
              refine ⟨by omega, ?_⟩
              refine ⟨by omega, ?_⟩
              refine ⟨(by first | assumption | exact ⟨by omega, by omega⟩), ?_⟩
              intro M19_960 h_M19_960
              have hM19_960 : IM (b) M19_960 := by rw [h_M19_960]; exact hI.up (by omega) ((bm_n (Or.inl rfl)).mpr (by first | assumption | exact ⟨by omega, by omega, by omega, by omega⟩))
              intro x20_961 ex20_961 rx20_961
              first | (have fx20_961 : x20_961 = 13 + v7 := by rw [ex20_961]; exact w32_id ⟨by omega, by omega⟩) | skip
              refine ⟨by omega, ?_⟩
              refine ⟨by omega, ?_⟩
              intro x23_962 ex23_962 rx23_962
              have rbx23_962 : -2147483648 ≤ x23_962 ∧ x23_962 ≤ 2147483647 := rx23_962
              have nbx23_962 : BN (b) x20_961 x23_962 := by rw [ex23_962]; exact (bm_n (Or.inl rfl)).mp (hM19_960.bx _ _)
              first | (have bx23_962 : -1 ≤ x23_962 ∧ x23_962 ≤ 29 := nbx23_962.1 ⟨by omega, by omega⟩) | (have bx23_962 : -1 ≤ x23_962 ∧ x23_962 ≤ 29 := nbx23_962.2.1 ⟨by omega, by omega⟩) | skip
              intro x24_963 ex24_963 rx24_963
              first | (have fx24_963 : x24_963 = v5 + x23_962 := by rw [ex24_963]; exact w32_id ⟨by omega, by omega⟩) | skip
              intro x25_964 ex25_964 rx25_964
              first | (have fx25_964 : x25_964 = v6 + p4 := by rw [ex25_964]; exact w32_id ⟨by omega, by omega⟩) | skip
              exact ih _ _ _ _ (hM19_960.mono (by omega)) (by omega) (by first | assumption | exact ⟨by omega, by omega⟩) (by first | assumption | exact ⟨by omega, by omega⟩) (by omega)
            · intro x26_966 ex26_966 rx26_966
              first | (have fx26_966 : x26_966 = 13 + v7 := by rw [ex26_966]; exact w32_id ⟨by omega, by omega⟩) | skip
              refine ⟨by omega, ?_⟩
              refine ⟨by omega, ?_⟩
              intro x29_967 ex29_967 rx29_967
              have rbx29_967 : -2147483648 ≤ x29_967 ∧ x29_967 ≤ 2147483647 := rx29_967
              have nbx29_967 : BN (b) x26_966 x29_967 := by rw [ex29_967]; exact (bm_n (Or.inl rfl)).mp (hI.bx _ _)
              first | (have bx29_967 : -1 ≤ x29_967 ∧ x29_967 ≤ 29 := nbx29_967.1 ⟨by omega, by omega⟩) | (have bx29_967 : -1 ≤ x29_967 ∧ x29_967 ≤ 29 := nbx29_967.2.1 ⟨by omega, by omega⟩) | skip
              unfold qX12_sheet_J148
              refine ⟨by omega, ?_⟩
              refine ⟨by omega, ?_⟩
              refine ⟨(by first | assumption | exact ⟨by omega, by omega⟩), ?_⟩
              intro M19_968 h_M19_968
              have hM19_968 : IM (b) M19_968 := by rw [h_M19_968]; exact hI.up (by omega) ((bm_n (Or.inl rfl)).mpr (by first | assumption | exact ⟨by omega, by omega, by omega, by omega⟩))
              intro x20_969 ex20_969 rx20_969
              first | (have fx20_969 : x20_969 = 13 + v7 := by rw [ex20_969]; exact w32_id ⟨by omega, by omega⟩) | skip
              refine ⟨by omega, ?_⟩
              refine ⟨by omega, ?_⟩
              intro x23_970 ex23_970 rx23_970
              have rbx23_970 : -2147483648 ≤ x23_970 ∧ x23_970 ≤ 2147483647 := rx23_970
              have nbx23_970 : BN (b) x20_969 x23_970 := by rw [ex23_970]; exact (bm_n (Or.inl rfl)).mp (hM19_968.bx _ _)
              first | (have bx23_970 : -1 ≤ x23_970 ∧ x23_970 ≤ 29 := nbx23_970.1 ⟨by omega, by omega⟩) | (have bx23_970 : -1 ≤ x23_970 ∧ x23_970 ≤ 29 := nbx23_970.2.1 ⟨by omega, by omega⟩) | skip
              intro x24_971 ex24_971 rx24_971
              first | (have fx24_971 : x24_971 = v5 + x23_970 := by rw [ex24_971]; exact w32_id ⟨by omega, by omega⟩) | skip
              intro x25_972 ex25_972 rx25_972
              first | (have fx25_972 : x25_972 = v6 + p4 := by rw [ex25_972]; exact w32_id ⟨by omega, by omega⟩) | skip
              exact ih _ _ _ _ (hM19_968.mono (by omega)) (by omega) (by first | assumption | exact ⟨by omega, by omega⟩) (by first | assumption | exact ⟨by omega, by omega⟩) (by omega)
          · unfold qX12_sheet_J91
            unfold qX12_sheet_J110
            intro x12_974 ex12_974 rx12_974
            first | (have fx12_974 : x12_974 = 13 + v7 := by rw [ex12_974]; exact w32_id ⟨by omega, by omega⟩) | skip
            refine ⟨(by first | assumption | exact ⟨by omega, by omega⟩), ?_⟩
            refine sX12_isEnded (p1 := v7) hI (Or.inl rfl) (by omega) ?_
            intro x14_975 q976 q977
            refine ⟨fun c => ?_, fun c => ?_⟩
            · unfold qX12_sheet_J148
              refine ⟨by omega, ?_⟩
              refine ⟨by omega, ?_⟩
              refine ⟨(by first | assumption | exact ⟨by omega, by omega⟩), ?_⟩
              intro M19_979 h_M19_979
              have hM19_979 : IM (b) M19_979 := by rw [h_M19_979]; exact hI.up (by omega) ((bm_n (Or.inl rfl)).mpr (by first | assumption | exact ⟨by omega, by omega, by omega, by omega⟩))
              intro x20_980 ex20_980 rx20_980
              first | (have fx20_980 : x20_980 = 13 + v7 := by rw [ex20_980]; exact w32_id ⟨by omega, by omega⟩) | skip
              refine ⟨by omega, ?_⟩
              refine ⟨by omega, ?_⟩
              intro x23_981 ex23_981 rx23_981
              have rbx23_981 : -2147483648 ≤ x23_981 ∧ x23_981 ≤ 2147483647 := rx23_981
              have nbx23_981 : BN (b) x20_980 x23_981 := by rw [ex23_981]; exact (bm_n (Or.inl rfl)).mp (hM19_979.bx _ _)
              first | (have bx23_981 : -1 ≤ x23_981 ∧ x23_981 ≤ 29 := nbx23_981.1 ⟨by omega, by omega⟩) | (have bx23_981 : -1 ≤ x23_981 ∧ x23_981 ≤ 29 := nbx23_981.2.1 ⟨by omega, by omega⟩) | skip
              intro x24_982 ex24_982 rx24_982
              first | (have fx24_982 : x24_982 = v5 + x23_981 := by rw [ex24_982]; exact w32_id ⟨by omega, by omega⟩) | skip
              intro x25_983 ex25_983 rx25_983
              first | (have fx25_983 : x25_983 = v6 + p4 := by rw [ex25_983]; exact w32_id ⟨by omega, by omega⟩) | skip
              exact ih _ _ _ _ (hM19_979.mono (by omega)) (by omega) (by first | assumption | exact ⟨by omega, by omega⟩) (by first | assumption | exact ⟨by omega, by omega⟩) (by omega)
            · intro x26_985 ex26_985 rx26_985
              first | (have fx26_985 : x26_985 = 13 + v7 := by rw [ex26_985]; exact w32_id ⟨by omega, by omega⟩) | skip
              refine ⟨by omega, ?_⟩
              refine ⟨by omega, ?_⟩
              intro x29_986 ex29_986 rx29_986
              have rbx29_986 : -2147483648 ≤ x29_986 ∧ x29_986 ≤ 2147483647 := rx29_986
              have nbx29_986 : BN (b) x26_985 x29_986 := by rw [ex29_986]; exact (bm_n (Or.inl rfl)).mp (hI.bx _ _)
              first | (have bx29_986 : -1 ≤ x29_986 ∧ x29_986 ≤ 29 := nbx29_986.1 ⟨by omega, by omega⟩) | (have bx29_986 : -1 ≤ x29_986 ∧ x29_986 ≤ 29 := nbx29_986.2.1 ⟨by omega, by omega⟩) | skip
              unfold qX12_sheet_J148
              refine ⟨by omega, ?_⟩
              refine ⟨by omega, ?_⟩
              refine ⟨(by first | assumption | exact ⟨by omega, by omega⟩), ?_⟩
              intro M19_987 h_M19_987
              have hM19_987 : IM (b) M19_987 := by rw [h_M19_987]; exact hI.up (by omega) ((bm_n (Or.inl rfl)).mpr (by first | assumption | exact ⟨by omega, by omega, by omega, by omega⟩))
              intro x20_988 ex20_988 rx20_988
              first | (have fx20_988 : x20_988 = 13 + v7 := by rw [ex20_988]; exact w32_id ⟨by omega, by omega⟩) | skip
              refine ⟨by omega, ?_⟩
              refine ⟨by omega, ?_⟩
              intro x23_989 ex23_989 rx23_989
              have rbx23_989 : -2147483648 ≤ x23_989 ∧ x23_989 ≤ 2147483647 := rx23_989
              have nbx23_989 : BN (b) x20_988 x23_989 := by rw [ex23_989]; exact (bm_n (Or.inl rfl)).mp (hM19_987.bx _ _)
              first | (have bx23_989 : -1 ≤ x23_989 ∧ x23_989 ≤ 29 := nbx23_989.1 ⟨by omega, by omega⟩) | (have bx23_989 : -1 ≤ x23_989 ∧ x23_989 ≤ 29 := nbx23_989.2.1 ⟨by omega, by omega⟩) | skip
              intro x24_990 ex24_990 rx24_990
              first | (have fx24_990 : x24_990 = v5 + x23_989 := by rw [ex24_990]; exact w32_id ⟨by omega, by omega⟩) | skip
              intro x25_991 ex25_991 rx25_991
              first | (have fx25_991 : x25_991 = v6 + p4 := by rw [ex25_991]; exact w32_id ⟨by omega, by omega⟩) | skip
              exact ih _ _ _ _ (hM19_987.mono (by omega)) (by omega) (by first | assumption | exact ⟨by omega, by omega⟩) (by first | assumption | exact ⟨by omega, by omega⟩) (by omega)
theorem sX12_sheet {p1 : Int} {p2 : Int} {p3 : Int} {p4 : Int} {b : Int} {M : Mem} {Q : Int → Mem → Prop} (hI : IM b M) (hp : -2147483648 ≤ p3 ∧ p3 ≤ 2147483647) (hQ : ∀ z : Int, ∀ M' : Mem, IM b M' → Q z M') : qX12_sheet p1 p2 p3 p4 M Q := by
  unfold qX12_sheet
  have hbn := hI.nn
  intro M1_992 h_M1_992
  have hM1_992 : IM (b) M1_992 := by rw [h_M1_992]; exact hI.up (by omega) (by simp [BM])
  refine sX12_in (p0 := p1) (p2 := 0) (p4 := 3) hM1_992  ?_
  intro x2_993 p994 q995 q996
  refine ⟨fun c => ?_, fun c => ?_⟩
  · exact hQ _ _ (hM1_992.mono (by omega))
  · refine ⟨fun c => ?_, fun c => ?_⟩
    · refine ⟨fun c => ?_, fun c => ?_⟩
      · unfold qX12_sheet_J37
        refine ⟨9, ?_⟩
        refine sX12_sheet_L46 (b := b) (p1 := p1) (p2 := p2) (p3 := p3) (p4 := p4) hp ?_ ?_ _ _ _ _ _ (hM1_992.mono (by omega)) (by omega) (by first | assumption | exact ⟨by omega, by omega⟩) (by first | assumption | exact ⟨by omega, by omega⟩) (by omega)
        · exact hQ
        · intro v5_1001 M_1002 hM_1002 r1003
          refine ⟨fun c => ?_, fun c => ?_⟩
          · refine ⟨(by first | assumption | exact ⟨by omega, by omega⟩), ?_⟩
            exact hQ _ _ (hM_1002.mono (by omega))
          · exact hQ _ _ (hM_1002.mono (by omega))
      · refine ⟨fun c => ?_, fun c => ?_⟩
        · unfold qX12_sheet_J37
          refine ⟨9, ?_⟩
          refine sX12_sheet_L46 (b := b) (p1 := p1) (p2 := p2) (p3 := p3) (p4 := p4) hp ?_ ?_ _ _ _ _ _ (hM1_992.mono (by omega)) (by omega) (by first | assumption | exact ⟨by omega, by omega⟩) (by first | assumption | exact ⟨by omega, by omega⟩) (by omega)
          · exact hQ
          · intro v5_1008 M_1009 hM_1009 r1010
            refine ⟨fun c => ?_, fun c => ?_⟩
            · refine ⟨(by first | assumption | exact ⟨by omega, by omega⟩), ?_⟩
              exact hQ _ _ (hM_1009.mono (by omega))
            · exact hQ _ _ (hM_1009.mono (by omega))
        · exact hQ _ _ (hM1_992.mono (by omega))
    · exact hQ _ _ (hM1_992.mono (by omega))
theorem sX12_undo_L26   {Q : Int → Mem → Prop} {b : Int} (hQ : ∀ z : Int, ∀ M' : Mem, IM b M' → Q z M') : ∀ (n : Nat) (v1 : Int) (M : Mem), IM (b) M → (0 ≤ v1 ∧ v1 ≤ 38) → 38 - v1 < (n : Int) → qX12_undo_L26 Q n v1 M := by
  intro n
  induction n with
  | zero => intro v1 M hI hv hm; exact absurd hm (by omega)
  | succ n ih =>
    intro v1 M hI hv hm
    rw [qX12_undo_L26]
    have hbn := hI.nn
    refine ⟨(by first | assumption | exact ⟨by omega, by omega⟩), ?_⟩
    refine ⟨fun c => ?_, fun c => ?_⟩
    · intro x9_1016 ex9_1016 rx9_1016
      have bx9_1016 : 0 ≤ x9_1016 ∧ x9_1016 ≤ 15 := by rw [ex9_1016]; exact bm_c1_28.mp (hI.bx _ _)
      exact hQ _ _ (hI.mono (by omega))
    · intro x10_1018 ex10_1018 rx10_1018
      have bx10_1018 : 0 ≤ x10_1018 ∧ x10_1018 ≤ 15 := by rw [ex10_1018]; exact bm_c1_28.mp (hI.bx _ _)
      refine ⟨by omega, ?_⟩
      refine ⟨by omega, ?_⟩
      intro x13_1019 ex13_1019 rx13_1019
      have nbx13_1019 : BN (b) v1 x13_1019 := by rw [ex13_1019]; have q := bm_c15.mp (hI.bx 15 (38 * x10_1018 + v1)); rwa [show (38 * x10_1018 + v1) % 38 = v1 from by omega] at q
      refine ⟨by omega, ?_⟩
      refine ⟨by omega, ?_⟩
      intro M16_1020 h_M16_1020
      have hM16_1020 : IM (b) M16_1020 := by rw [h_M16_1020]; exact hI.up (by omega) ((bm_n (Or.inl rfl)).mpr (by first | assumption | exact ⟨by omega, by omega, by omega, by omega⟩))
      exact ih _ _ (hM16_1020.mono (by omega)) (by omega) (by omega)
theorem sX12_undo  {b : Int} {M : Mem} {Q : Int → Mem → Prop} (hI : IM b M) (hQ : ∀ z : Int, ∀ M' : Mem, IM b M' → Q z M') : qX12_undo M Q := by
  unfold qX12_undo
  have hbn := hI.nn
  intro M1_1021 h_M1_1021
  have hM1_1021 : IM (b) M1_1021 := by rw [h_M1_1021]; exact hI.up (by omega) (by simp [BM])
  intro x2_1022 ex2_1022 rx2_1022
  have bx2_1022 : 0 ≤ x2_1022 ∧ x2_1022 ≤ 15 := by rw [ex2_1022]; exact bm_c1_28.mp (hM1_1021.bx _ _)
  have fx2_1022 : x2_1022 = M 1 28 := by rw [ex2_1022, h_M1_1021, up2_j (by decide)]
  refine ⟨fun c => ?_, fun c => ?_⟩
  · intro x4_1024 ex4_1024 rx4_1024
    have bx4_1024 : 0 ≤ x4_1024 ∧ x4_1024 ≤ 15 := by rw [ex4_1024]; exact bm_c1_28.mp (hM1_1021.bx _ _)
    have fx4_1024 : x4_1024 = M 1 28 := by rw [ex4_1024, h_M1_1021, up2_j (by decide)]
    refine ⟨(by first | assumption | exact ⟨by omega, by omega⟩), ?_⟩
    intro M6_1025 h_M6_1025
    have hM6_1025 : IM (b) M6_1025 := by rw [h_M6_1025]; exact hM1_1021.up (by omega) (bm_c1_28.mpr ⟨by omega, by omega⟩)
    refine ⟨39, ?_⟩
    refine sX12_undo_L26 (b := b)  ?_ _ _ _ (hM6_1025.mono (by omega)) (by omega) (by omega)
    · exact hQ
  · exact hQ _ _ (hM1_1021.mono (by omega))
theorem sX12_adds_L21 {p1 b : Int} {X49 : Mem → Prop} {Q : Int → Mem → Prop} (hX : ∀ M' : Mem, IM b (up2 M' 1 28 15) → M' 1 28 = 16 → X49 M') : ∀ (n : Nat) (v2 : Int) (M : Mem), IM b (up2 M 1 28 15) → M 1 28 = 16 → (0 ≤ v2 ∧ v2 ≤ 570) → 570 - v2 < (n : Int) → qX12_adds_L21 p1 X49 Q n v2 M := by
  intro n
  induction n with
  | zero => intro v2 M hI h16 hv hm; exact absurd hm (by omega)
  | succ n ih =>
    intro v2 M hI h16 hv hm
    rw [qX12_adds_L21]
    refine ⟨⟨by omega, by omega⟩, ⟨fun c => hX _ hI h16, fun c => ?_⟩⟩
    refine ⟨by omega, by omega, ?_⟩
    intro x10 e10 _
    refine ⟨by omega, by omega, ?_⟩
    intro M13 h13
    refine ih _ _ ?_ ?_ (by omega) (by omega)
    · have q : up2 M13 1 28 15 = up2 (up2 M 1 28 15) 15 v2 x10 := by
        rw [h13]
        funext k j
        simp only [up2_a]
        by_cases c1 : k = 1
        · subst c1; simp
        · simp [c1]
      rw [q]
      refine hI.up (by omega) (bm_c15.mpr ?_)
      have r := bm_c15.mp (hI.bx 15 (v2 + 38))
      rw [up2_n (by decide), ← e10, show (v2 + 38) % 38 = v2 % 38 from by omega] at r
      exact r
    · rw [h13, up2_n (by decide)]; exact h16
theorem sX12_adds {p1 : Int} {b : Int} {M : Mem} {Q : Int → Mem → Prop} (hI : IM b M) (hQ : ∀ z : Int, ∀ M' : Mem, IM b M' → Q z M') : qX12_adds p1 M Q := by
  unfold qX12_adds
  intro x1 e1 _
  have b1 : 0 ≤ x1 ∧ x1 ≤ 15 := by rw [e1]; exact bm_c1_28.mp (hI.bx _ _)
  refine ⟨⟨by omega, by omega⟩, ?_⟩
  intro M3 h3 x4 e4 _
  have f4 : x4 = x1 + 1 := by rw [e4, h3, up2_s]
  refine ⟨fun c => hQ _ _ ?_, fun c => ?_⟩
  · rw [h3]; exact hI.up (by omega) (bm_c1_28.mpr ⟨by omega, by omega⟩)
  · refine ⟨571, sX12_adds_L21 (b := b) ?_ _ _ _ ?_ ?_ (by omega) (by omega)⟩
    · intro M' h' h16 x15 e15 _
      refine ⟨⟨by omega, by omega⟩, ?_⟩
      intro M17 h17
      refine hQ _ _ ?_
      rw [h17, show x15 - 1 = 15 from by omega]
      exact h'
    · have q : up2 M3 1 28 15 = up2 M 1 28 15 := by
        rw [h3]
        funext k j
        simp only [up2_a]
        by_cases c1 : k = 1
        · subst c1; by_cases c2 : j = 28 <;> simp [c2]
        · simp [c1]
      rw [q]
      exact hI.up (by omega) (bm_c1_28.mpr ⟨by omega, by omega⟩)
    · rw [h3, up2_s]; omega
theorem sX12_enters {p1 : Int} {b : Int} {M : Mem} {Q : Mem → Prop} (hI : IM b M) (hp : M 1 1 ≤ 23) (hQ : ∀ M' : Mem, IM b M' → (M' 1 1 = M 1 1 + 1) → Q M') : qX12_enters p1 M Q := by
  unfold qX12_enters
  have hbn := hI.nn
  have u1027 : 0 ≤ M 1 1 ∧ M 1 1 ≤ 24 := bm_c1_1.mp (hI.bx _ _)
  intro x1_1028 ex1_1028 rx1_1028
  have bx1_1028 : 0 ≤ x1_1028 ∧ x1_1028 ≤ 24 := by rw [ex1_1028]; exact bm_c1_1.mp (hI.bx _ _)
  refine ⟨by omega, ?_⟩
  refine ⟨by omega, ?_⟩
  intro M4_1029 h_M4_1029
  have hM4_1029 : IM (b) M4_1029 := by rw [h_M4_1029]; exact hI.up (by omega) (by simp [BM])
  intro x5_1030 ex5_1030 rx5_1030
  have bx5_1030 : 0 ≤ x5_1030 ∧ x5_1030 ≤ 24 := by rw [ex5_1030]; exact bm_c1_1.mp (hM4_1029.bx _ _)
  have fx5_1030 : x5_1030 = M 1 1 := by rw [ex5_1030, h_M4_1029, up2_n (by decide)]
  refine ⟨(by first | assumption | exact ⟨by omega, by omega⟩), ?_⟩
  intro M7_1031 h_M7_1031
  have hM7_1031 : IM (b) M7_1031 := by rw [h_M7_1031]; exact hM4_1029.up (by omega) (bm_c1_1.mpr ⟨by omega, by omega⟩)
  have u1032 : 0 ≤ M7_1031 1 1 ∧ M7_1031 1 1 ≤ 24 := bm_c1_1.mp (hM7_1031.bx _ _)
  have t1033 : M7_1031 1 1 = x5_1030 + 1 := by rw [h_M7_1031, up2_s]
  exact hQ _ (hM7_1031.mono (by omega)) (by omega)
theorem sX12_goal_L27 {k1 : Nat} {p2 : Int} {p3 : Int}  {Q : Int → Mem → Prop} {b : Int} {M0 : Mem} (hk1 : isN k1) (hQ : ∀ z : Int, (0 ≤ z ∧ z ≤ 29) → Q z M0) : ∀ (n : Nat) (v4 v5 v6 v7 v8 : Int), IM (b) M0 → (0 ≤ v4 ∧ v4 ≤ 29 ∧ 0 ≤ v5 ∧ v5 ≤ 29 ∧ 1 ≤ v8 ∧ v8 ≤ 30 ∧ 0 ≤ p3 ∧ p3 ≤ 3) → iR v6 → iR v7 → 30 - v8 < (n : Int) → qX12_goal_L27 k1 p2 p3 Q n v4 v5 v6 v7 v8 M0 := by
  intro n
  induction n with
  | zero => intro v4 v5 v6 v7 v8 hI hv hrv6 hrv7 hm; exact absurd hm (by omega)
  | succ n ih =>
    intro v4 v5 v6 v7 v8 hI hv hrv6 hrv7 hm
    rw [qX12_goal_L27]
    have hbn := hI.nn
    have ek1 : k1 = 5 ∨ k1 = 6 := hk1
    refine sX12_gate  hI  ?_
    intro x7_1034 p1035 q1036
    refine ⟨(by first | assumption | exact ⟨by omega, by omega⟩), ?_⟩
    intro x9_1037 ex9_1037 rx9_1037
    refine ⟨(by first | assumption | exact ⟨by omega, by omega⟩), ?_⟩
    refine ⟨fun c => ?_, fun c => ?_⟩
    · refine ⟨(by first | assumption | exact ⟨by omega, by omega⟩), ?_⟩
      exact hQ _ (by omega)
    · refine ⟨(by first | assumption | exact ⟨by omega, by omega⟩), ?_⟩
      refine ⟨fun c => ?_, fun c => ?_⟩
      · unfold qX12_goal_J58
        unfold qX12_goal_J63
        refine sX12_gate  hI  ?_
        intro x15_1041 p1042 q1043
        refine ⟨(by first | assumption | exact ⟨by omega, by omega⟩), ?_⟩
        refine ⟨fun c => ?_, fun c => ?_⟩
        · unfold qX12_goal_J84
          unfold qX12_goal_J89
          refine ⟨(by first | assumption | exact ⟨by omega, by omega⟩), ?_⟩
          refine ⟨fun c => ?_, fun c => ?_⟩
          · unfold qX12_goal_J111
            unfold qX12_goal_J113
            refine ⟨(by first | assumption | exact ⟨by omega, by omega⟩), ?_⟩
            refine ⟨fun c => ?_, fun c => ?_⟩
            · exact ih _ _ _ _ _ (hI.mono (by omega)) (by omega) (by first | assumption | exact ⟨by omega, by omega⟩) (by first | assumption | exact ⟨by omega, by omega⟩) (by omega)
            · refine ⟨(by first | assumption | exact ⟨by omega, by omega⟩), ?_⟩
              refine ⟨fun c => ?_, fun c => ?_⟩
              · exact ih _ _ _ _ _ (hI.mono (by omega)) (by omega) (by first | assumption | exact ⟨by omega, by omega⟩) (by first | assumption | exact ⟨by omega, by omega⟩) (by omega)
              · exact ih _ _ _ _ _ (hI.mono (by omega)) (by omega) (by first | assumption | exact ⟨by omega, by omega⟩) (by first | assumption | exact ⟨by omega, by omega⟩) (by omega)
          · refine ⟨(by first | assumption | exact ⟨by omega, by omega⟩), ?_⟩
            refine ⟨fun c => ?_, fun c => ?_⟩
            · unfold qX12_goal_J106
              unfold qX12_goal_J113
              refine ⟨(by first | assumption | exact ⟨by omega, by omega⟩), ?_⟩
              refine ⟨fun c => ?_, fun c => ?_⟩
              · exact ih _ _ _ _ _ (hI.mono (by omega)) (by omega) (by first | assumption | exact ⟨by omega, by omega⟩) (by first | assumption | exact ⟨by omega, by omega⟩) (by omega)
              · refine ⟨(by first | assumption | exact ⟨by omega, by omega⟩), ?_⟩
                refine ⟨fun c => ?_, fun c => ?_⟩
                · exact ih _ _ _ _ _ (hI.mono (by omega)) (by omega) (by first | assumption | exact ⟨by omega, by omega⟩) (by first | assumption | exact ⟨by omega, by omega⟩) (by omega)
                · exact ih _ _ _ _ _ (hI.mono (by omega)) (by omega) (by first | assumption | exact ⟨by omega, by omega⟩) (by first | assumption | exact ⟨by omega, by omega⟩) (by omega)
            · refine ⟨(by first | assumption | exact ⟨by omega, by omega⟩), ?_⟩
              refine ⟨fun c => ?_, fun c => ?_⟩
              · unfold qX12_goal_J111
                unfold qX12_goal_J113
                refine ⟨(by first | assumption | exact ⟨by omega, by omega⟩), ?_⟩
                refine ⟨fun c => ?_, fun c => ?_⟩
                · exact ih _ _ _ _ _ (hI.mono (by omega)) (by omega) (by first | assumption | exact ⟨by omega, by omega⟩) (by first | assumption | exact ⟨by omega, by omega⟩) (by omega)
                · refine ⟨(by first | assumption | exact ⟨by omega, by omega⟩), ?_⟩
                  refine ⟨fun c => ?_, fun c => ?_⟩
                  · exact ih _ _ _ _ _ (hI.mono (by omega)) (by omega) (by first | assumption | exact ⟨by omega, by omega⟩) (by first | assumption | exact ⟨by omega, by omega⟩) (by omega)
                  · exact ih _ _ _ _ _ (hI.mono (by omega)) (by omega) (by first | assumption | exact ⟨by omega, by omega⟩) (by first | assumption | exact ⟨by omega, by omega⟩) (by omega)
              · unfold qX12_goal_J106
                unfold qX12_goal_J113
                refine ⟨(by first | assumption | exact ⟨by omega, by omega⟩), ?_⟩
                refine ⟨fun c => ?_, fun c => ?_⟩
                · exact ih _ _ _ _ _ (hI.mono (by omega)) (by omega) (by first | assumption | exact ⟨by omega, by omega⟩) (by first | assumption | exact ⟨by omega, by omega⟩) (by omega)
                · refine ⟨(by first | assumption | exact ⟨by omega, by omega⟩), ?_⟩
                  refine ⟨fun c => ?_, fun c => ?_⟩
                  · exact ih _ _ _ _ _ (hI.mono (by omega)) (by omega) (by first | assumption | exact ⟨by omega, by omega⟩) (by first | assumption | exact ⟨by omega, by omega⟩) (by omega)
                  · exact ih _ _ _ _ _ (hI.mono (by omega)) (by omega) (by first | assumption | exact ⟨by omega, by omega⟩) (by first | assumption | exact ⟨by omega, by omega⟩) (by omega)
        · refine sX12_onCell (p2 := v8) hI hk1 ?_
          intro x28_1068 p1069 q1070
          refine ⟨fun c => ?_, fun c => ?_⟩
          · unfold qX12_goal_J89
            refine ⟨(by first | assumption | exact ⟨by omega, by omega⟩), ?_⟩
            refine ⟨fun c => ?_, fun c => ?_⟩
            · unfold qX12_goal_J111
              unfold qX12_goal_J113
              refine ⟨(by first | assumption | exact ⟨by omega, by omega⟩), ?_⟩
              refine ⟨fun c => ?_, fun c => ?_⟩
              · exact ih _ _ _ _ _ (hI.mono (by omega)) (by omega) (by first | assumption | exact ⟨by omega, by omega⟩) (by first | assumption | exact ⟨by omega, by omega⟩) (by omega)
              · refine ⟨(by first | assumption | exact ⟨by omega, by omega⟩), ?_⟩
                refine ⟨fun c => ?_, fun c => ?_⟩
                · exact ih _ _ _ _ _ (hI.mono (by omega)) (by omega) (by first | assumption | exact ⟨by omega, by omega⟩) (by first | assumption | exact ⟨by omega, by omega⟩) (by omega)
                · exact ih _ _ _ _ _ (hI.mono (by omega)) (by omega) (by first | assumption | exact ⟨by omega, by omega⟩) (by first | assumption | exact ⟨by omega, by omega⟩) (by omega)
            · refine ⟨(by first | assumption | exact ⟨by omega, by omega⟩), ?_⟩
              refine ⟨fun c => ?_, fun c => ?_⟩
              · unfold qX12_goal_J106
                unfold qX12_goal_J113
                refine ⟨(by first | assumption | exact ⟨by omega, by omega⟩), ?_⟩
                refine ⟨fun c => ?_, fun c => ?_⟩
                · exact ih _ _ _ _ _ (hI.mono (by omega)) (by omega) (by first | assumption | exact ⟨by omega, by omega⟩) (by first | assumption | exact ⟨by omega, by omega⟩) (by omega)
                · refine ⟨(by first | assumption | exact ⟨by omega, by omega⟩), ?_⟩
                  refine ⟨fun c => ?_, fun c => ?_⟩
                  · exact ih _ _ _ _ _ (hI.mono (by omega)) (by omega) (by first | assumption | exact ⟨by omega, by omega⟩) (by first | assumption | exact ⟨by omega, by omega⟩) (by omega)
                  · exact ih _ _ _ _ _ (hI.mono (by omega)) (by omega) (by first | assumption | exact ⟨by omega, by omega⟩) (by first | assumption | exact ⟨by omega, by omega⟩) (by omega)
              · refine ⟨(by first | assumption | exact ⟨by omega, by omega⟩), ?_⟩
                refine ⟨fun c => ?_, fun c => ?_⟩
                · unfold qX12_goal_J111
                  unfold qX12_goal_J113
                  refine ⟨(by first | assumption | exact ⟨by omega, by omega⟩), ?_⟩
                  refine ⟨fun c => ?_, fun c => ?_⟩
                  · exact ih _ _ _ _ _ (hI.mono (by omega)) (by omega) (by first | assumption | exact ⟨by omega, by omega⟩) (by first | assumption | exact ⟨by omega, by omega⟩) (by omega)
                  · refine ⟨(by first | assumption | exact ⟨by omega, by omega⟩), ?_⟩
                    refine ⟨fun c => ?_, fun c => ?_⟩
                    · exact ih _ _ _ _ _ (hI.mono (by omega)) (by omega) (by first | assumption | exact ⟨by omega, by omega⟩) (by first | assumption | exact ⟨by omega, by omega⟩) (by omega)
                    · exact ih _ _ _ _ _ (hI.mono (by omega)) (by omega) (by first | assumption | exact ⟨by omega, by omega⟩) (by first | assumption | exact ⟨by omega, by omega⟩) (by omega)
                · unfold qX12_goal_J106
                  unfold qX12_goal_J113
                  refine ⟨(by first | assumption | exact ⟨by omega, by omega⟩), ?_⟩
                  refine ⟨fun c => ?_, fun c => ?_⟩
                  · exact ih _ _ _ _ _ (hI.mono (by omega)) (by omega) (by first | assumption | exact ⟨by omega, by omega⟩) (by first | assumption | exact ⟨by omega, by omega⟩) (by omega)
                  · refine ⟨(by first | assumption | exact ⟨by omega, by omega⟩), ?_⟩
                    refine ⟨fun c => ?_, fun c => ?_⟩
                    · exact ih _ _ _ _ _ (hI.mono (by omega)) (by omega) (by first | assumption | exact ⟨by omega, by omega⟩) (by first | assumption | exact ⟨by omega, by omega⟩) (by omega)
                    · exact ih _ _ _ _ _ (hI.mono (by omega)) (by omega) (by first | assumption | exact ⟨by omega, by omega⟩) (by first | assumption | exact ⟨by omega, by omega⟩) (by omega)
          · unfold qX12_goal_J84
            unfold qX12_goal_J89
            refine ⟨(by first | assumption | exact ⟨by omega, by omega⟩), ?_⟩
            refine ⟨fun c => ?_, fun c => ?_⟩
            · unfold qX12_goal_J111
              unfold qX12_goal_J113
              refine ⟨(by first | assumption | exact ⟨by omega, by omega⟩), ?_⟩
              refine ⟨fun c => ?_, fun c => ?_⟩
              · exact ih _ _ _ _ _ (hI.mono (by omega)) (by omega) (by first | assumption | exact ⟨by omega, by omega⟩) (by first | assumption | exact ⟨by omega, by omega⟩) (by omega)
              · refine ⟨(by first | assumption | exact ⟨by omega, by omega⟩), ?_⟩
                refine ⟨fun c => ?_, fun c => ?_⟩
                · exact ih _ _ _ _ _ (hI.mono (by omega)) (by omega) (by first | assumption | exact ⟨by omega, by omega⟩) (by first | assumption | exact ⟨by omega, by omega⟩) (by omega)
                · exact ih _ _ _ _ _ (hI.mono (by omega)) (by omega) (by first | assumption | exact ⟨by omega, by omega⟩) (by first | assumption | exact ⟨by omega, by omega⟩) (by omega)
            · refine ⟨(by first | assumption | exact ⟨by omega, by omega⟩), ?_⟩
              refine ⟨fun c => ?_, fun c => ?_⟩
              · unfold qX12_goal_J106
                unfold qX12_goal_J113
                refine ⟨(by first | assumption | exact ⟨by omega, by omega⟩), ?_⟩
                refine ⟨fun c => ?_, fun c => ?_⟩
                · exact ih _ _ _ _ _ (hI.mono (by omega)) (by omega) (by first | assumption | exact ⟨by omega, by omega⟩) (by first | assumption | exact ⟨by omega, by omega⟩) (by omega)
                · refine ⟨(by first | assumption | exact ⟨by omega, by omega⟩), ?_⟩
                  refine ⟨fun c => ?_, fun c => ?_⟩
                  · exact ih _ _ _ _ _ (hI.mono (by omega)) (by omega) (by first | assumption | exact ⟨by omega, by omega⟩) (by first | assumption | exact ⟨by omega, by omega⟩) (by omega)
                  · exact ih _ _ _ _ _ (hI.mono (by omega)) (by omega) (by first | assumption | exact ⟨by omega, by omega⟩) (by first | assumption | exact ⟨by omega, by omega⟩) (by omega)
              · refine ⟨(by first | assumption | exact ⟨by omega, by omega⟩), ?_⟩
                refine ⟨fun c => ?_, fun c => ?_⟩
                · unfold qX12_goal_J111
                  unfold qX12_goal_J113
                  refine ⟨(by first | assumption | exact ⟨by omega, by omega⟩), ?_⟩
                  refine ⟨fun c => ?_, fun c => ?_⟩
                  · exact ih _ _ _ _ _ (hI.mono (by omega)) (by omega) (by first | assumption | exact ⟨by omega, by omega⟩) (by first | assumption | exact ⟨by omega, by omega⟩) (by omega)
                  · refine ⟨(by first | assumption | exact ⟨by omega, by omega⟩), ?_⟩
                    refine ⟨fun c => ?_, fun c => ?_⟩
                    · exact ih _ _ _ _ _ (hI.mono (by omega)) (by omega) (by first | assumption | exact ⟨by omega, by omega⟩) (by first | assumption | exact ⟨by omega, by omega⟩) (by omega)
                    · exact ih _ _ _ _ _ (hI.mono (by omega)) (by omega) (by first | assumption | exact ⟨by omega, by omega⟩) (by first | assumption | exact ⟨by omega, by omega⟩) (by omega)
                · unfold qX12_goal_J106
                  unfold qX12_goal_J113
                  refine ⟨(by first | assumption | exact ⟨by omega, by omega⟩), ?_⟩
                  refine ⟨fun c => ?_, fun c => ?_⟩
                  · exact ih _ _ _ _ _ (hI.mono (by omega)) (by omega) (by first | assumption | exact ⟨by omega, by omega⟩) (by first | assumption | exact ⟨by omega, by omega⟩) (by omega)
                  · refine ⟨(by first | assumption | exact ⟨by omega, by omega⟩), ?_⟩
                    refine ⟨fun c => ?_, fun c => ?_⟩
                    · exact ih _ _ _ _ _ (hI.mono (by omega)) (by omega) (by first | assumption | exact ⟨by omega, by omega⟩) (by first | assumption | exact ⟨by omega, by omega⟩) (by omega)
                    · exact ih _ _ _ _ _ (hI.mono (by omega)) (by omega) (by first | assumption | exact ⟨by omega, by omega⟩) (by first | assumption | exact ⟨by omega, by omega⟩) (by omega)
      · refine ⟨by omega, ?_⟩
        refine ⟨by omega, ?_⟩
        intro x32_1118 ex32_1118 rx32_1118
        have bx32_1118 : -2147483648 ≤ x32_1118 ∧ x32_1118 ≤ 2147483647 := rx32_1118
        refine ⟨fun c => ?_, fun c => ?_⟩
        · unfold qX12_goal_J63
          refine sX12_gate  hI  ?_
          intro x15_1120 p1121 q1122
          refine ⟨(by first | assumption | exact ⟨by omega, by omega⟩), ?_⟩
          refine ⟨fun c => ?_, fun c => ?_⟩
          · unfold qX12_goal_J84
            unfold qX12_goal_J89
            refine ⟨(by first | assumption | exact ⟨by omega, by omega⟩), ?_⟩
            refine ⟨fun c => ?_, fun c => ?_⟩
            · unfold qX12_goal_J111
              unfold qX12_goal_J113
              refine ⟨(by first | assumption | exact ⟨by omega, by omega⟩), ?_⟩
              refine ⟨fun c => ?_, fun c => ?_⟩
              · exact ih _ _ _ _ _ (hI.mono (by omega)) (by omega) (by first | assumption | exact ⟨by omega, by omega⟩) (by first | assumption | exact ⟨by omega, by omega⟩) (by omega)
              · refine ⟨(by first | assumption | exact ⟨by omega, by omega⟩), ?_⟩
                refine ⟨fun c => ?_, fun c => ?_⟩
                · exact ih _ _ _ _ _ (hI.mono (by omega)) (by omega) (by first | assumption | exact ⟨by omega, by omega⟩) (by first | assumption | exact ⟨by omega, by omega⟩) (by omega)
                · exact ih _ _ _ _ _ (hI.mono (by omega)) (by omega) (by first | assumption | exact ⟨by omega, by omega⟩) (by first | assumption | exact ⟨by omega, by omega⟩) (by omega)
            · refine ⟨(by first | assumption | exact ⟨by omega, by omega⟩), ?_⟩
              refine ⟨fun c => ?_, fun c => ?_⟩
              · unfold qX12_goal_J106
                unfold qX12_goal_J113
                refine ⟨(by first | assumption | exact ⟨by omega, by omega⟩), ?_⟩
                refine ⟨fun c => ?_, fun c => ?_⟩
                · exact ih _ _ _ _ _ (hI.mono (by omega)) (by omega) (by first | assumption | exact ⟨by omega, by omega⟩) (by first | assumption | exact ⟨by omega, by omega⟩) (by omega)
                · refine ⟨(by first | assumption | exact ⟨by omega, by omega⟩), ?_⟩
                  refine ⟨fun c => ?_, fun c => ?_⟩
                  · exact ih _ _ _ _ _ (hI.mono (by omega)) (by omega) (by first | assumption | exact ⟨by omega, by omega⟩) (by first | assumption | exact ⟨by omega, by omega⟩) (by omega)
                  · exact ih _ _ _ _ _ (hI.mono (by omega)) (by omega) (by first | assumption | exact ⟨by omega, by omega⟩) (by first | assumption | exact ⟨by omega, by omega⟩) (by omega)
              · refine ⟨(by first | assumption | exact ⟨by omega, by omega⟩), ?_⟩
                refine ⟨fun c => ?_, fun c => ?_⟩
                · unfold qX12_goal_J111
                  unfold qX12_goal_J113
                  refine ⟨(by first | assumption | exact ⟨by omega, by omega⟩), ?_⟩
                  refine ⟨fun c => ?_, fun c => ?_⟩
                  · exact ih _ _ _ _ _ (hI.mono (by omega)) (by omega) (by first | assumption | exact ⟨by omega, by omega⟩) (by first | assumption | exact ⟨by omega, by omega⟩) (by omega)
                  · refine ⟨(by first | assumption | exact ⟨by omega, by omega⟩), ?_⟩
                    refine ⟨fun c => ?_, fun c => ?_⟩
                    · exact ih _ _ _ _ _ (hI.mono (by omega)) (by omega) (by first | assumption | exact ⟨by omega, by omega⟩) (by first | assumption | exact ⟨by omega, by omega⟩) (by omega)
                    · exact ih _ _ _ _ _ (hI.mono (by omega)) (by omega) (by first | assumption | exact ⟨by omega, by omega⟩) (by first | assumption | exact ⟨by omega, by omega⟩) (by omega)
                · unfold qX12_goal_J106
                  unfold qX12_goal_J113
                  refine ⟨(by first | assumption | exact ⟨by omega, by omega⟩), ?_⟩
                  refine ⟨fun c => ?_, fun c => ?_⟩
                  · exact ih _ _ _ _ _ (hI.mono (by omega)) (by omega) (by first | assumption | exact ⟨by omega, by omega⟩) (by first | assumption | exact ⟨by omega, by omega⟩) (by omega)
                  · refine ⟨(by first | assumption | exact ⟨by omega, by omega⟩), ?_⟩
                    refine ⟨fun c => ?_, fun c => ?_⟩
                    · exact ih _ _ _ _ _ (hI.mono (by omega)) (by omega) (by first | assumption | exact ⟨by omega, by omega⟩) (by first | assumption | exact ⟨by omega, by omega⟩) (by omega)
                    · exact ih _ _ _ _ _ (hI.mono (by omega)) (by omega) (by first | assumption | exact ⟨by omega, by omega⟩) (by first | assumption | exact ⟨by omega, by omega⟩) (by omega)
          · refine sX12_onCell (p2 := v8) hI hk1 ?_
            intro x28_1147 p1148 q1149
            refine ⟨fun c => ?_, fun c => ?_⟩
            · unfold qX12_goal_J89
              refine ⟨(by first | assumption | exact ⟨by omega, by omega⟩), ?_⟩
              refine ⟨fun c => ?_, fun c => ?_⟩
              · unfold qX12_goal_J111
                unfold qX12_goal_J113
                refine ⟨(by first | assumption | exact ⟨by omega, by omega⟩), ?_⟩
                refine ⟨fun c => ?_, fun c => ?_⟩
                · exact ih _ _ _ _ _ (hI.mono (by omega)) (by omega) (by first | assumption | exact ⟨by omega, by omega⟩) (by first | assumption | exact ⟨by omega, by omega⟩) (by omega)
                · refine ⟨(by first | assumption | exact ⟨by omega, by omega⟩), ?_⟩
                  refine ⟨fun c => ?_, fun c => ?_⟩
                  · exact ih _ _ _ _ _ (hI.mono (by omega)) (by omega) (by first | assumption | exact ⟨by omega, by omega⟩) (by first | assumption | exact ⟨by omega, by omega⟩) (by omega)
                  · exact ih _ _ _ _ _ (hI.mono (by omega)) (by omega) (by first | assumption | exact ⟨by omega, by omega⟩) (by first | assumption | exact ⟨by omega, by omega⟩) (by omega)
              · refine ⟨(by first | assumption | exact ⟨by omega, by omega⟩), ?_⟩
                refine ⟨fun c => ?_, fun c => ?_⟩
                · unfold qX12_goal_J106
                  unfold qX12_goal_J113
                  refine ⟨(by first | assumption | exact ⟨by omega, by omega⟩), ?_⟩
                  refine ⟨fun c => ?_, fun c => ?_⟩
                  · exact ih _ _ _ _ _ (hI.mono (by omega)) (by omega) (by first | assumption | exact ⟨by omega, by omega⟩) (by first | assumption | exact ⟨by omega, by omega⟩) (by omega)
                  · refine ⟨(by first | assumption | exact ⟨by omega, by omega⟩), ?_⟩
                    refine ⟨fun c => ?_, fun c => ?_⟩
                    · exact ih _ _ _ _ _ (hI.mono (by omega)) (by omega) (by first | assumption | exact ⟨by omega, by omega⟩) (by first | assumption | exact ⟨by omega, by omega⟩) (by omega)
                    · exact ih _ _ _ _ _ (hI.mono (by omega)) (by omega) (by first | assumption | exact ⟨by omega, by omega⟩) (by first | assumption | exact ⟨by omega, by omega⟩) (by omega)
                · refine ⟨(by first | assumption | exact ⟨by omega, by omega⟩), ?_⟩
                  refine ⟨fun c => ?_, fun c => ?_⟩
                  · unfold qX12_goal_J111
                    unfold qX12_goal_J113
                    refine ⟨(by first | assumption | exact ⟨by omega, by omega⟩), ?_⟩
                    refine ⟨fun c => ?_, fun c => ?_⟩
                    · exact ih _ _ _ _ _ (hI.mono (by omega)) (by omega) (by first | assumption | exact ⟨by omega, by omega⟩) (by first | assumption | exact ⟨by omega, by omega⟩) (by omega)
                    · refine ⟨(by first | assumption | exact ⟨by omega, by omega⟩), ?_⟩
                      refine ⟨fun c => ?_, fun c => ?_⟩
                      · exact ih _ _ _ _ _ (hI.mono (by omega)) (by omega) (by first | assumption | exact ⟨by omega, by omega⟩) (by first | assumption | exact ⟨by omega, by omega⟩) (by omega)
                      · exact ih _ _ _ _ _ (hI.mono (by omega)) (by omega) (by first | assumption | exact ⟨by omega, by omega⟩) (by first | assumption | exact ⟨by omega, by omega⟩) (by omega)
                  · unfold qX12_goal_J106
                    unfold qX12_goal_J113
                    refine ⟨(by first | assumption | exact ⟨by omega, by omega⟩), ?_⟩
                    refine ⟨fun c => ?_, fun c => ?_⟩
                    · exact ih _ _ _ _ _ (hI.mono (by omega)) (by omega) (by first | assumption | exact ⟨by omega, by omega⟩) (by first | assumption | exact ⟨by omega, by omega⟩) (by omega)
                    · refine ⟨(by first | assumption | exact ⟨by omega, by omega⟩), ?_⟩
                      refine ⟨fun c => ?_, fun c => ?_⟩
                      · exact ih _ _ _ _ _ (hI.mono (by omega)) (by omega) (by first | assumption | exact ⟨by omega, by omega⟩) (by first | assumption | exact ⟨by omega, by omega⟩) (by omega)
                      · exact ih _ _ _ _ _ (hI.mono (by omega)) (by omega) (by first | assumption | exact ⟨by omega, by omega⟩) (by first | assumption | exact ⟨by omega, by omega⟩) (by omega)
            · unfold qX12_goal_J84
              unfold qX12_goal_J89
              refine ⟨(by first | assumption | exact ⟨by omega, by omega⟩), ?_⟩
              refine ⟨fun c => ?_, fun c => ?_⟩
              · unfold qX12_goal_J111
                unfold qX12_goal_J113
                refine ⟨(by first | assumption | exact ⟨by omega, by omega⟩), ?_⟩
                refine ⟨fun c => ?_, fun c => ?_⟩
                · exact ih _ _ _ _ _ (hI.mono (by omega)) (by omega) (by first | assumption | exact ⟨by omega, by omega⟩) (by first | assumption | exact ⟨by omega, by omega⟩) (by omega)
                · refine ⟨(by first | assumption | exact ⟨by omega, by omega⟩), ?_⟩
                  refine ⟨fun c => ?_, fun c => ?_⟩
                  · exact ih _ _ _ _ _ (hI.mono (by omega)) (by omega) (by first | assumption | exact ⟨by omega, by omega⟩) (by first | assumption | exact ⟨by omega, by omega⟩) (by omega)
                  · exact ih _ _ _ _ _ (hI.mono (by omega)) (by omega) (by first | assumption | exact ⟨by omega, by omega⟩) (by first | assumption | exact ⟨by omega, by omega⟩) (by omega)
              · refine ⟨(by first | assumption | exact ⟨by omega, by omega⟩), ?_⟩
                refine ⟨fun c => ?_, fun c => ?_⟩
                · unfold qX12_goal_J106
                  unfold qX12_goal_J113
                  refine ⟨(by first | assumption | exact ⟨by omega, by omega⟩), ?_⟩
                  refine ⟨fun c => ?_, fun c => ?_⟩
                  · exact ih _ _ _ _ _ (hI.mono (by omega)) (by omega) (by first | assumption | exact ⟨by omega, by omega⟩) (by first | assumption | exact ⟨by omega, by omega⟩) (by omega)
                  · refine ⟨(by first | assumption | exact ⟨by omega, by omega⟩), ?_⟩
                    refine ⟨fun c => ?_, fun c => ?_⟩
                    · exact ih _ _ _ _ _ (hI.mono (by omega)) (by omega) (by first | assumption | exact ⟨by omega, by omega⟩) (by first | assumption | exact ⟨by omega, by omega⟩) (by omega)
                    · exact ih _ _ _ _ _ (hI.mono (by omega)) (by omega) (by first | assumption | exact ⟨by omega, by omega⟩) (by first | assumption | exact ⟨by omega, by omega⟩) (by omega)
                · refine ⟨(by first | assumption | exact ⟨by omega, by omega⟩), ?_⟩
                  refine ⟨fun c => ?_, fun c => ?_⟩
                  · unfold qX12_goal_J111
                    unfold qX12_goal_J113
                    refine ⟨(by first | assumption | exact ⟨by omega, by omega⟩), ?_⟩
                    refine ⟨fun c => ?_, fun c => ?_⟩
                    · exact ih _ _ _ _ _ (hI.mono (by omega)) (by omega) (by first | assumption | exact ⟨by omega, by omega⟩) (by first | assumption | exact ⟨by omega, by omega⟩) (by omega)
                    · refine ⟨(by first | assumption | exact ⟨by omega, by omega⟩), ?_⟩
                      refine ⟨fun c => ?_, fun c => ?_⟩
                      · exact ih _ _ _ _ _ (hI.mono (by omega)) (by omega) (by first | assumption | exact ⟨by omega, by omega⟩) (by first | assumption | exact ⟨by omega, by omega⟩) (by omega)
                      · exact ih _ _ _ _ _ (hI.mono (by omega)) (by omega) (by first | assumption | exact ⟨by omega, by omega⟩) (by first | assumption | exact ⟨by omega, by omega⟩) (by omega)
                  · unfold qX12_goal_J106
                    unfold qX12_goal_J113
                    refine ⟨(by first | assumption | exact ⟨by omega, by omega⟩), ?_⟩
                    refine ⟨fun c => ?_, fun c => ?_⟩
                    · exact ih _ _ _ _ _ (hI.mono (by omega)) (by omega) (by first | assumption | exact ⟨by omega, by omega⟩) (by first | assumption | exact ⟨by omega, by omega⟩) (by omega)
                    · refine ⟨(by first | assumption | exact ⟨by omega, by omega⟩), ?_⟩
                      refine ⟨fun c => ?_, fun c => ?_⟩
                      · exact ih _ _ _ _ _ (hI.mono (by omega)) (by omega) (by first | assumption | exact ⟨by omega, by omega⟩) (by first | assumption | exact ⟨by omega, by omega⟩) (by omega)
                      · exact ih _ _ _ _ _ (hI.mono (by omega)) (by omega) (by first | assumption | exact ⟨by omega, by omega⟩) (by first | assumption | exact ⟨by omega, by omega⟩) (by omega)
        · unfold qX12_goal_J58
          unfold qX12_goal_J63
          refine sX12_gate  hI  ?_
          intro x15_1197 p1198 q1199
          refine ⟨(by first | assumption | exact ⟨by omega, by omega⟩), ?_⟩
          refine ⟨fun c => ?_, fun c => ?_⟩
          · unfold qX12_goal_J84
            unfold qX12_goal_J89
            refine ⟨(by first | assumption | exact ⟨by omega, by omega⟩), ?_⟩
            refine ⟨fun c => ?_, fun c => ?_⟩
            · unfold qX12_goal_J111
              unfold qX12_goal_J113
              refine ⟨(by first | assumption | exact ⟨by omega, by omega⟩), ?_⟩
              refine ⟨fun c => ?_, fun c => ?_⟩
              · exact ih _ _ _ _ _ (hI.mono (by omega)) (by omega) (by first | assumption | exact ⟨by omega, by omega⟩) (by first | assumption | exact ⟨by omega, by omega⟩) (by omega)
              · refine ⟨(by first | assumption | exact ⟨by omega, by omega⟩), ?_⟩
                refine ⟨fun c => ?_, fun c => ?_⟩
                · exact ih _ _ _ _ _ (hI.mono (by omega)) (by omega) (by first | assumption | exact ⟨by omega, by omega⟩) (by first | assumption | exact ⟨by omega, by omega⟩) (by omega)
                · exact ih _ _ _ _ _ (hI.mono (by omega)) (by omega) (by first | assumption | exact ⟨by omega, by omega⟩) (by first | assumption | exact ⟨by omega, by omega⟩) (by omega)
            · refine ⟨(by first | assumption | exact ⟨by omega, by omega⟩), ?_⟩
              refine ⟨fun c => ?_, fun c => ?_⟩
              · unfold qX12_goal_J106
                unfold qX12_goal_J113
                refine ⟨(by first | assumption | exact ⟨by omega, by omega⟩), ?_⟩
                refine ⟨fun c => ?_, fun c => ?_⟩
                · exact ih _ _ _ _ _ (hI.mono (by omega)) (by omega) (by first | assumption | exact ⟨by omega, by omega⟩) (by first | assumption | exact ⟨by omega, by omega⟩) (by omega)
                · refine ⟨(by first | assumption | exact ⟨by omega, by omega⟩), ?_⟩
                  refine ⟨fun c => ?_, fun c => ?_⟩
                  · exact ih _ _ _ _ _ (hI.mono (by omega)) (by omega) (by first | assumption | exact ⟨by omega, by omega⟩) (by first | assumption | exact ⟨by omega, by omega⟩) (by omega)
                  · exact ih _ _ _ _ _ (hI.mono (by omega)) (by omega) (by first | assumption | exact ⟨by omega, by omega⟩) (by first | assumption | exact ⟨by omega, by omega⟩) (by omega)
              · refine ⟨(by first | assumption | exact ⟨by omega, by omega⟩), ?_⟩
                refine ⟨fun c => ?_, fun c => ?_⟩
                · unfold qX12_goal_J111
                  unfold qX12_goal_J113
                  refine ⟨(by first | assumption | exact ⟨by omega, by omega⟩), ?_⟩
                  refine ⟨fun c => ?_, fun c => ?_⟩
                  · exact ih _ _ _ _ _ (hI.mono (by omega)) (by omega) (by first | assumption | exact ⟨by omega, by omega⟩) (by first | assumption | exact ⟨by omega, by omega⟩) (by omega)
                  · refine ⟨(by first | assumption | exact ⟨by omega, by omega⟩), ?_⟩
                    refine ⟨fun c => ?_, fun c => ?_⟩
                    · exact ih _ _ _ _ _ (hI.mono (by omega)) (by omega) (by first | assumption | exact ⟨by omega, by omega⟩) (by first | assumption | exact ⟨by omega, by omega⟩) (by omega)
                    · exact ih _ _ _ _ _ (hI.mono (by omega)) (by omega) (by first | assumption | exact ⟨by omega, by omega⟩) (by first | assumption | exact ⟨by omega, by omega⟩) (by omega)
                · unfold qX12_goal_J106
                  unfold qX12_goal_J113
                  refine ⟨(by first | assumption | exact ⟨by omega, by omega⟩), ?_⟩
                  refine ⟨fun c => ?_, fun c => ?_⟩
                  · exact ih _ _ _ _ _ (hI.mono (by omega)) (by omega) (by first | assumption | exact ⟨by omega, by omega⟩) (by first | assumption | exact ⟨by omega, by omega⟩) (by omega)
                  · refine ⟨(by first | assumption | exact ⟨by omega, by omega⟩), ?_⟩
                    refine ⟨fun c => ?_, fun c => ?_⟩
                    · exact ih _ _ _ _ _ (hI.mono (by omega)) (by omega) (by first | assumption | exact ⟨by omega, by omega⟩) (by first | assumption | exact ⟨by omega, by omega⟩) (by omega)
                    · exact ih _ _ _ _ _ (hI.mono (by omega)) (by omega) (by first | assumption | exact ⟨by omega, by omega⟩) (by first | assumption | exact ⟨by omega, by omega⟩) (by omega)
          · refine sX12_onCell (p2 := v8) hI hk1 ?_
            intro x28_1224 p1225 q1226
            refine ⟨fun c => ?_, fun c => ?_⟩
            · unfold qX12_goal_J89
              refine ⟨(by first | assumption | exact ⟨by omega, by omega⟩), ?_⟩
              refine ⟨fun c => ?_, fun c => ?_⟩
              · unfold qX12_goal_J111
                unfold qX12_goal_J113
                refine ⟨(by first | assumption | exact ⟨by omega, by omega⟩), ?_⟩
                refine ⟨fun c => ?_, fun c => ?_⟩
                · exact ih _ _ _ _ _ (hI.mono (by omega)) (by omega) (by first | assumption | exact ⟨by omega, by omega⟩) (by first | assumption | exact ⟨by omega, by omega⟩) (by omega)
                · refine ⟨(by first | assumption | exact ⟨by omega, by omega⟩), ?_⟩
                  refine ⟨fun c => ?_, fun c => ?_⟩
                  · exact ih _ _ _ _ _ (hI.mono (by omega)) (by omega) (by first | assumption | exact ⟨by omega, by omega⟩) (by first | assumption | exact ⟨by omega, by omega⟩) (by omega)
                  · exact ih _ _ _ _ _ (hI.mono (by omega)) (by omega) (by first | assumption | exact ⟨by omega, by omega⟩) (by first | assumption | exact ⟨by omega, by omega⟩) (by omega)
              · refine ⟨(by first | assumption | exact ⟨by omega, by omega⟩), ?_⟩
                refine ⟨fun c => ?_, fun c => ?_⟩
                · unfold qX12_goal_J106
                  unfold qX12_goal_J113
                  refine ⟨(by first | assumption | exact ⟨by omega, by omega⟩), ?_⟩
                  refine ⟨fun c => ?_, fun c => ?_⟩
                  · exact ih _ _ _ _ _ (hI.mono (by omega)) (by omega) (by first | assumption | exact ⟨by omega, by omega⟩) (by first | assumption | exact ⟨by omega, by omega⟩) (by omega)
                  · refine ⟨(by first | assumption | exact ⟨by omega, by omega⟩), ?_⟩
                    refine ⟨fun c => ?_, fun c => ?_⟩
                    · exact ih _ _ _ _ _ (hI.mono (by omega)) (by omega) (by first | assumption | exact ⟨by omega, by omega⟩) (by first | assumption | exact ⟨by omega, by omega⟩) (by omega)
                    · exact ih _ _ _ _ _ (hI.mono (by omega)) (by omega) (by first | assumption | exact ⟨by omega, by omega⟩) (by first | assumption | exact ⟨by omega, by omega⟩) (by omega)
                · refine ⟨(by first | assumption | exact ⟨by omega, by omega⟩), ?_⟩
                  refine ⟨fun c => ?_, fun c => ?_⟩
                  · unfold qX12_goal_J111
                    unfold qX12_goal_J113
                    refine ⟨(by first | assumption | exact ⟨by omega, by omega⟩), ?_⟩
                    refine ⟨fun c => ?_, fun c => ?_⟩
                    · exact ih _ _ _ _ _ (hI.mono (by omega)) (by omega) (by first | assumption | exact ⟨by omega, by omega⟩) (by first | assumption | exact ⟨by omega, by omega⟩) (by omega)
                    · refine ⟨(by first | assumption | exact ⟨by omega, by omega⟩), ?_⟩
                      refine ⟨fun c => ?_, fun c => ?_⟩
                      · exact ih _ _ _ _ _ (hI.mono (by omega)) (by omega) (by first | assumption | exact ⟨by omega, by omega⟩) (by first | assumption | exact ⟨by omega, by omega⟩) (by omega)
                      · exact ih _ _ _ _ _ (hI.mono (by omega)) (by omega) (by first | assumption | exact ⟨by omega, by omega⟩) (by first | assumption | exact ⟨by omega, by omega⟩) (by omega)
                  · unfold qX12_goal_J106
                    unfold qX12_goal_J113
                    refine ⟨(by first | assumption | exact ⟨by omega, by omega⟩), ?_⟩
                    refine ⟨fun c => ?_, fun c => ?_⟩
                    · exact ih _ _ _ _ _ (hI.mono (by omega)) (by omega) (by first | assumption | exact ⟨by omega, by omega⟩) (by first | assumption | exact ⟨by omega, by omega⟩) (by omega)
                    · refine ⟨(by first | assumption | exact ⟨by omega, by omega⟩), ?_⟩
                      refine ⟨fun c => ?_, fun c => ?_⟩
                      · exact ih _ _ _ _ _ (hI.mono (by omega)) (by omega) (by first | assumption | exact ⟨by omega, by omega⟩) (by first | assumption | exact ⟨by omega, by omega⟩) (by omega)
                      · exact ih _ _ _ _ _ (hI.mono (by omega)) (by omega) (by first | assumption | exact ⟨by omega, by omega⟩) (by first | assumption | exact ⟨by omega, by omega⟩) (by omega)
            · unfold qX12_goal_J84
              unfold qX12_goal_J89
              refine ⟨(by first | assumption | exact ⟨by omega, by omega⟩), ?_⟩
              refine ⟨fun c => ?_, fun c => ?_⟩
              · unfold qX12_goal_J111
                unfold qX12_goal_J113
                refine ⟨(by first | assumption | exact ⟨by omega, by omega⟩), ?_⟩
                refine ⟨fun c => ?_, fun c => ?_⟩
                · exact ih _ _ _ _ _ (hI.mono (by omega)) (by omega) (by first | assumption | exact ⟨by omega, by omega⟩) (by first | assumption | exact ⟨by omega, by omega⟩) (by omega)
                · refine ⟨(by first | assumption | exact ⟨by omega, by omega⟩), ?_⟩
                  refine ⟨fun c => ?_, fun c => ?_⟩
                  · exact ih _ _ _ _ _ (hI.mono (by omega)) (by omega) (by first | assumption | exact ⟨by omega, by omega⟩) (by first | assumption | exact ⟨by omega, by omega⟩) (by omega)
                  · exact ih _ _ _ _ _ (hI.mono (by omega)) (by omega) (by first | assumption | exact ⟨by omega, by omega⟩) (by first | assumption | exact ⟨by omega, by omega⟩) (by omega)
              · refine ⟨(by first | assumption | exact ⟨by omega, by omega⟩), ?_⟩
                refine ⟨fun c => ?_, fun c => ?_⟩
                · unfold qX12_goal_J106
                  unfold qX12_goal_J113
                  refine ⟨(by first | assumption | exact ⟨by omega, by omega⟩), ?_⟩
                  refine ⟨fun c => ?_, fun c => ?_⟩
                  · exact ih _ _ _ _ _ (hI.mono (by omega)) (by omega) (by first | assumption | exact ⟨by omega, by omega⟩) (by first | assumption | exact ⟨by omega, by omega⟩) (by omega)
                  · refine ⟨(by first | assumption | exact ⟨by omega, by omega⟩), ?_⟩
                    refine ⟨fun c => ?_, fun c => ?_⟩
                    · exact ih _ _ _ _ _ (hI.mono (by omega)) (by omega) (by first | assumption | exact ⟨by omega, by omega⟩) (by first | assumption | exact ⟨by omega, by omega⟩) (by omega)
                    · exact ih _ _ _ _ _ (hI.mono (by omega)) (by omega) (by first | assumption | exact ⟨by omega, by omega⟩) (by first | assumption | exact ⟨by omega, by omega⟩) (by omega)
                · refine ⟨(by first | assumption | exact ⟨by omega, by omega⟩), ?_⟩
                  refine ⟨fun c => ?_, fun c => ?_⟩
                  · unfold qX12_goal_J111
                    unfold qX12_goal_J113
                    refine ⟨(by first | assumption | exact ⟨by omega, by omega⟩), ?_⟩
                    refine ⟨fun c => ?_, fun c => ?_⟩
                    · exact ih _ _ _ _ _ (hI.mono (by omega)) (by omega) (by first | assumption | exact ⟨by omega, by omega⟩) (by first | assumption | exact ⟨by omega, by omega⟩) (by omega)
                    · refine ⟨(by first | assumption | exact ⟨by omega, by omega⟩), ?_⟩
                      refine ⟨fun c => ?_, fun c => ?_⟩
                      · exact ih _ _ _ _ _ (hI.mono (by omega)) (by omega) (by first | assumption | exact ⟨by omega, by omega⟩) (by first | assumption | exact ⟨by omega, by omega⟩) (by omega)
                      · exact ih _ _ _ _ _ (hI.mono (by omega)) (by omega) (by first | assumption | exact ⟨by omega, by omega⟩) (by first | assumption | exact ⟨by omega, by omega⟩) (by omega)
                  · unfold qX12_goal_J106
                    unfold qX12_goal_J113
                    refine ⟨(by first | assumption | exact ⟨by omega, by omega⟩), ?_⟩
                    refine ⟨fun c => ?_, fun c => ?_⟩
                    · exact ih _ _ _ _ _ (hI.mono (by omega)) (by omega) (by first | assumption | exact ⟨by omega, by omega⟩) (by first | assumption | exact ⟨by omega, by omega⟩) (by omega)
                    · refine ⟨(by first | assumption | exact ⟨by omega, by omega⟩), ?_⟩
                      refine ⟨fun c => ?_, fun c => ?_⟩
                      · exact ih _ _ _ _ _ (hI.mono (by omega)) (by omega) (by first | assumption | exact ⟨by omega, by omega⟩) (by first | assumption | exact ⟨by omega, by omega⟩) (by omega)
                      · exact ih _ _ _ _ _ (hI.mono (by omega)) (by omega) (by first | assumption | exact ⟨by omega, by omega⟩) (by first | assumption | exact ⟨by omega, by omega⟩) (by omega)
theorem sX12_goal {k1 : Nat} {p2 : Int} {p3 : Int} {b : Int} {M : Mem} {Q : Int → Mem → Prop} (hI : IM b M) (hk1 : isN k1) (hp : 0 ≤ p2 ∧ p2 ≤ 5 ∧ 0 ≤ M k1 p2 ∧ 0 ≤ p3 ∧ p3 ≤ 3) (hQ : ∀ z : Int, (0 ≤ z ∧ z ≤ 29) → Q z M) : qX12_goal k1 p2 p3 M Q := by
  unfold qX12_goal
  have hbn := hI.nn
  have ek1 : k1 = 5 ∨ k1 = 6 := hk1
  refine ⟨by omega, ?_⟩
  refine ⟨by omega, ?_⟩
  intro x3_1273 ex3_1273 rx3_1273
  have rbx3_1273 : -2147483648 ≤ x3_1273 ∧ x3_1273 ≤ 2147483647 := rx3_1273
  have nbx3_1273 : BN (b) p2 x3_1273 := by rw [ex3_1273]; exact (bm_n hk1).mp (hI.bx _ _)
  first | (have bx3_1273 : -1 ≤ x3_1273 ∧ x3_1273 ≤ 29 := nbx3_1273.1 ⟨by omega, by omega⟩) | (have bx3_1273 : -1 ≤ x3_1273 ∧ x3_1273 ≤ 29 := nbx3_1273.2.1 ⟨by omega, by omega⟩) | skip
  refine ⟨by omega, ?_⟩
  refine ⟨by omega, ?_⟩
  intro x6_1274 ex6_1274 rx6_1274
  have bx6_1274 : -2147483648 ≤ x6_1274 ∧ x6_1274 ≤ 2147483647 := rx6_1274
  have cgx6_1274 : x6_1274 = M 2 (M k1 p2) := by rw [ex6_1274, ← ex3_1273]
  refine ⟨31, ?_⟩
  refine sX12_goal_L27 (b := b) (p2 := p2) (p3 := p3) (M0 := M) hk1 ?_ _ _ _ _ _ _ (hI.mono (by omega)) (by omega) (by first | assumption | exact ⟨by omega, by omega⟩) (by first | assumption | exact ⟨by omega, by omega⟩) (by omega)
  · exact hQ
theorem sX12_hearseGoes {k1 : Nat} {p2 : Int} {b : Int} {M : Mem} {Q : Mem → Prop} (hI : IM b M) (hk1 : isN k1) (hp : 0 ≤ p2 ∧ p2 ≤ 5 ∧ 0 ≤ M k1 p2) (hQ : ∀ M' : Mem, IM b M' → FrJ (fun k j => (k = k1 ∧ (j = p2 ∨ j = 6 + p2 ∨ j = 12)) ∨ k = 14 ∨ k = 13 ∨ (k = 1 ∧ j = 30) ∨ k = 16) M M' → Q M') : qX12_hearseGoes k1 p2 M Q := by
  unfold qX12_hearseGoes
  have hbn := hI.nn
  have ek1 : k1 = 5 ∨ k1 = 6 := hk1
  refine sX12_paceOf (p2 := p2) hI hk1 (by omega) ?_
  intro x1_1275 M1_1276 hM1_1276 gM1_1276 p1277 q1278
  have hFM1_1276 : FrJ (fun k j => (k = k1 ∧ (j = p2 ∨ j = 6 + p2 ∨ j = 12)) ∨ k = 14 ∨ k = 13 ∨ (k = 1 ∧ j = 30) ∨ k = 16) M M1_1276 := (FrJ.rf).tr (gM1_1276.mono (by intro k j h; omega))
  first | (have t1279 : M1_1276 k1 p2 = M k1 p2 := gM1_1276 k1 p2 (by omega)) | skip
  first | (have t1280 : M1_1276 k1 p2 = M k1 p2 := gM1_1276 k1 p2 (by omega)) | skip
  refine sX12_goal (p2 := p2) (p3 := x1_1275) hM1_1276 hk1 (by omega) ?_
  intro x2_1281 p1282 q1283
  refine ⟨by omega, ?_⟩
  refine ⟨by omega, ?_⟩
  intro x5_1284 ex5_1284 rx5_1284
  have rbx5_1284 : -2147483648 ≤ x5_1284 ∧ x5_1284 ≤ 2147483647 := rx5_1284
  have nbx5_1284 : BN (b) p2 x5_1284 := by rw [ex5_1284]; exact (bm_n hk1).mp (hM1_1276.bx _ _)
  first | (have bx5_1284 : -1 ≤ x5_1284 ∧ x5_1284 ≤ 29 := nbx5_1284.1 ⟨by omega, by omega⟩) | (have bx5_1284 : -1 ≤ x5_1284 ∧ x5_1284 ≤ 29 := nbx5_1284.2.1 ⟨by omega, by omega⟩) | skip
  refine ⟨fun c => ?_, fun c => ?_⟩
  · refine sX12_gate  hM1_1276  ?_
    intro x7_1286 p1287 q1288
    refine ⟨fun c => ?_, fun c => ?_⟩
    · intro M9_1290 h_M9_1290
      have hM9_1290 : IM (b) M9_1290 := by rw [h_M9_1290]; exact hM1_1276.up (by omega) ((bm_n hk1).mpr (by first | assumption | exact ⟨by omega, by omega, by omega, by omega⟩))
      have hFM9_1290 : FrJ (fun k j => (k = k1 ∧ (j = p2 ∨ j = 6 + p2 ∨ j = 12)) ∨ k = 14 ∨ k = 13 ∨ (k = 1 ∧ j = 30) ∨ k = 16) M M9_1290 := by rw [h_M9_1290]; exact (hFM1_1276).up (by omega)
      exact hQ _ (hM9_1290.mono (by omega)) hFM9_1290
    · intro x10_1292 ex10_1292 rx10_1292
      have bx10_1292 : -2147483648 ≤ x10_1292 ∧ x10_1292 ≤ 2147483647 := rx10_1292
      intro x11_1293 ex11_1293 rx11_1293
      first | (have fx11_1293 : x11_1293 = x10_1292 + 1 := by rw [ex11_1293]; exact w32_id ⟨by omega, by omega⟩) | skip
      intro M12_1294 h_M12_1294
      have hM12_1294 : IM (b) M12_1294 := by rw [h_M12_1294]; exact hM1_1276.up (by omega) ((bm_n hk1).mpr (by first | assumption | exact ⟨by omega, by omega, by omega, by omega⟩))
      have hFM12_1294 : FrJ (fun k j => (k = k1 ∧ (j = p2 ∨ j = 6 + p2 ∨ j = 12)) ∨ k = 14 ∨ k = 13 ∨ (k = 1 ∧ j = 30) ∨ k = 16) M M12_1294 := by rw [h_M12_1294]; exact (hFM1_1276).up (by omega)
      intro x13_1295 ex13_1295 rx13_1295
      have bx13_1295 : -2147483648 ≤ x13_1295 ∧ x13_1295 ≤ 2147483647 := rx13_1295
      have fx13_1295 : x13_1295 = x11_1293 := by rw [ex13_1295, h_M12_1294, up2_s]
      refine ⟨by omega, ?_⟩
      refine ⟨by omega, ?_⟩
      intro M16_1296 h_M16_1296
      have hM16_1296 : IM (b) M16_1296 := by rw [h_M16_1296]; exact hM12_1294.up (by omega) ((bm_n hk1).mpr (by first | assumption | exact ⟨by omega, by omega, by omega, by omega⟩))
      have hFM16_1296 : FrJ (fun k j => (k = k1 ∧ (j = p2 ∨ j = 6 + p2 ∨ j = 12)) ∨ k = 14 ∨ k = 13 ∨ (k = 1 ∧ j = 30) ∨ k = 16) M M16_1296 := by rw [h_M16_1296]; exact (hFM12_1294).up (by omega)
      intro M17_1297 h_M17_1297
      have hM17_1297 : IM (b) M17_1297 := by rw [h_M17_1297]; exact hM16_1296.up (by omega) ((bm_n hk1).mpr (by first | assumption | exact ⟨by omega, by omega, by omega, by omega⟩))
      have hFM17_1297 : FrJ (fun k j => (k = k1 ∧ (j = p2 ∨ j = 6 + p2 ∨ j = 12)) ∨ k = 14 ∨ k = 13 ∨ (k = 1 ∧ j = 30) ∨ k = 16) M M17_1297 := by rw [h_M17_1297]; exact (hFM16_1296).up (by omega)
      exact hQ _ (hM17_1297.mono (by omega)) hFM17_1297
  · intro x18_1299 ex18_1299 rx18_1299
    have bx18_1299 : -2147483648 ≤ x18_1299 ∧ x18_1299 ≤ 2147483647 := rx18_1299
    intro x19_1300 ex19_1300 rx19_1300
    first | (have fx19_1300 : x19_1300 = x18_1299 + 1 := by rw [ex19_1300]; exact w32_id ⟨by omega, by omega⟩) | skip
    intro M20_1301 h_M20_1301
    have hM20_1301 : IM (b) M20_1301 := by rw [h_M20_1301]; exact hM1_1276.up (by omega) (by simp [BM])
    have hFM20_1301 : FrJ (fun k j => (k = k1 ∧ (j = p2 ∨ j = 6 + p2 ∨ j = 12)) ∨ k = 14 ∨ k = 13 ∨ (k = 1 ∧ j = 30) ∨ k = 16) M M20_1301 := by rw [h_M20_1301]; exact (hFM1_1276).up (by omega)
    refine ⟨by omega, ?_⟩
    refine ⟨by omega, ?_⟩
    intro x23_1302 ex23_1302 rx23_1302
    have bx23_1302 : -2147483648 ≤ x23_1302 ∧ x23_1302 ≤ 2147483647 := rx23_1302
    have fx23_1302 : x23_1302 = M1_1276 16 x2_1281 := by rw [ex23_1302, h_M20_1301, up2_n (by decide)]
    intro x24_1303 ex24_1303 rx24_1303
    first | (have fx24_1303 : x24_1303 = x23_1302 + 1 := by rw [ex24_1303]; exact w32_id ⟨by omega, by omega⟩) | skip
    intro M25_1304 h_M25_1304
    have hM25_1304 : IM (b) M25_1304 := by rw [h_M25_1304]; exact hM20_1301.up (by omega) (by simp [BM])
    have hFM25_1304 : FrJ (fun k j => (k = k1 ∧ (j = p2 ∨ j = 6 + p2 ∨ j = 12)) ∨ k = 14 ∨ k = 13 ∨ (k = 1 ∧ j = 30) ∨ k = 16) M M25_1304 := by rw [h_M25_1304]; exact (hFM20_1301).up (by omega)
    exact hQ _ (hM25_1304.mono (by omega)) hFM25_1304
/-- the line of the hearses on the street: on it, none twice -/
def LN (k1 : Nat) (M : Mem) : Prop := (∀ i, 0 ≤ i → i < M 1 35 → 0 ≤ M k1 (M 18 i)) ∧ ∀ i j, 0 ≤ i → i < j → j < M 1 35 → M 18 i ≠ M 18 j
def tOn (f : Int → Int) (v h : Int) : Int := if v < f h then 1 else 0
theorem tOn_b (f : Int → Int) (v h : Int) : 0 ≤ tOn f v h ∧ tOn f v h ≤ 1 ∧ tOn f v h ≤ tOn f (v - 1) h := by
  unfold tOn
  refine ⟨by split <;> decide, by split <;> decide, ?_⟩
  split
  · rw [if_pos (by omega)]; exact Int.le_refl _
  · split <;> decide
def sOn (f : Int → Int) (v : Int) : Int := tOn f v 0 + tOn f v 1 + tOn f v 2 + tOn f v 3 + tOn f v 4 + tOn f v 5
theorem sOn_hit {f : Int → Int} {v h : Int} (h0 : 0 ≤ h ∧ h ≤ 5) (hv : f h = v) : sOn f v + 1 ≤ sOn f (v - 1) ∧ sOn f v ≤ 5 := by
  have a0 := tOn_b f v 0
  have a1 := tOn_b f v 1
  have a2 := tOn_b f v 2
  have a3 := tOn_b f v 3
  have a4 := tOn_b f v 4
  have a5 := tOn_b f v 5
  have z1 : tOn f v h = 0 := by unfold tOn; rw [if_neg (by omega)]
  have z2 : tOn f (v - 1) h = 1 := by unfold tOn; rw [if_pos (by omega)]
  unfold sOn
  have : h = 0 ∨ h = 1 ∨ h = 2 ∨ h = 3 ∨ h = 4 ∨ h = 5 := by omega
  rcases this with rfl | rfl | rfl | rfl | rfl | rfl <;> omega
theorem sOn_mono (f : Int → Int) (v : Int) : sOn f v ≤ sOn f (v - 1) := by
  have a0 := tOn_b f v 0
  have a1 := tOn_b f v 1
  have a2 := tOn_b f v 2
  have a3 := tOn_b f v 3
  have a4 := tOn_b f v 4
  have a5 := tOn_b f v 5
  unfold sOn
  omega
theorem sX12_laysLine_L12 {k1 : Nat} {Q : Mem → Prop} {b : Int} (hk1 : isN k1) (hQ : ∀ M' : Mem, IM b M' → LN k1 M' → Q M') : ∀ (n : Nat) (v2 : Int) (M : Mem), IM b M → (-1 ≤ v2 ∧ v2 ≤ 29) → M 1 35 ≤ sOn (M k1) v2 → (∀ i, 0 ≤ i → i < M 1 35 → v2 < M k1 (M 18 i)) → (∀ i j, 0 ≤ i → i < j → j < M 1 35 → M 18 i ≠ M 18 j) → v2 + 1 < (n : Int) → qX12_laysLine_L12 k1 Q n v2 M := by
  intro n
  induction n with
  | zero => intro v2 M hI hv h1 h2 h3 hm; exact absurd hm (by omega)
  | succ n ih =>
    intro v2 M hI hv h1 h2 h3 hm
    have hk5 : k1 = 5 ∨ k1 = 6 := hk1
    rw [qX12_laysLine_L12]
    refine ⟨⟨by omega, by omega⟩, ⟨fun c => hQ _ hI ⟨fun i a q => by have := h2 i a q; omega, h3⟩, fun c => ?_⟩⟩
    refine sX12_onCell (p2 := v2) hI hk1 ?_
    intro x5 p5 _
    refine ⟨fun c2 => ?_, fun c2 => ?_⟩
    · exact ih (v2 + -1) M hI (by omega) (by have := sOn_mono (M k1) v2; rw [show v2 + -1 = v2 - 1 from by omega]; omega) (fun i a q => by have := h2 i a q; omega) h3 (by omega)
    · have hc := (p5.2.2 (by omega)).1
      have hh := sOn_hit (f := M k1) (v := v2) (h := x5) (by omega) hc
      intro x7 e7 _
      have b7 : 0 ≤ x7 ∧ x7 ≤ 6 := by rw [e7]; exact bm_c1_35.mp (hI.bx _ _)
      refine ⟨by omega, by omega, ?_⟩
      intro M10 h10
      have i10 : IM b M10 := by rw [h10]; exact hI.up (by omega) (bm_c18.mpr ⟨by omega, by omega⟩)
      intro x11 e11 _
      have f11 : x11 = x7 := by rw [e11, h10, up2_n (by decide), e7]
      refine ⟨⟨by omega, by omega⟩, ?_⟩
      intro M13 h13
      have i13 : IM b M13 := by rw [h13]; exact i10.up (by omega) (bm_c1_35.mpr ⟨by omega, by omega⟩)
      have g1 : M13 1 35 = x7 + 1 := by rw [h13, up2_s, f11]
      have g2 : M13 k1 = M k1 := by rw [h13, up2_n (by omega), h10, up2_n (by omega)]
      have g3 : ∀ i, i ≠ x7 → M13 18 i = M 18 i := fun i hi => by rw [h13, up2_n (by decide), h10, up2_j hi]
      have g4 : M13 18 x7 = x5 := by rw [h13, up2_n (by decide), h10, up2_s]
      refine ih (v2 + -1) M13 i13 (by omega) ?_ ?_ ?_ (by omega)
      · rw [g1, g2, show v2 + -1 = v2 - 1 from by omega]; omega
      · intro i a q
        rw [g1] at q
        rw [g2]
        by_cases ci : i = x7
        · rw [ci, g4]; omega
        · rw [g3 i ci]
          have := h2 i a (by omega)
          omega
      · intro i j a q r
        rw [g1] at r
        by_cases cj : j = x7
        · rw [cj, g4, g3 i (by omega)]
          have := h2 i a (by omega)
          intro he
          rw [he] at this
          omega
        · rw [g3 j cj, g3 i (by omega)]
          exact h3 i j a q (by omega)
theorem sX12_laysLineF {k1 : Nat} {b : Int} {M : Mem} {Q : Mem → Prop} (hI : IM b M) (hk1 : isN k1) (hQ : ∀ M' : Mem, IM b M' → LN k1 M' → Q M') : qX12_laysLine k1 M Q := by
  have hk5 : k1 = 5 ∨ k1 = 6 := hk1
  unfold qX12_laysLine
  intro M1 h1
  have i1 : IM b M1 := by rw [h1]; exact hI.up (by omega) (bm_c1_35.mpr (by decide))
  have g1 : M1 1 35 = 0 := by rw [h1, up2_s]
  refine sX12_gate i1 ?_
  intro x2 p2 _
  refine ⟨31, sX12_laysLine_L12 hk1 hQ _ _ _ i1 (by omega) ?_ (fun i a q => by omega) (fun i j a q r => by omega) (by omega)⟩
  rw [g1]
  have a0 := tOn_b (M1 k1) (x2 - 1) 0
  have a1 := tOn_b (M1 k1) (x2 - 1) 1
  have a2 := tOn_b (M1 k1) (x2 - 1) 2
  have a3 := tOn_b (M1 k1) (x2 - 1) 3
  have a4 := tOn_b (M1 k1) (x2 - 1) 4
  have a5 := tOn_b (M1 k1) (x2 - 1) 5
  unfold sOn
  omega
theorem sX12_laysLine {k1 : Nat} {b : Int} {M : Mem} {Q : Mem → Prop} (hI : IM b M) (hk1 : isN k1) (hQ : ∀ M' : Mem, IM b M' → Q M') : qX12_laysLine k1 M Q := sX12_laysLineF hI hk1 (fun M' h _ => hQ M' h)
theorem sX12_mournerGoes {k1 : Nat} {p2 : Int} {b : Int} {M : Mem} {Q : Mem → Prop} (hI : IM b M) (hk1 : isN k1) (hp : 0 ≤ p2 ∧ p2 ≤ 7) (hQ : ∀ M' : Mem, IM b M' → Q M') : qX12_mournerGoes k1 p2 M Q := by
  unfold qX12_mournerGoes
  have hbn := hI.nn
  have ek1 : k1 = 5 ∨ k1 = 6 := hk1
  refine ⟨by omega, ?_⟩
  refine ⟨by omega, ?_⟩
  intro x3_1305 ex3_1305 rx3_1305
  have rbx3_1305 : -2147483648 ≤ x3_1305 ∧ x3_1305 ≤ 2147483647 := rx3_1305
  first | (have bx3_1305 : -1 ≤ x3_1305 ∧ x3_1305 ≤ 5 := by rw [ex3_1305]; exact ((bm_n hk1).mp (hI.bx _ _)).2.2.1 ⟨by omega, by omega⟩) | skip
  refine ⟨fun c => ?_, fun c => ?_⟩
  · unfold qX12_mournerGoes_J27
    refine ⟨by omega, ?_⟩
    refine ⟨by omega, ?_⟩
    intro x7_1307 ex7_1307 rx7_1307
    have rbx7_1307 : -2147483648 ≤ x7_1307 ∧ x7_1307 ≤ 2147483647 := rx7_1307
    first | (have bx7_1307 : -1 ≤ x7_1307 ∧ x7_1307 ≤ 29 := by rw [ex7_1307]; exact ((bm_n hk1).mp (hI.bx _ _)).2.1 ⟨by omega, by omega⟩) | skip
    refine sX12_nearest (p2 := x7_1307) hI hk1 (by omega) ?_
    intro x8_1308 p1309 q1310
    refine ⟨fun c => ?_, fun c => ?_⟩
    · unfold qX12_mournerGoes_J105
      refine ⟨(by first | assumption | exact ⟨by omega, by omega⟩), ?_⟩
      refine ⟨fun c => ?_, fun c => ?_⟩
      · exact hQ _ (hI.mono (by omega))
      · refine ⟨by omega, ?_⟩
        refine ⟨by omega, ?_⟩
        intro x14_1314 ex14_1314 rx14_1314
        have rbx14_1314 : -2147483648 ≤ x14_1314 ∧ x14_1314 ≤ 2147483647 := rx14_1314
        have nbx14_1314 : BN (b) x3_1305 x14_1314 := by rw [ex14_1314]; exact (bm_n hk1).mp (hI.bx _ _)
        first | (have bx14_1314 : -1 ≤ x14_1314 ∧ x14_1314 ≤ 29 := nbx14_1314.1 ⟨by omega, by omega⟩) | (have bx14_1314 : -1 ≤ x14_1314 ∧ x14_1314 ≤ 29 := nbx14_1314.2.1 ⟨by omega, by omega⟩) | skip
        have cgx14_1314 : x14_1314 = M k1 (M k1 (21 + p2)) := by rw [ex14_1314, ← ex3_1305]
        refine ⟨(by first | assumption | exact ⟨by omega, by omega⟩), ?_⟩
        refine ⟨fun c => ?_, fun c => ?_⟩
        · intro x17_1316 ex17_1316 rx17_1316
          have rbx17_1316 : -2147483648 ≤ x17_1316 ∧ x17_1316 ≤ 2147483647 := rx17_1316
          have nbx17_1316 : BN (b) x3_1305 x17_1316 := by rw [ex17_1316]; exact (bm_n hk1).mp (hI.bx _ _)
          first | (have bx17_1316 : -1 ≤ x17_1316 ∧ x17_1316 ≤ 29 := nbx17_1316.1 ⟨by omega, by omega⟩) | (have bx17_1316 : -1 ≤ x17_1316 ∧ x17_1316 ≤ 29 := nbx17_1316.2.1 ⟨by omega, by omega⟩) | skip
          have cgx17_1316 : x17_1316 = M k1 (M k1 (21 + p2)) := by rw [ex17_1316, ← ex3_1305]
          refine ⟨(by first | assumption | exact ⟨by omega, by omega⟩), ?_⟩
          intro x19_1317 ex19_1317 rx19_1317
          unfold qX12_mournerGoes_J145
          refine ⟨by omega, ?_⟩
          refine ⟨by omega, ?_⟩
          refine ⟨(by first | assumption | exact ⟨by omega, by omega⟩), ?_⟩
          intro M23_1318 h_M23_1318
          have hM23_1318 : IM (b) M23_1318 := by rw [h_M23_1318]; exact hI.up (by omega) ((bm_n hk1).mpr (by first | assumption | exact ⟨by omega, by omega, by omega, by omega⟩))
          exact hQ _ (hM23_1318.mono (by omega))
        · intro x24_1320 ex24_1320 rx24_1320
          have rbx24_1320 : -2147483648 ≤ x24_1320 ∧ x24_1320 ≤ 2147483647 := rx24_1320
          have nbx24_1320 : BN (b) x3_1305 x24_1320 := by rw [ex24_1320]; exact (bm_n hk1).mp (hI.bx _ _)
          first | (have bx24_1320 : -1 ≤ x24_1320 ∧ x24_1320 ≤ 29 := nbx24_1320.1 ⟨by omega, by omega⟩) | (have bx24_1320 : -1 ≤ x24_1320 ∧ x24_1320 ≤ 29 := nbx24_1320.2.1 ⟨by omega, by omega⟩) | skip
          have cgx24_1320 : x24_1320 = M k1 (M k1 (21 + p2)) := by rw [ex24_1320, ← ex3_1305]
          refine ⟨(by first | assumption | exact ⟨by omega, by omega⟩), ?_⟩
          intro x26_1321 ex26_1321 rx26_1321
          unfold qX12_mournerGoes_J145
          refine ⟨by omega, ?_⟩
          refine ⟨by omega, ?_⟩
          refine ⟨(by first | assumption | exact ⟨by omega, by omega⟩), ?_⟩
          intro M23_1322 h_M23_1322
          have hM23_1322 : IM (b) M23_1322 := by rw [h_M23_1322]; exact hI.up (by omega) ((bm_n hk1).mpr (by first | assumption | exact ⟨by omega, by omega, by omega, by omega⟩))
          exact hQ _ (hM23_1322.mono (by omega))
    · refine ⟨(by first | assumption | exact ⟨by omega, by omega⟩), ?_⟩
      refine ⟨fun c => ?_, fun c => ?_⟩
      · unfold qX12_mournerGoes_J75
        refine ⟨by omega, ?_⟩
        refine ⟨by omega, ?_⟩
        refine ⟨(by first | assumption | exact ⟨by omega, by omega⟩), ?_⟩
        intro M32_1325 h_M32_1325
        have hM32_1325 : IM (b) M32_1325 := by rw [h_M32_1325]; exact hI.up (by omega) ((bm_n hk1).mpr (by first | assumption | exact ⟨by omega, by omega, by omega, by omega⟩))
        intro x33_1326 ex33_1326 rx33_1326
        have bx33_1326 : -2147483648 ≤ x33_1326 ∧ x33_1326 ≤ 2147483647 := rx33_1326
        have fx33_1326 : x33_1326 = M 1 31 := by rw [ex33_1326, h_M32_1325, up2_n (by omega)]
        intro x34_1327 ex34_1327 rx34_1327
        first | (have fx34_1327 : x34_1327 = x33_1326 + 1 := by rw [ex34_1327]; exact w32_id ⟨by omega, by omega⟩) | skip
        intro M35_1328 h_M35_1328
        have hM35_1328 : IM (b) M35_1328 := by rw [h_M35_1328]; exact hM32_1325.up (by omega) (by simp [BM])
        refine ⟨by omega, ?_⟩
        refine ⟨by omega, ?_⟩
        intro x38_1329 ex38_1329 rx38_1329
        have bx38_1329 : -2147483648 ≤ x38_1329 ∧ x38_1329 ≤ 2147483647 := rx38_1329
        have fx38_1329 : x38_1329 = M 17 p2 := by rw [ex38_1329, h_M35_1328, up2_n (by decide), h_M32_1325, up2_n (by omega)]
        intro x39_1330 ex39_1330 rx39_1330
        first | (have fx39_1330 : x39_1330 = x38_1329 + 1 := by rw [ex39_1330]; exact w32_id ⟨by omega, by omega⟩) | skip
        intro M40_1331 h_M40_1331
        have hM40_1331 : IM (b) M40_1331 := by rw [h_M40_1331]; exact hM35_1328.up (by omega) (by simp [BM])
        unfold qX12_mournerGoes_J105
        refine ⟨(by first | assumption | exact ⟨by omega, by omega⟩), ?_⟩
        refine ⟨fun c => ?_, fun c => ?_⟩
        · exact hQ _ (hM40_1331.mono (by omega))
        · refine ⟨by omega, ?_⟩
          refine ⟨by omega, ?_⟩
          intro x14_1334 ex14_1334 rx14_1334
          have rbx14_1334 : -2147483648 ≤ x14_1334 ∧ x14_1334 ≤ 2147483647 := rx14_1334
          have nbx14_1334 : BN (b) x8_1308 x14_1334 := by rw [ex14_1334]; exact (bm_n hk1).mp (hM40_1331.bx _ _)
          first | (have bx14_1334 : -1 ≤ x14_1334 ∧ x14_1334 ≤ 29 := nbx14_1334.1 ⟨by omega, by omega⟩) | (have bx14_1334 : -1 ≤ x14_1334 ∧ x14_1334 ≤ 29 := nbx14_1334.2.1 ⟨by omega, by omega⟩) | skip
          have fx14_1334 : x14_1334 = M32_1325 k1 x8_1308 := by rw [ex14_1334, h_M40_1331, up2_n (by omega), h_M35_1328, up2_n (by omega)]
          refine ⟨(by first | assumption | exact ⟨by omega, by omega⟩), ?_⟩
          refine ⟨fun c => ?_, fun c => ?_⟩
          · intro x17_1336 ex17_1336 rx17_1336
            have rbx17_1336 : -2147483648 ≤ x17_1336 ∧ x17_1336 ≤ 2147483647 := rx17_1336
            have nbx17_1336 : BN (b) x8_1308 x17_1336 := by rw [ex17_1336]; exact (bm_n hk1).mp (hM40_1331.bx _ _)
            first | (have bx17_1336 : -1 ≤ x17_1336 ∧ x17_1336 ≤ 29 := nbx17_1336.1 ⟨by omega, by omega⟩) | (have bx17_1336 : -1 ≤ x17_1336 ∧ x17_1336 ≤ 29 := nbx17_1336.2.1 ⟨by omega, by omega⟩) | skip
            have fx17_1336 : x17_1336 = M32_1325 k1 x8_1308 := by rw [ex17_1336, h_M40_1331, up2_n (by omega), h_M35_1328, up2_n (by omega)]
            refine ⟨(by first | assumption | exact ⟨by omega, by omega⟩), ?_⟩
            intro x19_1337 ex19_1337 rx19_1337
            unfold qX12_mournerGoes_J145
            refine ⟨by omega, ?_⟩
            refine ⟨by omega, ?_⟩
            refine ⟨(by first | assumption | exact ⟨by omega, by omega⟩), ?_⟩
            intro M23_1338 h_M23_1338
            have hM23_1338 : IM (b) M23_1338 := by rw [h_M23_1338]; exact hM40_1331.up (by omega) ((bm_n hk1).mpr (by first | assumption | exact ⟨by omega, by omega, by omega, by omega⟩))
            exact hQ _ (hM23_1338.mono (by omega))
          · intro x24_1340 ex24_1340 rx24_1340
            have rbx24_1340 : -2147483648 ≤ x24_1340 ∧ x24_1340 ≤ 2147483647 := rx24_1340
            have nbx24_1340 : BN (b) x8_1308 x24_1340 := by rw [ex24_1340]; exact (bm_n hk1).mp (hM40_1331.bx _ _)
            first | (have bx24_1340 : -1 ≤ x24_1340 ∧ x24_1340 ≤ 29 := nbx24_1340.1 ⟨by omega, by omega⟩) | (have bx24_1340 : -1 ≤ x24_1340 ∧ x24_1340 ≤ 29 := nbx24_1340.2.1 ⟨by omega, by omega⟩) | skip
            have fx24_1340 : x24_1340 = M32_1325 k1 x8_1308 := by rw [ex24_1340, h_M40_1331, up2_n (by omega), h_M35_1328, up2_n (by omega)]
            refine ⟨(by first | assumption | exact ⟨by omega, by omega⟩), ?_⟩
            intro x26_1341 ex26_1341 rx26_1341
            unfold qX12_mournerGoes_J145
            refine ⟨by omega, ?_⟩
            refine ⟨by omega, ?_⟩
            refine ⟨(by first | assumption | exact ⟨by omega, by omega⟩), ?_⟩
            intro M23_1342 h_M23_1342
            have hM23_1342 : IM (b) M23_1342 := by rw [h_M23_1342]; exact hM40_1331.up (by omega) ((bm_n hk1).mpr (by first | assumption | exact ⟨by omega, by omega, by omega, by omega⟩))
            exact hQ _ (hM23_1342.mono (by omega))
      · refine ⟨by omega, ?_⟩
        refine ⟨by omega, ?_⟩
        intro x43_1344 ex43_1344 rx43_1344
        have rbx43_1344 : -2147483648 ≤ x43_1344 ∧ x43_1344 ≤ 2147483647 := rx43_1344
        have nbx43_1344 : BN (b) x8_1308 x43_1344 := by rw [ex43_1344]; exact (bm_n hk1).mp (hI.bx _ _)
        first | (have bx43_1344 : -1 ≤ x43_1344 ∧ x43_1344 ≤ 29 := nbx43_1344.1 ⟨by omega, by omega⟩) | (have bx43_1344 : -1 ≤ x43_1344 ∧ x43_1344 ≤ 29 := nbx43_1344.2.1 ⟨by omega, by omega⟩) | skip
        refine ⟨(by first | assumption | exact ⟨by omega, by omega⟩), ?_⟩
        intro x45_1345 px45_1345 nx45_1345
        have bx45_1345 : 0 ≤ x45_1345 ∧ (x43_1344 - x7_1307 = x45_1345 ∨ x43_1344 - x7_1307 = -x45_1345) := by omega
        refine ⟨by omega, ?_⟩
        refine ⟨by omega, ?_⟩
        intro x48_1346 ex48_1346 rx48_1346
        have rbx48_1346 : -2147483648 ≤ x48_1346 ∧ x48_1346 ≤ 2147483647 := rx48_1346
        have nbx48_1346 : BN (b) x3_1305 x48_1346 := by rw [ex48_1346]; exact (bm_n hk1).mp (hI.bx _ _)
        first | (have bx48_1346 : -1 ≤ x48_1346 ∧ x48_1346 ≤ 29 := nbx48_1346.1 ⟨by omega, by omega⟩) | (have bx48_1346 : -1 ≤ x48_1346 ∧ x48_1346 ≤ 29 := nbx48_1346.2.1 ⟨by omega, by omega⟩) | skip
        have cgx48_1346 : x48_1346 = M k1 (M k1 (21 + p2)) := by rw [ex48_1346, ← ex3_1305]
        refine ⟨(by first | assumption | exact ⟨by omega, by omega⟩), ?_⟩
        intro x50_1347 px50_1347 nx50_1347
        have bx50_1347 : 0 ≤ x50_1347 ∧ (x48_1346 - x7_1307 = x50_1347 ∨ x48_1346 - x7_1307 = -x50_1347) := by omega
        refine ⟨(by first | assumption | exact ⟨by omega, by omega⟩), ?_⟩
        refine ⟨(by first | assumption | exact ⟨by omega, by omega⟩), ?_⟩
        refine ⟨fun c => ?_, fun c => ?_⟩
        · unfold qX12_mournerGoes_J105
          refine ⟨(by first | assumption | exact ⟨by omega, by omega⟩), ?_⟩
          refine ⟨fun c => ?_, fun c => ?_⟩
          · exact hQ _ (hI.mono (by omega))
          · refine ⟨by omega, ?_⟩
            refine ⟨by omega, ?_⟩
            intro x14_1351 ex14_1351 rx14_1351
            have rbx14_1351 : -2147483648 ≤ x14_1351 ∧ x14_1351 ≤ 2147483647 := rx14_1351
            have nbx14_1351 : BN (b) x3_1305 x14_1351 := by rw [ex14_1351]; exact (bm_n hk1).mp (hI.bx _ _)
            first | (have bx14_1351 : -1 ≤ x14_1351 ∧ x14_1351 ≤ 29 := nbx14_1351.1 ⟨by omega, by omega⟩) | (have bx14_1351 : -1 ≤ x14_1351 ∧ x14_1351 ≤ 29 := nbx14_1351.2.1 ⟨by omega, by omega⟩) | skip
            have cgx14_1351 : x14_1351 = M k1 (M k1 (21 + p2)) := by rw [ex14_1351, ← ex3_1305]
            refine ⟨(by first | assumption | exact ⟨by omega, by omega⟩), ?_⟩
            refine ⟨fun c => ?_, fun c => ?_⟩
            · intro x17_1353 ex17_1353 rx17_1353
              have rbx17_1353 : -2147483648 ≤ x17_1353 ∧ x17_1353 ≤ 2147483647 := rx17_1353
              have nbx17_1353 : BN (b) x3_1305 x17_1353 := by rw [ex17_1353]; exact (bm_n hk1).mp (hI.bx _ _)
              first | (have bx17_1353 : -1 ≤ x17_1353 ∧ x17_1353 ≤ 29 := nbx17_1353.1 ⟨by omega, by omega⟩) | (have bx17_1353 : -1 ≤ x17_1353 ∧ x17_1353 ≤ 29 := nbx17_1353.2.1 ⟨by omega, by omega⟩) | skip
              have cgx17_1353 : x17_1353 = M k1 (M k1 (21 + p2)) := by rw [ex17_1353, ← ex3_1305]
              refine ⟨(by first | assumption | exact ⟨by omega, by omega⟩), ?_⟩
              intro x19_1354 ex19_1354 rx19_1354
              unfold qX12_mournerGoes_J145
              refine ⟨by omega, ?_⟩
              refine ⟨by omega, ?_⟩
              refine ⟨(by first | assumption | exact ⟨by omega, by omega⟩), ?_⟩
              intro M23_1355 h_M23_1355
              have hM23_1355 : IM (b) M23_1355 := by rw [h_M23_1355]; exact hI.up (by omega) ((bm_n hk1).mpr (by first | assumption | exact ⟨by omega, by omega, by omega, by omega⟩))
              exact hQ _ (hM23_1355.mono (by omega))
            · intro x24_1357 ex24_1357 rx24_1357
              have rbx24_1357 : -2147483648 ≤ x24_1357 ∧ x24_1357 ≤ 2147483647 := rx24_1357
              have nbx24_1357 : BN (b) x3_1305 x24_1357 := by rw [ex24_1357]; exact (bm_n hk1).mp (hI.bx _ _)
              first | (have bx24_1357 : -1 ≤ x24_1357 ∧ x24_1357 ≤ 29 := nbx24_1357.1 ⟨by omega, by omega⟩) | (have bx24_1357 : -1 ≤ x24_1357 ∧ x24_1357 ≤ 29 := nbx24_1357.2.1 ⟨by omega, by omega⟩) | skip
              have cgx24_1357 : x24_1357 = M k1 (M k1 (21 + p2)) := by rw [ex24_1357, ← ex3_1305]
              refine ⟨(by first | assumption | exact ⟨by omega, by omega⟩), ?_⟩
              intro x26_1358 ex26_1358 rx26_1358
              unfold qX12_mournerGoes_J145
              refine ⟨by omega, ?_⟩
              refine ⟨by omega, ?_⟩
              refine ⟨(by first | assumption | exact ⟨by omega, by omega⟩), ?_⟩
              intro M23_1359 h_M23_1359
              have hM23_1359 : IM (b) M23_1359 := by rw [h_M23_1359]; exact hI.up (by omega) ((bm_n hk1).mpr (by first | assumption | exact ⟨by omega, by omega, by omega, by omega⟩))
              exact hQ _ (hM23_1359.mono (by omega))
        · unfold qX12_mournerGoes_J75
          refine ⟨by omega, ?_⟩
          refine ⟨by omega, ?_⟩
          refine ⟨(by first | assumption | exact ⟨by omega, by omega⟩), ?_⟩
          intro M32_1361 h_M32_1361
          have hM32_1361 : IM (b) M32_1361 := by rw [h_M32_1361]; exact hI.up (by omega) ((bm_n hk1).mpr (by first | assumption | exact ⟨by omega, by omega, by omega, by omega⟩))
          intro x33_1362 ex33_1362 rx33_1362
          have bx33_1362 : -2147483648 ≤ x33_1362 ∧ x33_1362 ≤ 2147483647 := rx33_1362
          have fx33_1362 : x33_1362 = M 1 31 := by rw [ex33_1362, h_M32_1361, up2_n (by omega)]
          intro x34_1363 ex34_1363 rx34_1363
          first | (have fx34_1363 : x34_1363 = x33_1362 + 1 := by rw [ex34_1363]; exact w32_id ⟨by omega, by omega⟩) | skip
          intro M35_1364 h_M35_1364
          have hM35_1364 : IM (b) M35_1364 := by rw [h_M35_1364]; exact hM32_1361.up (by omega) (by simp [BM])
          refine ⟨by omega, ?_⟩
          refine ⟨by omega, ?_⟩
          intro x38_1365 ex38_1365 rx38_1365
          have bx38_1365 : -2147483648 ≤ x38_1365 ∧ x38_1365 ≤ 2147483647 := rx38_1365
          have fx38_1365 : x38_1365 = M 17 p2 := by rw [ex38_1365, h_M35_1364, up2_n (by decide), h_M32_1361, up2_n (by omega)]
          intro x39_1366 ex39_1366 rx39_1366
          first | (have fx39_1366 : x39_1366 = x38_1365 + 1 := by rw [ex39_1366]; exact w32_id ⟨by omega, by omega⟩) | skip
          intro M40_1367 h_M40_1367
          have hM40_1367 : IM (b) M40_1367 := by rw [h_M40_1367]; exact hM35_1364.up (by omega) (by simp [BM])
          unfold qX12_mournerGoes_J105
          refine ⟨(by first | assumption | exact ⟨by omega, by omega⟩), ?_⟩
          refine ⟨fun c => ?_, fun c => ?_⟩
          · exact hQ _ (hM40_1367.mono (by omega))
          · refine ⟨by omega, ?_⟩
            refine ⟨by omega, ?_⟩
            intro x14_1370 ex14_1370 rx14_1370
            have rbx14_1370 : -2147483648 ≤ x14_1370 ∧ x14_1370 ≤ 2147483647 := rx14_1370
            have nbx14_1370 : BN (b) x8_1308 x14_1370 := by rw [ex14_1370]; exact (bm_n hk1).mp (hM40_1367.bx _ _)
            first | (have bx14_1370 : -1 ≤ x14_1370 ∧ x14_1370 ≤ 29 := nbx14_1370.1 ⟨by omega, by omega⟩) | (have bx14_1370 : -1 ≤ x14_1370 ∧ x14_1370 ≤ 29 := nbx14_1370.2.1 ⟨by omega, by omega⟩) | skip
            have fx14_1370 : x14_1370 = M32_1361 k1 x8_1308 := by rw [ex14_1370, h_M40_1367, up2_n (by omega), h_M35_1364, up2_n (by omega)]
            refine ⟨(by first | assumption | exact ⟨by omega, by omega⟩), ?_⟩
            refine ⟨fun c => ?_, fun c => ?_⟩
            · intro x17_1372 ex17_1372 rx17_1372
              have rbx17_1372 : -2147483648 ≤ x17_1372 ∧ x17_1372 ≤ 2147483647 := rx17_1372
              have nbx17_1372 : BN (b) x8_1308 x17_1372 := by rw [ex17_1372]; exact (bm_n hk1).mp (hM40_1367.bx _ _)
              first | (have bx17_1372 : -1 ≤ x17_1372 ∧ x17_1372 ≤ 29 := nbx17_1372.1 ⟨by omega, by omega⟩) | (have bx17_1372 : -1 ≤ x17_1372 ∧ x17_1372 ≤ 29 := nbx17_1372.2.1 ⟨by omega, by omega⟩) | skip
              have fx17_1372 : x17_1372 = M32_1361 k1 x8_1308 := by rw [ex17_1372, h_M40_1367, up2_n (by omega), h_M35_1364, up2_n (by omega)]
              refine ⟨(by first | assumption | exact ⟨by omega, by omega⟩), ?_⟩
              intro x19_1373 ex19_1373 rx19_1373
              unfold qX12_mournerGoes_J145
              refine ⟨by omega, ?_⟩
              refine ⟨by omega, ?_⟩
              refine ⟨(by first | assumption | exact ⟨by omega, by omega⟩), ?_⟩
              intro M23_1374 h_M23_1374
              have hM23_1374 : IM (b) M23_1374 := by rw [h_M23_1374]; exact hM40_1367.up (by omega) ((bm_n hk1).mpr (by first | assumption | exact ⟨by omega, by omega, by omega, by omega⟩))
              exact hQ _ (hM23_1374.mono (by omega))
            · intro x24_1376 ex24_1376 rx24_1376
              have rbx24_1376 : -2147483648 ≤ x24_1376 ∧ x24_1376 ≤ 2147483647 := rx24_1376
              have nbx24_1376 : BN (b) x8_1308 x24_1376 := by rw [ex24_1376]; exact (bm_n hk1).mp (hM40_1367.bx _ _)
              first | (have bx24_1376 : -1 ≤ x24_1376 ∧ x24_1376 ≤ 29 := nbx24_1376.1 ⟨by omega, by omega⟩) | (have bx24_1376 : -1 ≤ x24_1376 ∧ x24_1376 ≤ 29 := nbx24_1376.2.1 ⟨by omega, by omega⟩) | skip
              have fx24_1376 : x24_1376 = M32_1361 k1 x8_1308 := by rw [ex24_1376, h_M40_1367, up2_n (by omega), h_M35_1364, up2_n (by omega)]
              refine ⟨(by first | assumption | exact ⟨by omega, by omega⟩), ?_⟩
              intro x26_1377 ex26_1377 rx26_1377
              unfold qX12_mournerGoes_J145
              refine ⟨by omega, ?_⟩
              refine ⟨by omega, ?_⟩
              refine ⟨(by first | assumption | exact ⟨by omega, by omega⟩), ?_⟩
              intro M23_1378 h_M23_1378
              have hM23_1378 : IM (b) M23_1378 := by rw [h_M23_1378]; exact hM40_1367.up (by omega) ((bm_n hk1).mpr (by first | assumption | exact ⟨by omega, by omega, by omega, by omega⟩))
              exact hQ _ (hM23_1378.mono (by omega))
  · refine sX12_isOn (p1 := x3_1305) hI hk1 (by omega) ?_
    intro x54_1380 p1381 q1382 q1383
    refine ⟨fun c => ?_, fun c => ?_⟩
    · unfold qX12_mournerGoes_J27
      refine ⟨by omega, ?_⟩
      refine ⟨by omega, ?_⟩
      intro x7_1385 ex7_1385 rx7_1385
      have rbx7_1385 : -2147483648 ≤ x7_1385 ∧ x7_1385 ≤ 2147483647 := rx7_1385
      first | (have bx7_1385 : -1 ≤ x7_1385 ∧ x7_1385 ≤ 29 := by rw [ex7_1385]; exact ((bm_n hk1).mp (hI.bx _ _)).2.1 ⟨by omega, by omega⟩) | skip
      refine sX12_nearest (p2 := x7_1385) hI hk1 (by omega) ?_
      intro x8_1386 p1387 q1388
      refine ⟨fun c => ?_, fun c => ?_⟩
      · unfold qX12_mournerGoes_J105
        refine ⟨(by first | assumption | exact ⟨by omega, by omega⟩), ?_⟩
        refine ⟨fun c => ?_, fun c => ?_⟩
        · exact hQ _ (hI.mono (by omega))
        · refine ⟨by omega, ?_⟩
          refine ⟨by omega, ?_⟩
          intro x14_1392 ex14_1392 rx14_1392
          have rbx14_1392 : -2147483648 ≤ x14_1392 ∧ x14_1392 ≤ 2147483647 := rx14_1392
          have nbx14_1392 : BN (b) x3_1305 x14_1392 := by rw [ex14_1392]; exact (bm_n hk1).mp (hI.bx _ _)
          first | (have bx14_1392 : -1 ≤ x14_1392 ∧ x14_1392 ≤ 29 := nbx14_1392.1 ⟨by omega, by omega⟩) | (have bx14_1392 : -1 ≤ x14_1392 ∧ x14_1392 ≤ 29 := nbx14_1392.2.1 ⟨by omega, by omega⟩) | skip
          have cgx14_1392 : x14_1392 = M k1 (M k1 (21 + p2)) := by rw [ex14_1392, ← ex3_1305]
          refine ⟨(by first | assumption | exact ⟨by omega, by omega⟩), ?_⟩
          refine ⟨fun c => ?_, fun c => ?_⟩
          · intro x17_1394 ex17_1394 rx17_1394
            have rbx17_1394 : -2147483648 ≤ x17_1394 ∧ x17_1394 ≤ 2147483647 := rx17_1394
            have nbx17_1394 : BN (b) x3_1305 x17_1394 := by rw [ex17_1394]; exact (bm_n hk1).mp (hI.bx _ _)
            first | (have bx17_1394 : -1 ≤ x17_1394 ∧ x17_1394 ≤ 29 := nbx17_1394.1 ⟨by omega, by omega⟩) | (have bx17_1394 : -1 ≤ x17_1394 ∧ x17_1394 ≤ 29 := nbx17_1394.2.1 ⟨by omega, by omega⟩) | skip
            have cgx17_1394 : x17_1394 = M k1 (M k1 (21 + p2)) := by rw [ex17_1394, ← ex3_1305]
            refine ⟨(by first | assumption | exact ⟨by omega, by omega⟩), ?_⟩
            intro x19_1395 ex19_1395 rx19_1395
            unfold qX12_mournerGoes_J145
            refine ⟨by omega, ?_⟩
            refine ⟨by omega, ?_⟩
            refine ⟨(by first | assumption | exact ⟨by omega, by omega⟩), ?_⟩
            intro M23_1396 h_M23_1396
            have hM23_1396 : IM (b) M23_1396 := by rw [h_M23_1396]; exact hI.up (by omega) ((bm_n hk1).mpr (by first | assumption | exact ⟨by omega, by omega, by omega, by omega⟩))
            exact hQ _ (hM23_1396.mono (by omega))
          · intro x24_1398 ex24_1398 rx24_1398
            have rbx24_1398 : -2147483648 ≤ x24_1398 ∧ x24_1398 ≤ 2147483647 := rx24_1398
            have nbx24_1398 : BN (b) x3_1305 x24_1398 := by rw [ex24_1398]; exact (bm_n hk1).mp (hI.bx _ _)
            first | (have bx24_1398 : -1 ≤ x24_1398 ∧ x24_1398 ≤ 29 := nbx24_1398.1 ⟨by omega, by omega⟩) | (have bx24_1398 : -1 ≤ x24_1398 ∧ x24_1398 ≤ 29 := nbx24_1398.2.1 ⟨by omega, by omega⟩) | skip
            have cgx24_1398 : x24_1398 = M k1 (M k1 (21 + p2)) := by rw [ex24_1398, ← ex3_1305]
            refine ⟨(by first | assumption | exact ⟨by omega, by omega⟩), ?_⟩
            intro x26_1399 ex26_1399 rx26_1399
            unfold qX12_mournerGoes_J145
            refine ⟨by omega, ?_⟩
            refine ⟨by omega, ?_⟩
            refine ⟨(by first | assumption | exact ⟨by omega, by omega⟩), ?_⟩
            intro M23_1400 h_M23_1400
            have hM23_1400 : IM (b) M23_1400 := by rw [h_M23_1400]; exact hI.up (by omega) ((bm_n hk1).mpr (by first | assumption | exact ⟨by omega, by omega, by omega, by omega⟩))
            exact hQ _ (hM23_1400.mono (by omega))
      · refine ⟨(by first | assumption | exact ⟨by omega, by omega⟩), ?_⟩
        refine ⟨fun c => ?_, fun c => ?_⟩
        · unfold qX12_mournerGoes_J75
          refine ⟨by omega, ?_⟩
          refine ⟨by omega, ?_⟩
          refine ⟨(by first | assumption | exact ⟨by omega, by omega⟩), ?_⟩
          intro M32_1403 h_M32_1403
          have hM32_1403 : IM (b) M32_1403 := by rw [h_M32_1403]; exact hI.up (by omega) ((bm_n hk1).mpr (by first | assumption | exact ⟨by omega, by omega, by omega, by omega⟩))
          intro x33_1404 ex33_1404 rx33_1404
          have bx33_1404 : -2147483648 ≤ x33_1404 ∧ x33_1404 ≤ 2147483647 := rx33_1404
          have fx33_1404 : x33_1404 = M 1 31 := by rw [ex33_1404, h_M32_1403, up2_n (by omega)]
          intro x34_1405 ex34_1405 rx34_1405
          first | (have fx34_1405 : x34_1405 = x33_1404 + 1 := by rw [ex34_1405]; exact w32_id ⟨by omega, by omega⟩) | skip
          intro M35_1406 h_M35_1406
          have hM35_1406 : IM (b) M35_1406 := by rw [h_M35_1406]; exact hM32_1403.up (by omega) (by simp [BM])
          refine ⟨by omega, ?_⟩
          refine ⟨by omega, ?_⟩
          intro x38_1407 ex38_1407 rx38_1407
          have bx38_1407 : -2147483648 ≤ x38_1407 ∧ x38_1407 ≤ 2147483647 := rx38_1407
          have fx38_1407 : x38_1407 = M 17 p2 := by rw [ex38_1407, h_M35_1406, up2_n (by decide), h_M32_1403, up2_n (by omega)]
          intro x39_1408 ex39_1408 rx39_1408
          first | (have fx39_1408 : x39_1408 = x38_1407 + 1 := by rw [ex39_1408]; exact w32_id ⟨by omega, by omega⟩) | skip
          intro M40_1409 h_M40_1409
          have hM40_1409 : IM (b) M40_1409 := by rw [h_M40_1409]; exact hM35_1406.up (by omega) (by simp [BM])
          unfold qX12_mournerGoes_J105
          refine ⟨(by first | assumption | exact ⟨by omega, by omega⟩), ?_⟩
          refine ⟨fun c => ?_, fun c => ?_⟩
          · exact hQ _ (hM40_1409.mono (by omega))
          · refine ⟨by omega, ?_⟩
            refine ⟨by omega, ?_⟩
            intro x14_1412 ex14_1412 rx14_1412
            have rbx14_1412 : -2147483648 ≤ x14_1412 ∧ x14_1412 ≤ 2147483647 := rx14_1412
            have nbx14_1412 : BN (b) x8_1386 x14_1412 := by rw [ex14_1412]; exact (bm_n hk1).mp (hM40_1409.bx _ _)
            first | (have bx14_1412 : -1 ≤ x14_1412 ∧ x14_1412 ≤ 29 := nbx14_1412.1 ⟨by omega, by omega⟩) | (have bx14_1412 : -1 ≤ x14_1412 ∧ x14_1412 ≤ 29 := nbx14_1412.2.1 ⟨by omega, by omega⟩) | skip
            have fx14_1412 : x14_1412 = M32_1403 k1 x8_1386 := by rw [ex14_1412, h_M40_1409, up2_n (by omega), h_M35_1406, up2_n (by omega)]
            refine ⟨(by first | assumption | exact ⟨by omega, by omega⟩), ?_⟩
            refine ⟨fun c => ?_, fun c => ?_⟩
            · intro x17_1414 ex17_1414 rx17_1414
              have rbx17_1414 : -2147483648 ≤ x17_1414 ∧ x17_1414 ≤ 2147483647 := rx17_1414
              have nbx17_1414 : BN (b) x8_1386 x17_1414 := by rw [ex17_1414]; exact (bm_n hk1).mp (hM40_1409.bx _ _)
              first | (have bx17_1414 : -1 ≤ x17_1414 ∧ x17_1414 ≤ 29 := nbx17_1414.1 ⟨by omega, by omega⟩) | (have bx17_1414 : -1 ≤ x17_1414 ∧ x17_1414 ≤ 29 := nbx17_1414.2.1 ⟨by omega, by omega⟩) | skip
              have fx17_1414 : x17_1414 = M32_1403 k1 x8_1386 := by rw [ex17_1414, h_M40_1409, up2_n (by omega), h_M35_1406, up2_n (by omega)]
              refine ⟨(by first | assumption | exact ⟨by omega, by omega⟩), ?_⟩
              intro x19_1415 ex19_1415 rx19_1415
              unfold qX12_mournerGoes_J145
              refine ⟨by omega, ?_⟩
              refine ⟨by omega, ?_⟩
              refine ⟨(by first | assumption | exact ⟨by omega, by omega⟩), ?_⟩
              intro M23_1416 h_M23_1416
              have hM23_1416 : IM (b) M23_1416 := by rw [h_M23_1416]; exact hM40_1409.up (by omega) ((bm_n hk1).mpr (by first | assumption | exact ⟨by omega, by omega, by omega, by omega⟩))
              exact hQ _ (hM23_1416.mono (by omega))
            · intro x24_1418 ex24_1418 rx24_1418
              have rbx24_1418 : -2147483648 ≤ x24_1418 ∧ x24_1418 ≤ 2147483647 := rx24_1418
              have nbx24_1418 : BN (b) x8_1386 x24_1418 := by rw [ex24_1418]; exact (bm_n hk1).mp (hM40_1409.bx _ _)
              first | (have bx24_1418 : -1 ≤ x24_1418 ∧ x24_1418 ≤ 29 := nbx24_1418.1 ⟨by omega, by omega⟩) | (have bx24_1418 : -1 ≤ x24_1418 ∧ x24_1418 ≤ 29 := nbx24_1418.2.1 ⟨by omega, by omega⟩) | skip
              have fx24_1418 : x24_1418 = M32_1403 k1 x8_1386 := by rw [ex24_1418, h_M40_1409, up2_n (by omega), h_M35_1406, up2_n (by omega)]
              refine ⟨(by first | assumption | exact ⟨by omega, by omega⟩), ?_⟩
              intro x26_1419 ex26_1419 rx26_1419
              unfold qX12_mournerGoes_J145
              refine ⟨by omega, ?_⟩
              refine ⟨by omega, ?_⟩
              refine ⟨(by first | assumption | exact ⟨by omega, by omega⟩), ?_⟩
              intro M23_1420 h_M23_1420
              have hM23_1420 : IM (b) M23_1420 := by rw [h_M23_1420]; exact hM40_1409.up (by omega) ((bm_n hk1).mpr (by first | assumption | exact ⟨by omega, by omega, by omega, by omega⟩))
              exact hQ _ (hM23_1420.mono (by omega))
        · refine ⟨by omega, ?_⟩
          refine ⟨by omega, ?_⟩
          intro x43_1422 ex43_1422 rx43_1422
          have rbx43_1422 : -2147483648 ≤ x43_1422 ∧ x43_1422 ≤ 2147483647 := rx43_1422
          have nbx43_1422 : BN (b) x8_1386 x43_1422 := by rw [ex43_1422]; exact (bm_n hk1).mp (hI.bx _ _)
          first | (have bx43_1422 : -1 ≤ x43_1422 ∧ x43_1422 ≤ 29 := nbx43_1422.1 ⟨by omega, by omega⟩) | (have bx43_1422 : -1 ≤ x43_1422 ∧ x43_1422 ≤ 29 := nbx43_1422.2.1 ⟨by omega, by omega⟩) | skip
          refine ⟨(by first | assumption | exact ⟨by omega, by omega⟩), ?_⟩
          intro x45_1423 px45_1423 nx45_1423
          have bx45_1423 : 0 ≤ x45_1423 ∧ (x43_1422 - x7_1385 = x45_1423 ∨ x43_1422 - x7_1385 = -x45_1423) := by omega
          refine ⟨by omega, ?_⟩
          refine ⟨by omega, ?_⟩
          intro x48_1424 ex48_1424 rx48_1424
          have rbx48_1424 : -2147483648 ≤ x48_1424 ∧ x48_1424 ≤ 2147483647 := rx48_1424
          have nbx48_1424 : BN (b) x3_1305 x48_1424 := by rw [ex48_1424]; exact (bm_n hk1).mp (hI.bx _ _)
          first | (have bx48_1424 : -1 ≤ x48_1424 ∧ x48_1424 ≤ 29 := nbx48_1424.1 ⟨by omega, by omega⟩) | (have bx48_1424 : -1 ≤ x48_1424 ∧ x48_1424 ≤ 29 := nbx48_1424.2.1 ⟨by omega, by omega⟩) | skip
          have cgx48_1424 : x48_1424 = M k1 (M k1 (21 + p2)) := by rw [ex48_1424, ← ex3_1305]
          refine ⟨(by first | assumption | exact ⟨by omega, by omega⟩), ?_⟩
          intro x50_1425 px50_1425 nx50_1425
          have bx50_1425 : 0 ≤ x50_1425 ∧ (x48_1424 - x7_1385 = x50_1425 ∨ x48_1424 - x7_1385 = -x50_1425) := by omega
          refine ⟨(by first | assumption | exact ⟨by omega, by omega⟩), ?_⟩
          refine ⟨(by first | assumption | exact ⟨by omega, by omega⟩), ?_⟩
          refine ⟨fun c => ?_, fun c => ?_⟩
          · unfold qX12_mournerGoes_J105
            refine ⟨(by first | assumption | exact ⟨by omega, by omega⟩), ?_⟩
            refine ⟨fun c => ?_, fun c => ?_⟩
            · exact hQ _ (hI.mono (by omega))
            · refine ⟨by omega, ?_⟩
              refine ⟨by omega, ?_⟩
              intro x14_1429 ex14_1429 rx14_1429
              have rbx14_1429 : -2147483648 ≤ x14_1429 ∧ x14_1429 ≤ 2147483647 := rx14_1429
              have nbx14_1429 : BN (b) x3_1305 x14_1429 := by rw [ex14_1429]; exact (bm_n hk1).mp (hI.bx _ _)
              first | (have bx14_1429 : -1 ≤ x14_1429 ∧ x14_1429 ≤ 29 := nbx14_1429.1 ⟨by omega, by omega⟩) | (have bx14_1429 : -1 ≤ x14_1429 ∧ x14_1429 ≤ 29 := nbx14_1429.2.1 ⟨by omega, by omega⟩) | skip
              have cgx14_1429 : x14_1429 = M k1 (M k1 (21 + p2)) := by rw [ex14_1429, ← ex3_1305]
              refine ⟨(by first | assumption | exact ⟨by omega, by omega⟩), ?_⟩
              refine ⟨fun c => ?_, fun c => ?_⟩
              · intro x17_1431 ex17_1431 rx17_1431
                have rbx17_1431 : -2147483648 ≤ x17_1431 ∧ x17_1431 ≤ 2147483647 := rx17_1431
                have nbx17_1431 : BN (b) x3_1305 x17_1431 := by rw [ex17_1431]; exact (bm_n hk1).mp (hI.bx _ _)
                first | (have bx17_1431 : -1 ≤ x17_1431 ∧ x17_1431 ≤ 29 := nbx17_1431.1 ⟨by omega, by omega⟩) | (have bx17_1431 : -1 ≤ x17_1431 ∧ x17_1431 ≤ 29 := nbx17_1431.2.1 ⟨by omega, by omega⟩) | skip
                have cgx17_1431 : x17_1431 = M k1 (M k1 (21 + p2)) := by rw [ex17_1431, ← ex3_1305]
                refine ⟨(by first | assumption | exact ⟨by omega, by omega⟩), ?_⟩
                intro x19_1432 ex19_1432 rx19_1432
                unfold qX12_mournerGoes_J145
                refine ⟨by omega, ?_⟩
                refine ⟨by omega, ?_⟩
                refine ⟨(by first | assumption | exact ⟨by omega, by omega⟩), ?_⟩
                intro M23_1433 h_M23_1433
                have hM23_1433 : IM (b) M23_1433 := by rw [h_M23_1433]; exact hI.up (by omega) ((bm_n hk1).mpr (by first | assumption | exact ⟨by omega, by omega, by omega, by omega⟩))
                exact hQ _ (hM23_1433.mono (by omega))
              · intro x24_1435 ex24_1435 rx24_1435
                have rbx24_1435 : -2147483648 ≤ x24_1435 ∧ x24_1435 ≤ 2147483647 := rx24_1435
                have nbx24_1435 : BN (b) x3_1305 x24_1435 := by rw [ex24_1435]; exact (bm_n hk1).mp (hI.bx _ _)
                first | (have bx24_1435 : -1 ≤ x24_1435 ∧ x24_1435 ≤ 29 := nbx24_1435.1 ⟨by omega, by omega⟩) | (have bx24_1435 : -1 ≤ x24_1435 ∧ x24_1435 ≤ 29 := nbx24_1435.2.1 ⟨by omega, by omega⟩) | skip
                have cgx24_1435 : x24_1435 = M k1 (M k1 (21 + p2)) := by rw [ex24_1435, ← ex3_1305]
                refine ⟨(by first | assumption | exact ⟨by omega, by omega⟩), ?_⟩
                intro x26_1436 ex26_1436 rx26_1436
                unfold qX12_mournerGoes_J145
                refine ⟨by omega, ?_⟩
                refine ⟨by omega, ?_⟩
                refine ⟨(by first | assumption | exact ⟨by omega, by omega⟩), ?_⟩
                intro M23_1437 h_M23_1437
                have hM23_1437 : IM (b) M23_1437 := by rw [h_M23_1437]; exact hI.up (by omega) ((bm_n hk1).mpr (by first | assumption | exact ⟨by omega, by omega, by omega, by omega⟩))
                exact hQ _ (hM23_1437.mono (by omega))
          · unfold qX12_mournerGoes_J75
            refine ⟨by omega, ?_⟩
            refine ⟨by omega, ?_⟩
            refine ⟨(by first | assumption | exact ⟨by omega, by omega⟩), ?_⟩
            intro M32_1439 h_M32_1439
            have hM32_1439 : IM (b) M32_1439 := by rw [h_M32_1439]; exact hI.up (by omega) ((bm_n hk1).mpr (by first | assumption | exact ⟨by omega, by omega, by omega, by omega⟩))
            intro x33_1440 ex33_1440 rx33_1440
            have bx33_1440 : -2147483648 ≤ x33_1440 ∧ x33_1440 ≤ 2147483647 := rx33_1440
            have fx33_1440 : x33_1440 = M 1 31 := by rw [ex33_1440, h_M32_1439, up2_n (by omega)]
            intro x34_1441 ex34_1441 rx34_1441
            first | (have fx34_1441 : x34_1441 = x33_1440 + 1 := by rw [ex34_1441]; exact w32_id ⟨by omega, by omega⟩) | skip
            intro M35_1442 h_M35_1442
            have hM35_1442 : IM (b) M35_1442 := by rw [h_M35_1442]; exact hM32_1439.up (by omega) (by simp [BM])
            refine ⟨by omega, ?_⟩
            refine ⟨by omega, ?_⟩
            intro x38_1443 ex38_1443 rx38_1443
            have bx38_1443 : -2147483648 ≤ x38_1443 ∧ x38_1443 ≤ 2147483647 := rx38_1443
            have fx38_1443 : x38_1443 = M 17 p2 := by rw [ex38_1443, h_M35_1442, up2_n (by decide), h_M32_1439, up2_n (by omega)]
            intro x39_1444 ex39_1444 rx39_1444
            first | (have fx39_1444 : x39_1444 = x38_1443 + 1 := by rw [ex39_1444]; exact w32_id ⟨by omega, by omega⟩) | skip
            intro M40_1445 h_M40_1445
            have hM40_1445 : IM (b) M40_1445 := by rw [h_M40_1445]; exact hM35_1442.up (by omega) (by simp [BM])
            unfold qX12_mournerGoes_J105
            refine ⟨(by first | assumption | exact ⟨by omega, by omega⟩), ?_⟩
            refine ⟨fun c => ?_, fun c => ?_⟩
            · exact hQ _ (hM40_1445.mono (by omega))
            · refine ⟨by omega, ?_⟩
              refine ⟨by omega, ?_⟩
              intro x14_1448 ex14_1448 rx14_1448
              have rbx14_1448 : -2147483648 ≤ x14_1448 ∧ x14_1448 ≤ 2147483647 := rx14_1448
              have nbx14_1448 : BN (b) x8_1386 x14_1448 := by rw [ex14_1448]; exact (bm_n hk1).mp (hM40_1445.bx _ _)
              first | (have bx14_1448 : -1 ≤ x14_1448 ∧ x14_1448 ≤ 29 := nbx14_1448.1 ⟨by omega, by omega⟩) | (have bx14_1448 : -1 ≤ x14_1448 ∧ x14_1448 ≤ 29 := nbx14_1448.2.1 ⟨by omega, by omega⟩) | skip
              have fx14_1448 : x14_1448 = M32_1439 k1 x8_1386 := by rw [ex14_1448, h_M40_1445, up2_n (by omega), h_M35_1442, up2_n (by omega)]
              refine ⟨(by first | assumption | exact ⟨by omega, by omega⟩), ?_⟩
              refine ⟨fun c => ?_, fun c => ?_⟩
              · intro x17_1450 ex17_1450 rx17_1450
                have rbx17_1450 : -2147483648 ≤ x17_1450 ∧ x17_1450 ≤ 2147483647 := rx17_1450
                have nbx17_1450 : BN (b) x8_1386 x17_1450 := by rw [ex17_1450]; exact (bm_n hk1).mp (hM40_1445.bx _ _)
                first | (have bx17_1450 : -1 ≤ x17_1450 ∧ x17_1450 ≤ 29 := nbx17_1450.1 ⟨by omega, by omega⟩) | (have bx17_1450 : -1 ≤ x17_1450 ∧ x17_1450 ≤ 29 := nbx17_1450.2.1 ⟨by omega, by omega⟩) | skip
                have fx17_1450 : x17_1450 = M32_1439 k1 x8_1386 := by rw [ex17_1450, h_M40_1445, up2_n (by omega), h_M35_1442, up2_n (by omega)]
                refine ⟨(by first | assumption | exact ⟨by omega, by omega⟩), ?_⟩
                intro x19_1451 ex19_1451 rx19_1451
                unfold qX12_mournerGoes_J145
                refine ⟨by omega, ?_⟩
                refine ⟨by omega, ?_⟩
                refine ⟨(by first | assumption | exact ⟨by omega, by omega⟩), ?_⟩
                intro M23_1452 h_M23_1452
                have hM23_1452 : IM (b) M23_1452 := by rw [h_M23_1452]; exact hM40_1445.up (by omega) ((bm_n hk1).mpr (by first | assumption | exact ⟨by omega, by omega, by omega, by omega⟩))
                exact hQ _ (hM23_1452.mono (by omega))
              · intro x24_1454 ex24_1454 rx24_1454
                have rbx24_1454 : -2147483648 ≤ x24_1454 ∧ x24_1454 ≤ 2147483647 := rx24_1454
                have nbx24_1454 : BN (b) x8_1386 x24_1454 := by rw [ex24_1454]; exact (bm_n hk1).mp (hM40_1445.bx _ _)
                first | (have bx24_1454 : -1 ≤ x24_1454 ∧ x24_1454 ≤ 29 := nbx24_1454.1 ⟨by omega, by omega⟩) | (have bx24_1454 : -1 ≤ x24_1454 ∧ x24_1454 ≤ 29 := nbx24_1454.2.1 ⟨by omega, by omega⟩) | skip
                have fx24_1454 : x24_1454 = M32_1439 k1 x8_1386 := by rw [ex24_1454, h_M40_1445, up2_n (by omega), h_M35_1442, up2_n (by omega)]
                refine ⟨(by first | assumption | exact ⟨by omega, by omega⟩), ?_⟩
                intro x26_1455 ex26_1455 rx26_1455
                unfold qX12_mournerGoes_J145
                refine ⟨by omega, ?_⟩
                refine ⟨by omega, ?_⟩
                refine ⟨(by first | assumption | exact ⟨by omega, by omega⟩), ?_⟩
                intro M23_1456 h_M23_1456
                have hM23_1456 : IM (b) M23_1456 := by rw [h_M23_1456]; exact hM40_1445.up (by omega) ((bm_n hk1).mpr (by first | assumption | exact ⟨by omega, by omega, by omega, by omega⟩))
                exact hQ _ (hM23_1456.mono (by omega))
    · refine ⟨by omega, ?_⟩
      refine ⟨by omega, ?_⟩
      intro M58_1458 h_M58_1458
      have hM58_1458 : IM (b) M58_1458 := by rw [h_M58_1458]; exact hI.up (by omega) ((bm_n hk1).mpr (by first | assumption | exact ⟨by omega, by omega, by omega, by omega⟩))
      exact hQ _ (hM58_1458.mono (by omega))
theorem sX12_stepGoes_L34 {k1 : Nat} {X62 : Mem → Prop} {Q : Mem → Prop} {b : Int} (hb : b + 1 ≤ 2000000000) (hk1 : isN k1) (hQ : ∀ M' : Mem, IM (b + 1) M' → Q M') (hX62 : ∀ M' : Mem, IM (b) M' → X62 M') : ∀ (n : Nat) (v2 : Int) (M : Mem), IM (b) M → (0 ≤ v2 ∧ v2 ≤ 8) → 8 - v2 < (n : Int) → qX12_stepGoes_L34 k1 X62 Q n v2 M := by
  intro n
  induction n with
  | zero => intro v2 M hI hv hm; exact absurd hm (by omega)
  | succ n ih =>
    intro v2 M hI hv hm
    rw [qX12_stepGoes_L34]
    have hbn := hI.nn
    have ek1 : k1 = 5 ∨ k1 = 6 := hk1
    intro x10_1459 ex10_1459 rx10_1459
    have bx10_1459 : 0 ≤ x10_1459 ∧ x10_1459 ≤ 8 := by rw [ex10_1459]; exact bm_c1_5.mp (hI.bx _ _)
    refine ⟨(by first | assumption | exact ⟨by omega, by omega⟩), ?_⟩
    refine ⟨fun c => ?_, fun c => ?_⟩
    · exact hX62 _ (hI.mono (by omega))
    · refine sX12_isEnded (p1 := v2) hI hk1 (by omega) ?_
      intro x13_1462 q1463 q1464
      refine ⟨fun c => ?_, fun c => ?_⟩
      · exact ih _ _ (hI.mono (by omega)) (by omega) (by omega)
      · refine sX12_mournerGoes (p2 := v2) hI hk1 (by omega) ?_
        intro M15_1467 hM15_1467
        exact ih _ _ (hM15_1467.mono (by omega)) (by omega) (by omega)
theorem sX12_stepGoes_L7 {k1 : Nat} {X32 : Mem → Prop} {Q : Mem → Prop} {b : Int} (hk1 : isN k1) (hX : ∀ M' : Mem, IM b M' → X32 M') : ∀ (n : Nat) (v2 : Int) (M : Mem), IM b M → (0 ≤ v2 ∧ v2 ≤ 6) → (∀ i, v2 ≤ i → i < M 1 35 → 0 ≤ M k1 (M 18 i)) → (∀ i j, 0 ≤ i → i < j → j < M 1 35 → M 18 i ≠ M 18 j) → 6 - v2 < (n : Int) → qX12_stepGoes_L7 k1 X32 Q n v2 M := by
  intro n
  induction n with
  | zero => intro v2 M hI hv h2 h3 hm; exact absurd hm (by omega)
  | succ n ih =>
    intro v2 M hI hv h2 h3 hm
    have hk5 : k1 = 5 ∨ k1 = 6 := hk1
    rw [qX12_stepGoes_L7]
    intro x2 e2 _
    have b2 : 0 ≤ x2 ∧ x2 ≤ 6 := by rw [e2]; exact bm_c1_35.mp (hI.bx _ _)
    refine ⟨⟨by omega, by omega⟩, ⟨fun c => hX _ hI, fun c => ?_⟩⟩
    refine ⟨by omega, by omega, ?_⟩
    intro x7 e7 _
    have b7 : 0 ≤ x7 ∧ x7 ≤ 5 := by rw [e7]; exact bm_c18.mp (hI.bx _ _)
    have ho := h2 v2 (by omega) (by omega)
    rw [← e7] at ho
    refine sX12_hearseGoes (p2 := x7) hI hk1 ⟨by omega, by omega, ho⟩ ?_
    intro M8 h8 g8
    have g1 : M8 1 35 = M 1 35 := g8 1 35 (by omega)
    have g2 : ∀ i, M8 18 i = M 18 i := fun i => g8 18 i (by omega)
    refine ih _ _ h8 (by omega) ?_ ?_ (by omega)
    · intro i a q
      rw [g1] at q
      have hb := bm_c18.mp (hI.bx 18 i)
      have hd := h3 v2 i (by omega) (by omega) q
      rw [g2, g8 k1 (M 18 i) (by omega)]
      exact h2 i (by omega) q
    · intro i j a q r
      rw [g1] at r
      rw [g2, g2]
      exact h3 i j a q r
theorem sX12_stepGoes {k1 : Nat} {b : Int} {M : Mem} {Q : Mem → Prop} (hI : IM b M) (hb : b + 1 ≤ 2000000000) (hk1 : isN k1) (hQ : ∀ M' : Mem, IM (b + 1) M' → Q M') : qX12_stepGoes k1 M Q := by
  have hk5 : k1 = 5 ∨ k1 = 6 := hk1
  unfold qX12_stepGoes
  refine sX12_laysLineF hI hk1 ?_
  intro M1 h1 l1
  refine ⟨7, sX12_stepGoes_L7 (b := b) hk1 ?_ _ _ _ h1 (by omega) l1.1 l1.2 (by omega)⟩
  intro M2 h2
  refine ⟨9, sX12_stepGoes_L34 (b := b) hb hk1 hQ ?_ _ _ _ h2 (by omega) (by omega)⟩
  intro M3 h3 x17 e17 _
  have b17 : 0 ≤ x17 ∧ x17 ≤ b := by rw [e17]; exact ((bm_n hk1).mp (h3.bx _ _)).2.2.2 rfl
  refine ⟨⟨by omega, by omega⟩, ?_⟩
  intro M19 h19
  refine hQ _ ?_
  rw [h19]
  exact (h3.mono (by omega)).up (by omega) ((bm_n hk1).mpr ⟨by omega, by omega, by omega, by omega⟩)
theorem sX12_goesOn_L12 {k1 : Nat} {p2 : Int} {X31 : Mem → Prop} {Q : Mem → Prop} {b : Int} (hb : b + 200 ≤ 2000000000) (hk1 : isN k1) (hp : p2 ≤ 200) (hQ : ∀ M' : Mem, IM (b + 200) M' → Q M') (hX31 : ∀ M' : Mem, IM (b) M' → X31 M') : ∀ (n : Nat) (v3 : Int) (M : Mem), IM (b) M → (0 ≤ v3 ∧ v3 ≤ 30) → 30 - v3 < (n : Int) → qX12_goesOn_L12 k1 p2 X31 Q n v3 M := by
  intro n
  induction n with
  | zero => intro v3 M hI hv hm; exact absurd hm (by omega)
  | succ n ih =>
    intro v3 M hI hv hm
    rw [qX12_goesOn_L12]
    have hbn := hI.nn
    have ek1 : k1 = 5 ∨ k1 = 6 := hk1
    refine ⟨(by first | assumption | exact ⟨by omega, by omega⟩), ?_⟩
    refine ⟨fun c => ?_, fun c => ?_⟩
    · exact hX31 _ (hI.mono (by omega))
    · refine ⟨by omega, ?_⟩
      refine ⟨by omega, ?_⟩
      intro M7_1470 h_M7_1470
      have hM7_1470 : IM (b) M7_1470 := by rw [h_M7_1470]; exact hI.up (by omega) (by simp [BM])
      exact ih _ _ (hM7_1470.mono (by omega)) (by omega) (by omega)
theorem sX12_goesOn_L33 {k1 : Nat} {p2 : Int} {X52 : Mem → Prop} {Q : Mem → Prop} {b : Int} (hb : b + 200 ≤ 2000000000) (hk1 : isN k1) (hp : p2 ≤ 200) (hQ : ∀ M' : Mem, IM (b + 200) M' → Q M') (hX52 : ∀ M' : Mem, IM (b) M' → X52 M') : ∀ (n : Nat) (v3 : Int) (M : Mem), IM (b) M → (0 ≤ v3 ∧ v3 ≤ 8) → 8 - v3 < (n : Int) → qX12_goesOn_L33 k1 p2 X52 Q n v3 M := by
  intro n
  induction n with
  | zero => intro v3 M hI hv hm; exact absurd hm (by omega)
  | succ n ih =>
    intro v3 M hI hv hm
    rw [qX12_goesOn_L33]
    have hbn := hI.nn
    have ek1 : k1 = 5 ∨ k1 = 6 := hk1
    refine ⟨(by first | assumption | exact ⟨by omega, by omega⟩), ?_⟩
    refine ⟨fun c => ?_, fun c => ?_⟩
    · exact hX52 _ (hI.mono (by omega))
    · refine ⟨by omega, ?_⟩
      refine ⟨by omega, ?_⟩
      intro M13_1473 h_M13_1473
      have hM13_1473 : IM (b) M13_1473 := by rw [h_M13_1473]; exact hI.up (by omega) (by simp [BM])
      exact ih _ _ (hM13_1473.mono (by omega)) (by omega) (by omega)
theorem sX12_goesOn_L54 {k1 : Nat} {p2 : Int}  {Q : Mem → Prop} {b : Int} (hb : b + 200 ≤ 2000000000) (hk1 : isN k1) (hp : p2 ≤ 200) (hQ : ∀ M' : Mem, IM (b + 200) M' → Q M') : ∀ (n : Nat) (v3 : Int) (M : Mem), IM (b + v3) M → (0 ≤ v3 ∧ v3 ≤ 200) → 200 - v3 < (n : Int) → qX12_goesOn_L54 k1 p2 Q n v3 M := by
  intro n
  induction n with
  | zero => intro v3 M hI hv hm; exact absurd hm (by omega)
  | succ n ih =>
    intro v3 M hI hv hm
    rw [qX12_goesOn_L54]
    have hbn := hI.nn
    have ek1 : k1 = 5 ∨ k1 = 6 := hk1
    refine ⟨(by first | assumption | exact ⟨by omega, by omega⟩), ?_⟩
    refine ⟨fun c => ?_, fun c => ?_⟩
    · exact hQ _ (hI.mono (by omega))
    · refine sX12_stepGoes  hI (by omega) hk1 ?_
      intro M17_1476 hM17_1476
      exact ih _ _ (hM17_1476.mono (by omega)) (by omega) (by omega)
theorem sX12_goesOn {k1 : Nat} {p2 : Int} {b : Int} {M : Mem} {Q : Mem → Prop} (hI : IM b M) (hb : b + 200 ≤ 2000000000) (hk1 : isN k1) (hp : p2 ≤ 200) (hQ : ∀ M' : Mem, IM (b + 200) M' → Q M') : qX12_goesOn k1 p2 M Q := by
  unfold qX12_goesOn
  have hbn := hI.nn
  have ek1 : k1 = 5 ∨ k1 = 6 := hk1
  intro M1_1477 h_M1_1477
  have hM1_1477 : IM (b) M1_1477 := by rw [h_M1_1477]; exact hI.up (by omega) (by simp [BM])
  intro M2_1478 h_M2_1478
  have hM2_1478 : IM (b) M2_1478 := by rw [h_M2_1478]; exact hM1_1477.up (by omega) (by simp [BM])
  refine ⟨31, ?_⟩
  refine sX12_goesOn_L12 (b := b) (p2 := p2) hb hk1 hp ?_ ?_ _ _ _ (hM2_1478.mono (by omega)) (by omega) (by omega)
  · exact hQ
  · intro M_1479 hM_1479
    refine ⟨9, ?_⟩
    refine sX12_goesOn_L33 (b := b) (p2 := p2) hb hk1 hp ?_ ?_ _ _ _ (hM_1479.mono (by omega)) (by omega) (by omega)
    · exact hQ
    · intro M_1480 hM_1480
      refine ⟨201, ?_⟩
      refine sX12_goesOn_L54 (b := b) (p2 := p2) hb hk1 hp ?_ _ _ _ (hM_1480.mono (by omega)) (by omega) (by omega)
      · exact hQ
theorem sX12_putsBy_L2   {Q : Mem → Prop} {b : Int} (hQ : ∀ M' : Mem, IM b M' → Q M') : ∀ (n : Nat) (v1 : Int) (M : Mem), IM (b) M → (0 ≤ v1 ∧ v1 ≤ 38) → 38 - v1 < (n : Int) → qX12_putsBy_L2 Q n v1 M := by
  intro n
  induction n with
  | zero => intro v1 M hI hv hm; exact absurd hm (by omega)
  | succ n ih =>
    intro v1 M hI hv hm
    rw [qX12_putsBy_L2]
    have hbn := hI.nn
    refine ⟨(by first | assumption | exact ⟨by omega, by omega⟩), ?_⟩
    refine ⟨fun c => ?_, fun c => ?_⟩
    · exact hQ _ (hI.mono (by omega))
    · intro x3_1483 ex3_1483 rx3_1483
      have bx3_1483 : 0 ≤ x3_1483 ∧ x3_1483 ≤ 15 := by rw [ex3_1483]; exact bm_c1_28.mp (hI.bx _ _)
      refine ⟨by omega, ?_⟩
      refine ⟨by omega, ?_⟩
      intro x6_1484 ex6_1484 rx6_1484
      have rbx6_1484 : -2147483648 ≤ x6_1484 ∧ x6_1484 ≤ 2147483647 := rx6_1484
      have nbx6_1484 : BN (b) v1 x6_1484 := by rw [ex6_1484]; exact (bm_n (Or.inl rfl)).mp (hI.bx _ _)
      first | (have bx6_1484 : -1 ≤ x6_1484 ∧ x6_1484 ≤ 29 := nbx6_1484.1 ⟨by omega, by omega⟩) | (have bx6_1484 : -1 ≤ x6_1484 ∧ x6_1484 ≤ 29 := nbx6_1484.2.1 ⟨by omega, by omega⟩) | skip
      refine ⟨by omega, ?_⟩
      refine ⟨by omega, ?_⟩
      intro M9_1485 h_M9_1485
      have hM9_1485 : IM (b) M9_1485 := by rw [h_M9_1485]; exact hI.up (by omega) (bm_c15.mpr (by rw [show (38 * x3_1483 + v1) % 38 = v1 from by omega]; assumption))
      exact ih _ _ (hM9_1485.mono (by omega)) (by omega) (by omega)
theorem sX12_putsBy  {b : Int} {M : Mem} {Q : Mem → Prop} (hI : IM b M) (hQ : ∀ M' : Mem, IM b M' → Q M') : qX12_putsBy M Q := by
  unfold qX12_putsBy
  have hbn := hI.nn
  refine ⟨39, ?_⟩
  refine sX12_putsBy_L2 (b := b)  ?_ _ _ _ (hI.mono (by omega)) (by omega) (by omega)
  · exact hQ
theorem sX12_steps {p1 : Int} {b : Int} {M : Mem} {Q : Int → Mem → Prop} (hI : IM b M) (hb : b + 200 ≤ 2000000000) (hQ : ∀ z : Int, ∀ M' : Mem, IM (b + 200) M' → Q z M') : qX12_steps p1 M Q := by
  unfold qX12_steps
  have hbn := hI.nn
  intro M1_1486 h_M1_1486
  have hM1_1486 : IM (b) M1_1486 := by rw [h_M1_1486]; exact hI.up (by omega) (by simp [BM])
  refine sX12_in (p0 := p1) (p2 := 0) (p4 := 60) hM1_1486  ?_
  intro x2_1487 p1488 q1489 q1490
  refine ⟨fun c => ?_, fun c => ?_⟩
  · refine sX12_putsBy  hM1_1486  ?_
    intro M4_1492 hM4_1492
    refine sX12_goesOn (p2 := p1) hM4_1492 (by omega) (Or.inl rfl) (by omega) ?_
    intro M5_1493 hM5_1493
    intro M6_1494 h_M6_1494
    have hM6_1494 : IM (b + 200) M6_1494 := by rw [h_M6_1494]; exact hM5_1493.up (by omega) (bm_c1_1.mpr ⟨by omega, by omega⟩)
    intro x7_1495 ex7_1495 rx7_1495
    have bx7_1495 : -2147483648 ≤ x7_1495 ∧ x7_1495 ≤ 2147483647 := rx7_1495
    have fx7_1495 : x7_1495 = M5_1493 1 30 := by rw [ex7_1495, h_M6_1494, up2_j (by decide)]
    have u1496 : 0 ≤ M6_1494 1 1 ∧ M6_1494 1 1 ≤ 24 := bm_c1_1.mp (hM6_1494.bx _ _)
    have t1497 : M6_1494 1 1 = 0 := by rw [h_M6_1494, up2_s]
    refine sX12_enters (p1 := x7_1495) hM6_1494 (by omega) ?_
    intro M8_1498 hM8_1498 p1499
    intro x9_1500 ex9_1500 rx9_1500
    have bx9_1500 : -2147483648 ≤ x9_1500 ∧ x9_1500 ≤ 2147483647 := rx9_1500
    have u1501 : 0 ≤ M8_1498 1 1 ∧ M8_1498 1 1 ≤ 24 := bm_c1_1.mp (hM8_1498.bx _ _)
    refine sX12_enters (p1 := x9_1500) hM8_1498 (by omega) ?_
    intro M10_1502 hM10_1502 p1503
    intro x11_1504 ex11_1504 rx11_1504
    have bx11_1504 : -2147483648 ≤ x11_1504 ∧ x11_1504 ≤ 2147483647 := rx11_1504
    refine sX12_adds (p1 := x11_1504) hM10_1502  ?_
    intro x12_1505 M12_1506 hM12_1506 q1507
    exact hQ _ _ (hM12_1506.mono (by omega))
  · exact hQ _ _ (hM1_1486.mono (by omega))
theorem sX12_counted {p1 : Int} {b : Int} {M : Mem} {Q : Int → Mem → Prop} (hI : IM b M) (hQ : ∀ z : Int, ∀ M' : Mem, IM b M' → Q z M') : qX12_counted p1 M Q := by
  unfold qX12_counted
  have hbn := hI.nn
  refine ⟨fun c => ?_, fun c => ?_⟩
  · unfold qX12_counted_J14
    refine sX12_adds (p1 := p1) hI  ?_
    intro x2_1510 M2_1511 hM2_1511 q1512
    exact hQ _ _ (hM2_1511.mono (by omega))
  · refine ⟨fun c => ?_, fun c => ?_⟩
    · unfold qX12_counted_J14
      refine sX12_adds (p1 := p1) hI  ?_
      intro x2_1515 M2_1516 hM2_1516 q1517
      exact hQ _ _ (hM2_1516.mono (by omega))
    · exact hQ _ _ (hI.mono (by omega))
theorem sX12_turnsOne {k1 : Nat} {p2 : Int} {b : Int} {M : Mem} {Q : Int → Mem → Prop} (hI : IM b M) (hk1 : isN k1) (hQ : ∀ z : Int, ∀ M' : Mem, IM b M' → Q z M') : qX12_turnsOne k1 p2 M Q := by
  unfold qX12_turnsOne
  have hbn := hI.nn
  have ek1 : k1 = 5 ∨ k1 = 6 := hk1
  refine sX12_isMourner (p1 := p2) hI  ?_
  intro x1_1519 p1520 q1521 q1522
  refine ⟨fun c => ?_, fun c => ?_⟩
  · refine sX12_isEnded (p1 := p2) hI hk1 (by omega) ?_
    intro x3_1524 q1525 q1526
    refine ⟨fun c => ?_, fun c => ?_⟩
    · refine ⟨by omega, ?_⟩
      refine ⟨by omega, ?_⟩
      intro x7_1528 ex7_1528 rx7_1528
      have rbx7_1528 : -2147483648 ≤ x7_1528 ∧ x7_1528 ≤ 2147483647 := rx7_1528
      first | (have bx7_1528 : -1 ≤ x7_1528 ∧ x7_1528 ≤ 5 := by rw [ex7_1528]; exact ((bm_n hk1).mp (hI.bx _ _)).2.2.1 ⟨by omega, by omega⟩) | skip
      refine ⟨by omega, ?_⟩
      refine ⟨by omega, ?_⟩
      intro x10_1529 ex10_1529 rx10_1529
      have bx10_1529 : 0 ≤ x10_1529 ∧ x10_1529 ≤ 5 := by rw [ex10_1529]; exact bm_c3.mp (hI.bx _ _)
      refine sX12_isOn (p1 := x10_1529) hI hk1 (by omega) ?_
      intro x11_1530 p1531 q1532 q1533
      refine ⟨fun c => ?_, fun c => ?_⟩
      · exact hQ _ _ (hI.mono (by omega))
      · intro x13_1536 ex13_1536 rx13_1536
        have bx13_1536 : 0 ≤ x13_1536 ∧ x13_1536 ≤ 5 := by rw [ex13_1536]; exact bm_c3.mp (hI.bx _ _)
        refine ⟨fun c => ?_, fun c => ?_⟩
        · intro x15_1538 ex15_1538 rx15_1538
          have bx15_1538 : 0 ≤ x15_1538 ∧ x15_1538 ≤ 5 := by rw [ex15_1538]; exact bm_c3.mp (hI.bx _ _)
          intro M16_1539 h_M16_1539
          have hM16_1539 : IM (b) M16_1539 := by rw [h_M16_1539]; exact hI.up (by omega) ((bm_n hk1).mpr (by first | assumption | exact ⟨by omega, by omega, by omega, by omega⟩))
          refine ⟨fun c => ?_, fun c => ?_⟩
          · exact hQ _ _ (hM16_1539.mono (by omega))
          · exact hQ _ _ (hM16_1539.mono (by omega))
        · exact hQ _ _ (hI.mono (by omega))
    · exact hQ _ _ (hI.mono (by omega))
  · exact hQ _ _ (hI.mono (by omega))
