theorem sX12_nearest {k1 : Nat} {p2 : Int} {b : Int} {M : Mem} {Q : Int → Mem → Prop} (hI : IM b M) (hk1 : isN k1) (hp : -1 ≤ p2 ∧ p2 ≤ 29) (hQ : ∀ z : Int, (-1 ≤ z ∧ z ≤ 5 ∧ (0 ≤ z → 0 ≤ M k1 z)) → Q z M) : qX12_nearest k1 p2 M Q := by
  unfold qX12_nearest
  have hbn := hI.nn
  have ek1 : k1 = 5 ∨ k1 = 6 := hk1
  refine ⟨7, ?_⟩
  refine sX12_nearest_L5 (b := b) (p2 := p2) (M0 := M) hk1 hp ?_ _ _ _ (hI.mono (by omega)) (by omega) (by omega)
  · exact hQ
theorem sX12_mourner {p1 : Int} {p2 : Int} {b : Int} {M : Mem} {Q : Int → Mem → Prop} (hI : IM b M) (hQ : ∀ z : Int, ∀ M' : Mem, IM b M' → Q z M') : qX12_mourner p1 p2 M Q := by
  unfold qX12_mourner
  have hbn := hI.nn
  intro M1_756 h_M1_756
  have hM1_756 : IM (b) M1_756 := by rw [h_M1_756]; exact hI.up (by omega) (by simp [BM])
  refine sX12_isMourner (p1 := p1) hM1_756  ?_
  intro x2_757 p758 q759 q760
  refine ⟨fun c => ?_, fun c => ?_⟩
  · unfold qX12_mourner_J25
    refine sX12_refuse  hM1_756  ?_
    intro x4_762 M4_763 hM4_763 q764
    exact hQ _ _ (hM4_763.mono (by omega))
  · refine sX12_in (p0 := p2) (p2 := 0) (p4 := 4) hM1_756  ?_
    intro x5_766 p767 q768 q769
    refine ⟨fun c => ?_, fun c => ?_⟩
    · refine ⟨fun c => ?_, fun c => ?_, fun c => ?_, fun c => ?_, fun c => ?_⟩
      · refine ⟨by omega, ?_⟩
        refine ⟨by omega, ?_⟩
        intro x10_772 ex10_772 rx10_772
        have rbx10_772 : -2147483648 ≤ x10_772 ∧ x10_772 ≤ 2147483647 := rx10_772
        first | (have bx10_772 : -1 ≤ x10_772 ∧ x10_772 ≤ 29 := by rw [ex10_772]; exact ((bm_n (Or.inl rfl)).mp (hM1_756.bx _ _)).2.1 ⟨by omega, by omega⟩) | skip
        have fx10_772 : x10_772 = M 5 (13 + p1) := by rw [ex10_772, h_M1_756, up2_n (by decide)]
        exact hQ _ _ (hM1_756.mono (by omega))
      · refine ⟨by omega, ?_⟩
        refine ⟨by omega, ?_⟩
        intro x13_774 ex13_774 rx13_774
        have bx13_774 : 0 ≤ x13_774 ∧ x13_774 ≤ 5 := by rw [ex13_774]; exact bm_c3.mp (hM1_756.bx _ _)
        have fx13_774 : x13_774 = M 3 p1 := by rw [ex13_774, h_M1_756, up2_n (by decide)]
        exact hQ _ _ (hM1_756.mono (by omega))
      · refine ⟨by omega, ?_⟩
        refine ⟨by omega, ?_⟩
        intro x16_776 ex16_776 rx16_776
        have rbx16_776 : -2147483648 ≤ x16_776 ∧ x16_776 ≤ 2147483647 := rx16_776
        first | (have bx16_776 : -1 ≤ x16_776 ∧ x16_776 ≤ 5 := by rw [ex16_776]; exact ((bm_n (Or.inl rfl)).mp (hM1_756.bx _ _)).2.2.1 ⟨by omega, by omega⟩) | skip
        have fx16_776 : x16_776 = M 5 (21 + p1) := by rw [ex16_776, h_M1_756, up2_n (by decide)]
        exact hQ _ _ (hM1_756.mono (by omega))
      · refine ⟨by omega, ?_⟩
        refine ⟨by omega, ?_⟩
        intro x19_778 ex19_778 rx19_778
        have bx19_778 : -2147483648 ≤ x19_778 ∧ x19_778 ≤ 2147483647 := rx19_778
        have fx19_778 : x19_778 = M 5 (29 + p1) := by rw [ex19_778, h_M1_756, up2_n (by decide)]
        exact hQ _ _ (hM1_756.mono (by omega))
      · refine ⟨by omega, ?_⟩
        refine ⟨by omega, ?_⟩
        intro x22_780 ex22_780 rx22_780
        have rbx22_780 : -2147483648 ≤ x22_780 ∧ x22_780 ≤ 2147483647 := rx22_780
        first | (have bx22_780 : -1 ≤ x22_780 ∧ x22_780 ≤ 29 := by rw [ex22_780]; exact ((bm_n (Or.inl rfl)).mp (hM1_756.bx _ _)).2.1 ⟨by omega, by omega⟩) | skip
        have fx22_780 : x22_780 = M 5 (13 + p1) := by rw [ex22_780, h_M1_756, up2_n (by decide)]
        refine sX12_nearest (p2 := x22_780) hM1_756 (Or.inl rfl) (by omega) ?_
        intro x23_781 p782 q783
        exact hQ _ _ (hM1_756.mono (by omega))
    · unfold qX12_mourner_J25
      refine sX12_refuse  hM1_756  ?_
      intro x4_785 M4_786 hM4_786 q787
      exact hQ _ _ (hM4_786.mono (by omega))
theorem sX12_isEnded {k0 : Nat} {p1 : Int} {b : Int} {M : Mem} {Q : Int → Mem → Prop} (hI : IM b M) (hk0 : isN k0) (hp : 0 ≤ p1 ∧ p1 ≤ 7) (hQ : ∀ z : Int, Q z M) : qX12_isEnded k0 p1 M Q := by
  unfold qX12_isEnded
  have hbn := hI.nn
  have ek0 : k0 = 5 ∨ k0 = 6 := hk0
  refine ⟨by omega, ?_⟩
  refine ⟨by omega, ?_⟩
  intro x3_788 ex3_788 rx3_788
  have bx3_788 : -2147483648 ≤ x3_788 ∧ x3_788 ≤ 2147483647 := rx3_788
  refine ⟨fun c => ?_, fun c => ?_⟩
  · exact hQ _
  · exact hQ _
theorem sX12_sheet_L46 {p1 : Int} {p2 : Int} {p3 : Int} {p4 : Int} {X177 : Int → Mem → Prop} {Q : Int → Mem → Prop} {b : Int} (hp : -2147483648 ≤ p3 ∧ p3 ≤ 2147483647) (hQ : ∀ z : Int, ∀ M' : Mem, IM b M' → Q z M') (hX177 : ∀ w1 : Int, ∀ M' : Mem, IM (b) M' → iR w1 → X177 w1 M') : ∀ (n : Nat) (v5 v6 v7 : Int) (M : Mem), IM (b) M → (0 ≤ v7 ∧ v7 ≤ 8) → iR v5 → iR v6 → 8 - v7 < (n : Int) → qX12_sheet_L46 p1 p2 p3 p4 X177 Q n v5 v6 v7 M := by
  intro n
  induction n with
  | zero => intro v5 v6 v7 M hI hv hrv5 hrv6 hm; exact absurd hm (by omega)
  | succ n ih =>
    intro v5 v6 v7 M hI hv hrv5 hrv6 hm
    rw [qX12_sheet_L46]
    have hbn := hI.nn
    intro x6_791 ex6_791 rx6_791
    have bx6_791 : 0 ≤ x6_791 ∧ x6_791 ≤ 8 := by rw [ex6_791]; exact bm_c1_5.mp (hI.bx _ _)
    refine ⟨(by first | assumption | exact ⟨by omega, by omega⟩), ?_⟩
    refine ⟨fun c => ?_, fun c => ?_⟩
    · exact hX177 _ _ (hI.mono (by omega)) (by first | assumption | exact ⟨by omega, by omega⟩)
    · refine ⟨fun c => ?_, fun c => ?_⟩
      · refine ⟨fun c => ?_, fun c => ?_⟩
        · unfold qX12_sheet_J78
          refine ⟨fun c => ?_, fun c => ?_⟩
          · unfold qX12_sheet_J91
            unfold qX12_sheet_J110
            intro x12_797 ex12_797 rx12_797
            first | (have fx12_797 : x12_797 = 13 + v7 := by rw [ex12_797]; exact w32_id ⟨by omega, by omega⟩) | skip
            refine ⟨(by first | assumption | exact ⟨by omega, by omega⟩), ?_⟩
            refine sX12_isEnded (p1 := v7) hI (Or.inl rfl) (by omega) ?_
            intro x14_798 q799 q800
            refine ⟨fun c => ?_, fun c => ?_⟩
            · unfold qX12_sheet_J148
              refine ⟨by omega, ?_⟩
              refine ⟨by omega, ?_⟩
              refine ⟨(by first | assumption | exact ⟨by omega, by omega⟩), ?_⟩
              intro M19_802 h_M19_802
              have hM19_802 : IM (b) M19_802 := by rw [h_M19_802]; exact hI.up (by omega) ((bm_n (Or.inl rfl)).mpr (by first | assumption | exact ⟨by omega, by omega, by omega, by omega⟩))
              intro x20_803 ex20_803 rx20_803
              first | (have fx20_803 : x20_803 = 13 + v7 := by rw [ex20_803]; exact w32_id ⟨by omega, by omega⟩) | skip
              refine ⟨by omega, ?_⟩
              refine ⟨by omega, ?_⟩
              intro x23_804 ex23_804 rx23_804
              have rbx23_804 : -2147483648 ≤ x23_804 ∧ x23_804 ≤ 2147483647 := rx23_804
              have nbx23_804 : BN (b) x20_803 x23_804 := by rw [ex23_804]; exact (bm_n (Or.inl rfl)).mp (hM19_802.bx _ _)
              first | (have bx23_804 : -1 ≤ x23_804 ∧ x23_804 ≤ 29 := nbx23_804.1 ⟨by omega, by omega⟩) | (have bx23_804 : -1 ≤ x23_804 ∧ x23_804 ≤ 29 := nbx23_804.2.1 ⟨by omega, by omega⟩) | skip
              intro x24_805 ex24_805 rx24_805
              first | (have fx24_805 : x24_805 = v5 + x23_804 := by rw [ex24_805]; exact w32_id ⟨by omega, by omega⟩) | skip
              intro x25_806 ex25_806 rx25_806
              first | (have fx25_806 : x25_806 = v6 + p4 := by rw [ex25_806]; exact w32_id ⟨by omega, by omega⟩) | skip
              exact ih _ _ _ _ (hM19_802.mono (by omega)) (by omega) (by first | assumption | exact ⟨by omega, by omega⟩) (by first | assumption | exact ⟨by omega, by omega⟩) (by omega)
            · intro x26_808 ex26_808 rx26_808
              first | (have fx26_808 : x26_808 = 13 + v7 := by rw [ex26_808]; exact w32_id ⟨by omega, by omega⟩) | skip
              refine ⟨by omega, ?_⟩
              refine ⟨by omega, ?_⟩
              intro x29_809 ex29_809 rx29_809
              have rbx29_809 : -2147483648 ≤ x29_809 ∧ x29_809 ≤ 2147483647 := rx29_809
              have nbx29_809 : BN (b) x26_808 x29_809 := by rw [ex29_809]; exact (bm_n (Or.inl rfl)).mp (hI.bx _ _)
              first | (have bx29_809 : -1 ≤ x29_809 ∧ x29_809 ≤ 29 := nbx29_809.1 ⟨by omega, by omega⟩) | (have bx29_809 : -1 ≤ x29_809 ∧ x29_809 ≤ 29 := nbx29_809.2.1 ⟨by omega, by omega⟩) | skip
              unfold qX12_sheet_J148
              refine ⟨by omega, ?_⟩
              refine ⟨by omega, ?_⟩
              refine ⟨(by first | assumption | exact ⟨by omega, by omega⟩), ?_⟩
              intro M19_810 h_M19_810
              have hM19_810 : IM (b) M19_810 := by rw [h_M19_810]; exact hI.up (by omega) ((bm_n (Or.inl rfl)).mpr (by first | assumption | exact ⟨by omega, by omega, by omega, by omega⟩))
              intro x20_811 ex20_811 rx20_811
              first | (have fx20_811 : x20_811 = 13 + v7 := by rw [ex20_811]; exact w32_id ⟨by omega, by omega⟩) | skip
              refine ⟨by omega, ?_⟩
              refine ⟨by omega, ?_⟩
              intro x23_812 ex23_812 rx23_812
              have rbx23_812 : -2147483648 ≤ x23_812 ∧ x23_812 ≤ 2147483647 := rx23_812
              have nbx23_812 : BN (b) x20_811 x23_812 := by rw [ex23_812]; exact (bm_n (Or.inl rfl)).mp (hM19_810.bx _ _)
              first | (have bx23_812 : -1 ≤ x23_812 ∧ x23_812 ≤ 29 := nbx23_812.1 ⟨by omega, by omega⟩) | (have bx23_812 : -1 ≤ x23_812 ∧ x23_812 ≤ 29 := nbx23_812.2.1 ⟨by omega, by omega⟩) | skip
              intro x24_813 ex24_813 rx24_813
              first | (have fx24_813 : x24_813 = v5 + x23_812 := by rw [ex24_813]; exact w32_id ⟨by omega, by omega⟩) | skip
              intro x25_814 ex25_814 rx25_814
              first | (have fx25_814 : x25_814 = v6 + p4 := by rw [ex25_814]; exact w32_id ⟨by omega, by omega⟩) | skip
              exact ih _ _ _ _ (hM19_810.mono (by omega)) (by omega) (by first | assumption | exact ⟨by omega, by omega⟩) (by first | assumption | exact ⟨by omega, by omega⟩) (by omega)
          · refine ⟨(by first | assumption | exact ⟨by omega, by omega⟩), ?_⟩
            refine ⟨fun c => ?_, fun c => ?_⟩
            · refine sX12_gate  hI  ?_
              intro x32_817 p818 q819
              intro x33_820 ex33_820 rx33_820
              first | (have fx33_820 : x33_820 = x32_817 - 1 := by rw [ex33_820]; exact w32_id ⟨by omega, by omega⟩) | skip
              refine ⟨(by first | assumption | exact ⟨by omega, by omega⟩), ?_⟩
              intro x35_821 ex35_821 rx35_821
              intro x36_822 ex36_822 rx36_822
              unfold qX12_sheet_J110
              intro x12_823 ex12_823 rx12_823
              first | (have fx12_823 : x12_823 = 13 + v7 := by rw [ex12_823]; exact w32_id ⟨by omega, by omega⟩) | skip
              refine ⟨(by first | assumption | exact ⟨by omega, by omega⟩), ?_⟩
              refine sX12_isEnded (p1 := v7) hI (Or.inl rfl) (by omega) ?_
              intro x14_824 q825 q826
              refine ⟨fun c => ?_, fun c => ?_⟩
              · unfold qX12_sheet_J148
                refine ⟨by omega, ?_⟩
                refine ⟨by omega, ?_⟩
                refine ⟨(by first | assumption | exact ⟨by omega, by omega⟩), ?_⟩
                intro M19_828 h_M19_828
                have hM19_828 : IM (b) M19_828 := by rw [h_M19_828]; exact hI.up (by omega) ((bm_n (Or.inl rfl)).mpr (by first | assumption | exact ⟨by omega, by omega, by omega, by omega⟩))
                intro x20_829 ex20_829 rx20_829
                first | (have fx20_829 : x20_829 = 13 + v7 := by rw [ex20_829]; exact w32_id ⟨by omega, by omega⟩) | skip
                refine ⟨by omega, ?_⟩
                refine ⟨by omega, ?_⟩
                intro x23_830 ex23_830 rx23_830
                have rbx23_830 : -2147483648 ≤ x23_830 ∧ x23_830 ≤ 2147483647 := rx23_830
                have nbx23_830 : BN (b) x20_829 x23_830 := by rw [ex23_830]; exact (bm_n (Or.inl rfl)).mp (hM19_828.bx _ _)
                first | (have bx23_830 : -1 ≤ x23_830 ∧ x23_830 ≤ 29 := nbx23_830.1 ⟨by omega, by omega⟩) | (have bx23_830 : -1 ≤ x23_830 ∧ x23_830 ≤ 29 := nbx23_830.2.1 ⟨by omega, by omega⟩) | skip
                intro x24_831 ex24_831 rx24_831
                first | (have fx24_831 : x24_831 = v5 + x23_830 := by rw [ex24_831]; exact w32_id ⟨by omega, by omega⟩) | skip
                intro x25_832 ex25_832 rx25_832
                first | (have fx25_832 : x25_832 = v6 + p4 := by rw [ex25_832]; exact w32_id ⟨by omega, by omega⟩) | skip
                exact ih _ _ _ _ (hM19_828.mono (by omega)) (by omega) (by first | assumption | exact ⟨by omega, by omega⟩) (by first | assumption | exact ⟨by omega, by omega⟩) (by omega)
              · intro x26_834 ex26_834 rx26_834
                first | (have fx26_834 : x26_834 = 13 + v7 := by rw [ex26_834]; exact w32_id ⟨by omega, by omega⟩) | skip
                refine ⟨by omega, ?_⟩
                refine ⟨by omega, ?_⟩
                intro x29_835 ex29_835 rx29_835
                have rbx29_835 : -2147483648 ≤ x29_835 ∧ x29_835 ≤ 2147483647 := rx29_835
                have nbx29_835 : BN (b) x26_834 x29_835 := by rw [ex29_835]; exact (bm_n (Or.inl rfl)).mp (hI.bx _ _)
                first | (have bx29_835 : -1 ≤ x29_835 ∧ x29_835 ≤ 29 := nbx29_835.1 ⟨by omega, by omega⟩) | (have bx29_835 : -1 ≤ x29_835 ∧ x29_835 ≤ 29 := nbx29_835.2.1 ⟨by omega, by omega⟩) | skip
                unfold qX12_sheet_J148
                refine ⟨by omega, ?_⟩
                refine ⟨by omega, ?_⟩
                refine ⟨(by first | assumption | exact ⟨by omega, by omega⟩), ?_⟩
                intro M19_836 h_M19_836
                have hM19_836 : IM (b) M19_836 := by rw [h_M19_836]; exact hI.up (by omega) ((bm_n (Or.inl rfl)).mpr (by first | assumption | exact ⟨by omega, by omega, by omega, by omega⟩))
                intro x20_837 ex20_837 rx20_837
                first | (have fx20_837 : x20_837 = 13 + v7 := by rw [ex20_837]; exact w32_id ⟨by omega, by omega⟩) | skip
                refine ⟨by omega, ?_⟩
                refine ⟨by omega, ?_⟩
                intro x23_838 ex23_838 rx23_838
                have rbx23_838 : -2147483648 ≤ x23_838 ∧ x23_838 ≤ 2147483647 := rx23_838
                have nbx23_838 : BN (b) x20_837 x23_838 := by rw [ex23_838]; exact (bm_n (Or.inl rfl)).mp (hM19_836.bx _ _)
                first | (have bx23_838 : -1 ≤ x23_838 ∧ x23_838 ≤ 29 := nbx23_838.1 ⟨by omega, by omega⟩) | (have bx23_838 : -1 ≤ x23_838 ∧ x23_838 ≤ 29 := nbx23_838.2.1 ⟨by omega, by omega⟩) | skip
                intro x24_839 ex24_839 rx24_839
                first | (have fx24_839 : x24_839 = v5 + x23_838 := by rw [ex24_839]; exact w32_id ⟨by omega, by omega⟩) | skip
                intro x25_840 ex25_840 rx25_840
                first | (have fx25_840 : x25_840 = v6 + p4 := by rw [ex25_840]; exact w32_id ⟨by omega, by omega⟩) | skip
                exact ih _ _ _ _ (hM19_836.mono (by omega)) (by omega) (by first | assumption | exact ⟨by omega, by omega⟩) (by first | assumption | exact ⟨by omega, by omega⟩) (by omega)
            · unfold qX12_sheet_J91
              unfold qX12_sheet_J110
              intro x12_842 ex12_842 rx12_842
              first | (have fx12_842 : x12_842 = 13 + v7 := by rw [ex12_842]; exact w32_id ⟨by omega, by omega⟩) | skip
              refine ⟨(by first | assumption | exact ⟨by omega, by omega⟩), ?_⟩
              refine sX12_isEnded (p1 := v7) hI (Or.inl rfl) (by omega) ?_
              intro x14_843 q844 q845
              refine ⟨fun c => ?_, fun c => ?_⟩
              · unfold qX12_sheet_J148
                refine ⟨by omega, ?_⟩
                refine ⟨by omega, ?_⟩
                refine ⟨(by first | assumption | exact ⟨by omega, by omega⟩), ?_⟩
                intro M19_847 h_M19_847
                have hM19_847 : IM (b) M19_847 := by rw [h_M19_847]; exact hI.up (by omega) ((bm_n (Or.inl rfl)).mpr (by first | assumption | exact ⟨by omega, by omega, by omega, by omega⟩))
                intro x20_848 ex20_848 rx20_848
                first | (have fx20_848 : x20_848 = 13 + v7 := by rw [ex20_848]; exact w32_id ⟨by omega, by omega⟩) | skip
                refine ⟨by omega, ?_⟩
                refine ⟨by omega, ?_⟩
                intro x23_849 ex23_849 rx23_849
                have rbx23_849 : -2147483648 ≤ x23_849 ∧ x23_849 ≤ 2147483647 := rx23_849
                have nbx23_849 : BN (b) x20_848 x23_849 := by rw [ex23_849]; exact (bm_n (Or.inl rfl)).mp (hM19_847.bx _ _)
                first | (have bx23_849 : -1 ≤ x23_849 ∧ x23_849 ≤ 29 := nbx23_849.1 ⟨by omega, by omega⟩) | (have bx23_849 : -1 ≤ x23_849 ∧ x23_849 ≤ 29 := nbx23_849.2.1 ⟨by omega, by omega⟩) | skip
                intro x24_850 ex24_850 rx24_850
                first | (have fx24_850 : x24_850 = v5 + x23_849 := by rw [ex24_850]; exact w32_id ⟨by omega, by omega⟩) | skip
                intro x25_851 ex25_851 rx25_851
                first | (have fx25_851 : x25_851 = v6 + p4 := by rw [ex25_851]; exact w32_id ⟨by omega, by omega⟩) | skip
                exact ih _ _ _ _ (hM19_847.mono (by omega)) (by omega) (by first | assumption | exact ⟨by omega, by omega⟩) (by first | assumption | exact ⟨by omega, by omega⟩) (by omega)
              · intro x26_853 ex26_853 rx26_853
                first | (have fx26_853 : x26_853 = 13 + v7 := by rw [ex26_853]; exact w32_id ⟨by omega, by omega⟩) | skip
                refine ⟨by omega, ?_⟩
                refine ⟨by omega, ?_⟩
                intro x29_854 ex29_854 rx29_854
                have rbx29_854 : -2147483648 ≤ x29_854 ∧ x29_854 ≤ 2147483647 := rx29_854
                have nbx29_854 : BN (b) x26_853 x29_854 := by rw [ex29_854]; exact (bm_n (Or.inl rfl)).mp (hI.bx _ _)
                first | (have bx29_854 : -1 ≤ x29_854 ∧ x29_854 ≤ 29 := nbx29_854.1 ⟨by omega, by omega⟩) | (have bx29_854 : -1 ≤ x29_854 ∧ x29_854 ≤ 29 := nbx29_854.2.1 ⟨by omega, by omega⟩) | skip
                unfold qX12_sheet_J148
                refine ⟨by omega, ?_⟩
                refine ⟨by omega, ?_⟩
                refine ⟨(by first | assumption | exact ⟨by omega, by omega⟩), ?_⟩
                intro M19_855 h_M19_855
                have hM19_855 : IM (b) M19_855 := by rw [h_M19_855]; exact hI.up (by omega) ((bm_n (Or.inl rfl)).mpr (by first | assumption | exact ⟨by omega, by omega, by omega, by omega⟩))
                intro x20_856 ex20_856 rx20_856
                first | (have fx20_856 : x20_856 = 13 + v7 := by rw [ex20_856]; exact w32_id ⟨by omega, by omega⟩) | skip
                refine ⟨by omega, ?_⟩
                refine ⟨by omega, ?_⟩
                intro x23_857 ex23_857 rx23_857
                have rbx23_857 : -2147483648 ≤ x23_857 ∧ x23_857 ≤ 2147483647 := rx23_857
                have nbx23_857 : BN (b) x20_856 x23_857 := by rw [ex23_857]; exact (bm_n (Or.inl rfl)).mp (hM19_855.bx _ _)
                first | (have bx23_857 : -1 ≤ x23_857 ∧ x23_857 ≤ 29 := nbx23_857.1 ⟨by omega, by omega⟩) | (have bx23_857 : -1 ≤ x23_857 ∧ x23_857 ≤ 29 := nbx23_857.2.1 ⟨by omega, by omega⟩) | skip
                intro x24_858 ex24_858 rx24_858
                first | (have fx24_858 : x24_858 = v5 + x23_857 := by rw [ex24_858]; exact w32_id ⟨by omega, by omega⟩) | skip
                intro x25_859 ex25_859 rx25_859
                first | (have fx25_859 : x25_859 = v6 + p4 := by rw [ex25_859]; exact w32_id ⟨by omega, by omega⟩) | skip
                exact ih _ _ _ _ (hM19_855.mono (by omega)) (by omega) (by first | assumption | exact ⟨by omega, by omega⟩) (by first | assumption | exact ⟨by omega, by omega⟩) (by omega)
        · intro x37_861 ex37_861 rx37_861
          unfold qX12_sheet_J78
          refine ⟨fun c => ?_, fun c => ?_⟩
          · unfold qX12_sheet_J91
            unfold qX12_sheet_J110
            intro x12_863 ex12_863 rx12_863
            first | (have fx12_863 : x12_863 = 13 + v7 := by rw [ex12_863]; exact w32_id ⟨by omega, by omega⟩) | skip
            refine ⟨(by first | assumption | exact ⟨by omega, by omega⟩), ?_⟩
            refine sX12_isEnded (p1 := v7) hI (Or.inl rfl) (by omega) ?_
            intro x14_864 q865 q866
            refine ⟨fun c => ?_, fun c => ?_⟩
            · unfold qX12_sheet_J148
              refine ⟨by omega, ?_⟩
              refine ⟨by omega, ?_⟩
              refine ⟨(by first | assumption | exact ⟨by omega, by omega⟩), ?_⟩
              intro M19_868 h_M19_868
              have hM19_868 : IM (b) M19_868 := by rw [h_M19_868]; exact hI.up (by omega) ((bm_n (Or.inl rfl)).mpr (by first | assumption | exact ⟨by omega, by omega, by omega, by omega⟩))
              intro x20_869 ex20_869 rx20_869
              first | (have fx20_869 : x20_869 = 13 + v7 := by rw [ex20_869]; exact w32_id ⟨by omega, by omega⟩) | skip
              refine ⟨by omega, ?_⟩
              refine ⟨by omega, ?_⟩
              intro x23_870 ex23_870 rx23_870
              have rbx23_870 : -2147483648 ≤ x23_870 ∧ x23_870 ≤ 2147483647 := rx23_870
              have nbx23_870 : BN (b) x20_869 x23_870 := by rw [ex23_870]; exact (bm_n (Or.inl rfl)).mp (hM19_868.bx _ _)
              first | (have bx23_870 : -1 ≤ x23_870 ∧ x23_870 ≤ 29 := nbx23_870.1 ⟨by omega, by omega⟩) | (have bx23_870 : -1 ≤ x23_870 ∧ x23_870 ≤ 29 := nbx23_870.2.1 ⟨by omega, by omega⟩) | skip
              intro x24_871 ex24_871 rx24_871
              first | (have fx24_871 : x24_871 = v5 + x23_870 := by rw [ex24_871]; exact w32_id ⟨by omega, by omega⟩) | skip
              intro x25_872 ex25_872 rx25_872
              first | (have fx25_872 : x25_872 = v6 + p4 := by rw [ex25_872]; exact w32_id ⟨by omega, by omega⟩) | skip
              exact ih _ _ _ _ (hM19_868.mono (by omega)) (by omega) (by first | assumption | exact ⟨by omega, by omega⟩) (by first | assumption | exact ⟨by omega, by omega⟩) (by omega)
            · intro x26_874 ex26_874 rx26_874
              first | (have fx26_874 : x26_874 = 13 + v7 := by rw [ex26_874]; exact w32_id ⟨by omega, by omega⟩) | skip
              refine ⟨by omega, ?_⟩
              refine ⟨by omega, ?_⟩
              intro x29_875 ex29_875 rx29_875
              have rbx29_875 : -2147483648 ≤ x29_875 ∧ x29_875 ≤ 2147483647 := rx29_875
              have nbx29_875 : BN (b) x26_874 x29_875 := by rw [ex29_875]; exact (bm_n (Or.inl rfl)).mp (hI.bx _ _)
              first | (have bx29_875 : -1 ≤ x29_875 ∧ x29_875 ≤ 29 := nbx29_875.1 ⟨by omega, by omega⟩) | (have bx29_875 : -1 ≤ x29_875 ∧ x29_875 ≤ 29 := nbx29_875.2.1 ⟨by omega, by omega⟩) | skip
              unfold qX12_sheet_J148
              refine ⟨by omega, ?_⟩
              refine ⟨by omega, ?_⟩
              refine ⟨(by first | assumption | exact ⟨by omega, by omega⟩), ?_⟩
              intro M19_876 h_M19_876
              have hM19_876 : IM (b) M19_876 := by rw [h_M19_876]; exact hI.up (by omega) ((bm_n (Or.inl rfl)).mpr (by first | assumption | exact ⟨by omega, by omega, by omega, by omega⟩))
              intro x20_877 ex20_877 rx20_877
              first | (have fx20_877 : x20_877 = 13 + v7 := by rw [ex20_877]; exact w32_id ⟨by omega, by omega⟩) | skip
              refine ⟨by omega, ?_⟩
              refine ⟨by omega, ?_⟩
              intro x23_878 ex23_878 rx23_878
              have rbx23_878 : -2147483648 ≤ x23_878 ∧ x23_878 ≤ 2147483647 := rx23_878
              have nbx23_878 : BN (b) x20_877 x23_878 := by rw [ex23_878]; exact (bm_n (Or.inl rfl)).mp (hM19_876.bx _ _)
              first | (have bx23_878 : -1 ≤ x23_878 ∧ x23_878 ≤ 29 := nbx23_878.1 ⟨by omega, by omega⟩) | (have bx23_878 : -1 ≤ x23_878 ∧ x23_878 ≤ 29 := nbx23_878.2.1 ⟨by omega, by omega⟩) | skip
              intro x24_879 ex24_879 rx24_879
              first | (have fx24_879 : x24_879 = v5 + x23_878 := by rw [ex24_879]; exact w32_id ⟨by omega, by omega⟩) | skip
              intro x25_880 ex25_880 rx25_880
              first | (have fx25_880 : x25_880 = v6 + p4 := by rw [ex25_880]; exact w32_id ⟨by omega, by omega⟩) | skip
              exact ih _ _ _ _ (hM19_876.mono (by omega)) (by omega) (by first | assumption | exact ⟨by omega, by omega⟩) (by first | assumption | exact ⟨by omega, by omega⟩) (by omega)
          · refine ⟨(by first | assumption | exact ⟨by omega, by omega⟩), ?_⟩
            refine ⟨fun c => ?_, fun c => ?_⟩
            · refine sX12_gate  hI  ?_
              intro x32_883 p884 q885
              intro x33_886 ex33_886 rx33_886
              first | (have fx33_886 : x33_886 = x32_883 - 1 := by rw [ex33_886]; exact w32_id ⟨by omega, by omega⟩) | skip
              refine ⟨(by first | assumption | exact ⟨by omega, by omega⟩), ?_⟩
              intro x35_887 ex35_887 rx35_887
              intro x36_888 ex36_888 rx36_888
              unfold qX12_sheet_J110
              intro x12_889 ex12_889 rx12_889
              first | (have fx12_889 : x12_889 = 13 + v7 := by rw [ex12_889]; exact w32_id ⟨by omega, by omega⟩) | skip
              refine ⟨(by first | assumption | exact ⟨by omega, by omega⟩), ?_⟩
              refine sX12_isEnded (p1 := v7) hI (Or.inl rfl) (by omega) ?_
              intro x14_890 q891 q892
              refine ⟨fun c => ?_, fun c => ?_⟩
              · unfold qX12_sheet_J148
                refine ⟨by omega, ?_⟩
                refine ⟨by omega, ?_⟩
                refine ⟨(by first | assumption | exact ⟨by omega, by omega⟩), ?_⟩
                intro M19_894 h_M19_894
                have hM19_894 : IM (b) M19_894 := by rw [h_M19_894]; exact hI.up (by omega) ((bm_n (Or.inl rfl)).mpr (by first | assumption | exact ⟨by omega, by omega, by omega, by omega⟩))
                intro x20_895 ex20_895 rx20_895
                first | (have fx20_895 : x20_895 = 13 + v7 := by rw [ex20_895]; exact w32_id ⟨by omega, by omega⟩) | skip
                refine ⟨by omega, ?_⟩
                refine ⟨by omega, ?_⟩
                intro x23_896 ex23_896 rx23_896
                have rbx23_896 : -2147483648 ≤ x23_896 ∧ x23_896 ≤ 2147483647 := rx23_896
                have nbx23_896 : BN (b) x20_895 x23_896 := by rw [ex23_896]; exact (bm_n (Or.inl rfl)).mp (hM19_894.bx _ _)
                first | (have bx23_896 : -1 ≤ x23_896 ∧ x23_896 ≤ 29 := nbx23_896.1 ⟨by omega, by omega⟩) | (have bx23_896 : -1 ≤ x23_896 ∧ x23_896 ≤ 29 := nbx23_896.2.1 ⟨by omega, by omega⟩) | skip
                intro x24_897 ex24_897 rx24_897
                first | (have fx24_897 : x24_897 = v5 + x23_896 := by rw [ex24_897]; exact w32_id ⟨by omega, by omega⟩) | skip
                intro x25_898 ex25_898 rx25_898
                first | (have fx25_898 : x25_898 = v6 + p4 := by rw [ex25_898]; exact w32_id ⟨by omega, by omega⟩) | skip
                exact ih _ _ _ _ (hM19_894.mono (by omega)) (by omega) (by first | assumption | exact ⟨by omega, by omega⟩) (by first | assumption | exact ⟨by omega, by omega⟩) (by omega)
              · intro x26_900 ex26_900 rx26_900
                first | (have fx26_900 : x26_900 = 13 + v7 := by rw [ex26_900]; exact w32_id ⟨by omega, by omega⟩) | skip
                refine ⟨by omega, ?_⟩
                refine ⟨by omega, ?_⟩
                intro x29_901 ex29_901 rx29_901
                have rbx29_901 : -2147483648 ≤ x29_901 ∧ x29_901 ≤ 2147483647 := rx29_901
                have nbx29_901 : BN (b) x26_900 x29_901 := by rw [ex29_901]; exact (bm_n (Or.inl rfl)).mp (hI.bx _ _)
                first | (have bx29_901 : -1 ≤ x29_901 ∧ x29_901 ≤ 29 := nbx29_901.1 ⟨by omega, by omega⟩) | (have bx29_901 : -1 ≤ x29_901 ∧ x29_901 ≤ 29 := nbx29_901.2.1 ⟨by omega, by omega⟩) | skip
                unfold qX12_sheet_J148
                refine ⟨by omega, ?_⟩
                refine ⟨by omega, ?_⟩
                refine ⟨(by first | assumption | exact ⟨by omega, by omega⟩), ?_⟩
                intro M19_902 h_M19_902
                have hM19_902 : IM (b) M19_902 := by rw [h_M19_902]; exact hI.up (by omega) ((bm_n (Or.inl rfl)).mpr (by first | assumption | exact ⟨by omega, by omega, by omega, by omega⟩))
                intro x20_903 ex20_903 rx20_903
                first | (have fx20_903 : x20_903 = 13 + v7 := by rw [ex20_903]; exact w32_id ⟨by omega, by omega⟩) | skip
                refine ⟨by omega, ?_⟩
                refine ⟨by omega, ?_⟩
                intro x23_904 ex23_904 rx23_904
                have rbx23_904 : -2147483648 ≤ x23_904 ∧ x23_904 ≤ 2147483647 := rx23_904
                have nbx23_904 : BN (b) x20_903 x23_904 := by rw [ex23_904]; exact (bm_n (Or.inl rfl)).mp (hM19_902.bx _ _)
                first | (have bx23_904 : -1 ≤ x23_904 ∧ x23_904 ≤ 29 := nbx23_904.1 ⟨by omega, by omega⟩) | (have bx23_904 : -1 ≤ x23_904 ∧ x23_904 ≤ 29 := nbx23_904.2.1 ⟨by omega, by omega⟩) | skip
                intro x24_905 ex24_905 rx24_905
                first | (have fx24_905 : x24_905 = v5 + x23_904 := by rw [ex24_905]; exact w32_id ⟨by omega, by omega⟩) | skip
                intro x25_906 ex25_906 rx25_906
                first | (have fx25_906 : x25_906 = v6 + p4 := by rw [ex25_906]; exact w32_id ⟨by omega, by omega⟩) | skip
                exact ih _ _ _ _ (hM19_902.mono (by omega)) (by omega) (by first | assumption | exact ⟨by omega, by omega⟩) (by first | assumption | exact ⟨by omega, by omega⟩) (by omega)
            · unfold qX12_sheet_J91
              unfold qX12_sheet_J110
              intro x12_908 ex12_908 rx12_908
              first | (have fx12_908 : x12_908 = 13 + v7 := by rw [ex12_908]; exact w32_id ⟨by omega, by omega⟩) | skip
              refine ⟨(by first | assumption | exact ⟨by omega, by omega⟩), ?_⟩
              refine sX12_isEnded (p1 := v7) hI (Or.inl rfl) (by omega) ?_
              intro x14_909 q910 q911
              refine ⟨fun c => ?_, fun c => ?_⟩
              · unfold qX12_sheet_J148
                refine ⟨by omega, ?_⟩
                refine ⟨by omega, ?_⟩
                refine ⟨(by first | assumption | exact ⟨by omega, by omega⟩), ?_⟩
                intro M19_913 h_M19_913
                have hM19_913 : IM (b) M19_913 := by rw [h_M19_913]; exact hI.up (by omega) ((bm_n (Or.inl rfl)).mpr (by first | assumption | exact ⟨by omega, by omega, by omega, by omega⟩))
                intro x20_914 ex20_914 rx20_914
                first | (have fx20_914 : x20_914 = 13 + v7 := by rw [ex20_914]; exact w32_id ⟨by omega, by omega⟩) | skip
                refine ⟨by omega, ?_⟩
                refine ⟨by omega, ?_⟩
                intro x23_915 ex23_915 rx23_915
                have rbx23_915 : -2147483648 ≤ x23_915 ∧ x23_915 ≤ 2147483647 := rx23_915
                have nbx23_915 : BN (b) x20_914 x23_915 := by rw [ex23_915]; exact (bm_n (Or.inl rfl)).mp (hM19_913.bx _ _)
                first | (have bx23_915 : -1 ≤ x23_915 ∧ x23_915 ≤ 29 := nbx23_915.1 ⟨by omega, by omega⟩) | (have bx23_915 : -1 ≤ x23_915 ∧ x23_915 ≤ 29 := nbx23_915.2.1 ⟨by omega, by omega⟩) | skip
                intro x24_916 ex24_916 rx24_916
                first | (have fx24_916 : x24_916 = v5 + x23_915 := by rw [ex24_916]; exact w32_id ⟨by omega, by omega⟩) | skip
                intro x25_917 ex25_917 rx25_917
                first | (have fx25_917 : x25_917 = v6 + p4 := by rw [ex25_917]; exact w32_id ⟨by omega, by omega⟩) | skip
                exact ih _ _ _ _ (hM19_913.mono (by omega)) (by omega) (by first | assumption | exact ⟨by omega, by omega⟩) (by first | assumption | exact ⟨by omega, by omega⟩) (by omega)
              · intro x26_919 ex26_919 rx26_919
                first | (have fx26_919 : x26_919 = 13 + v7 := by rw [ex26_919]; exact w32_id ⟨by omega, by omega⟩) | skip
                refine ⟨by omega, ?_⟩
                refine ⟨by omega, ?_⟩
                intro x29_920 ex29_920 rx29_920
                have rbx29_920 : -2147483648 ≤ x29_920 ∧ x29_920 ≤ 2147483647 := rx29_920
                have nbx29_920 : BN (b) x26_919 x29_920 := by rw [ex29_920]; exact (bm_n (Or.inl rfl)).mp (hI.bx _ _)
                first | (have bx29_920 : -1 ≤ x29_920 ∧ x29_920 ≤ 29 := nbx29_920.1 ⟨by omega, by omega⟩) | (have bx29_920 : -1 ≤ x29_920 ∧ x29_920 ≤ 29 := nbx29_920.2.1 ⟨by omega, by omega⟩) | skip
                unfold qX12_sheet_J148
                refine ⟨by omega, ?_⟩
                refine ⟨by omega, ?_⟩
                refine ⟨(by first | assumption | exact ⟨by omega, by omega⟩), ?_⟩
                intro M19_921 h_M19_921
                have hM19_921 : IM (b) M19_921 := by rw [h_M19_921]; exact hI.up (by omega) ((bm_n (Or.inl rfl)).mpr (by first | assumption | exact ⟨by omega, by omega, by omega, by omega⟩))
                intro x20_922 ex20_922 rx20_922
                first | (have fx20_922 : x20_922 = 13 + v7 := by rw [ex20_922]; exact w32_id ⟨by omega, by omega⟩) | skip
                refine ⟨by omega, ?_⟩
                refine ⟨by omega, ?_⟩
                intro x23_923 ex23_923 rx23_923
                have rbx23_923 : -2147483648 ≤ x23_923 ∧ x23_923 ≤ 2147483647 := rx23_923
                have nbx23_923 : BN (b) x20_922 x23_923 := by rw [ex23_923]; exact (bm_n (Or.inl rfl)).mp (hM19_921.bx _ _)
                first | (have bx23_923 : -1 ≤ x23_923 ∧ x23_923 ≤ 29 := nbx23_923.1 ⟨by omega, by omega⟩) | (have bx23_923 : -1 ≤ x23_923 ∧ x23_923 ≤ 29 := nbx23_923.2.1 ⟨by omega, by omega⟩) | skip
                intro x24_924 ex24_924 rx24_924
                first | (have fx24_924 : x24_924 = v5 + x23_923 := by rw [ex24_924]; exact w32_id ⟨by omega, by omega⟩) | skip
                intro x25_925 ex25_925 rx25_925
                first | (have fx25_925 : x25_925 = v6 + p4 := by rw [ex25_925]; exact w32_id ⟨by omega, by omega⟩) | skip
                exact ih _ _ _ _ (hM19_921.mono (by omega)) (by omega) (by first | assumption | exact ⟨by omega, by omega⟩) (by first | assumption | exact ⟨by omega, by omega⟩) (by omega)
      · intro x38_927 ex38_927 rx38_927
        unfold qX12_sheet_J78
        refine ⟨fun c => ?_, fun c => ?_⟩
        · unfold qX12_sheet_J91
          unfold qX12_sheet_J110
          intro x12_929 ex12_929 rx12_929
          first | (have fx12_929 : x12_929 = 13 + v7 := by rw [ex12_929]; exact w32_id ⟨by omega, by omega⟩) | skip
          refine ⟨(by first | assumption | exact ⟨by omega, by omega⟩), ?_⟩
          refine sX12_isEnded (p1 := v7) hI (Or.inl rfl) (by omega) ?_
          intro x14_930 q931 q932
          refine ⟨fun c => ?_, fun c => ?_⟩
          · unfold qX12_sheet_J148
            refine ⟨by omega, ?_⟩
            refine ⟨by omega, ?_⟩
            refine ⟨(by first | assumption | exact ⟨by omega, by omega⟩), ?_⟩
            intro M19_934 h_M19_934
            have hM19_934 : IM (b) M19_934 := by rw [h_M19_934]; exact hI.up (by omega) ((bm_n (Or.inl rfl)).mpr (by first | assumption | exact ⟨by omega, by omega, by omega, by omega⟩))
            intro x20_935 ex20_935 rx20_935
            first | (have fx20_935 : x20_935 = 13 + v7 := by rw [ex20_935]; exact w32_id ⟨by omega, by omega⟩) | skip
            refine ⟨by omega, ?_⟩
            refine ⟨by omega, ?_⟩
            intro x23_936 ex23_936 rx23_936
            have rbx23_936 : -2147483648 ≤ x23_936 ∧ x23_936 ≤ 2147483647 := rx23_936
            have nbx23_936 : BN (b) x20_935 x23_936 := by rw [ex23_936]; exact (bm_n (Or.inl rfl)).mp (hM19_934.bx _ _)
            first | (have bx23_936 : -1 ≤ x23_936 ∧ x23_936 ≤ 29 := nbx23_936.1 ⟨by omega, by omega⟩) | (have bx23_936 : -1 ≤ x23_936 ∧ x23_936 ≤ 29 := nbx23_936.2.1 ⟨by omega, by omega⟩) | skip
            intro x24_937 ex24_937 rx24_937
            first | (have fx24_937 : x24_937 = v5 + x23_936 := by rw [ex24_937]; exact w32_id ⟨by omega, by omega⟩) | skip
            intro x25_938 ex25_938 rx25_938
            first | (have fx25_938 : x25_938 = v6 + p4 := by rw [ex25_938]; exact w32_id ⟨by omega, by omega⟩) | skip
            exact ih _ _ _ _ (hM19_934.mono (by omega)) (by omega) (by first | assumption | exact ⟨by omega, by omega⟩) (by first | assumption | exact ⟨by omega, by omega⟩) (by omega)
          · intro x26_940 ex26_940 rx26_940
            first | (have fx26_940 : x26_940 = 13 + v7 := by rw [ex26_940]; exact w32_id ⟨by omega, by omega⟩) | skip
            refine ⟨by omega, ?_⟩
            refine ⟨by omega, ?_⟩
            intro x29_941 ex29_941 rx29_941
            have rbx29_941 : -2147483648 ≤ x29_941 ∧ x29_941 ≤ 2147483647 := rx29_941
            have nbx29_941 : BN (b) x26_940 x29_941 := by rw [ex29_941]; exact (bm_n (Or.inl rfl)).mp (hI.bx _ _)
            first | (have bx29_941 : -1 ≤ x29_941 ∧ x29_941 ≤ 29 := nbx29_941.1 ⟨by omega, by omega⟩) | (have bx29_941 : -1 ≤ x29_941 ∧ x29_941 ≤ 29 := nbx29_941.2.1 ⟨by omega, by omega⟩) | skip
            unfold qX12_sheet_J148
            refine ⟨by omega, ?_⟩
            refine ⟨by omega, ?_⟩
            refine ⟨(by first | assumption | exact ⟨by omega, by omega⟩), ?_⟩
            intro M19_942 h_M19_942
            have hM19_942 : IM (b) M19_942 := by rw [h_M19_942]; exact hI.up (by omega) ((bm_n (Or.inl rfl)).mpr (by first | assumption | exact ⟨by omega, by omega, by omega, by omega⟩))
            intro x20_943 ex20_943 rx20_943
            first | (have fx20_943 : x20_943 = 13 + v7 := by rw [ex20_943]; exact w32_id ⟨by omega, by omega⟩) | skip
            refine ⟨by omega, ?_⟩
            refine ⟨by omega, ?_⟩
            intro x23_944 ex23_944 rx23_944
            have rbx23_944 : -2147483648 ≤ x23_944 ∧ x23_944 ≤ 2147483647 := rx23_944
            have nbx23_944 : BN (b) x20_943 x23_944 := by rw [ex23_944]; exact (bm_n (Or.inl rfl)).mp (hM19_942.bx _ _)
            first | (have bx23_944 : -1 ≤ x23_944 ∧ x23_944 ≤ 29 := nbx23_944.1 ⟨by omega, by omega⟩) | (have bx23_944 : -1 ≤ x23_944 ∧ x23_944 ≤ 29 := nbx23_944.2.1 ⟨by omega, by omega⟩) | skip
            intro x24_945 ex24_945 rx24_945
            first | (have fx24_945 : x24_945 = v5 + x23_944 := by rw [ex24_945]; exact w32_id ⟨by omega, by omega⟩) | skip
            intro x25_946 ex25_946 rx25_946
            first | (have fx25_946 : x25_946 = v6 + p4 := by rw [ex25_946]; exact w32_id ⟨by omega, by omega⟩) | skip
            exact ih _ _ _ _ (hM19_942.mono (by omega)) (by omega) (by first | assumption | exact ⟨by omega, by omega⟩) (by first | assumption | exact ⟨by omega, by omega⟩) (by omega)
        · refine ⟨(by first | assumption | exact ⟨by omega, by omega⟩), ?_⟩
          refine ⟨fun c => ?_, fun c => ?_⟩
          · refine sX12_gate  hI  ?_
            intro x32_949 p950 q951
            intro x33_952 ex33_952 rx33_952
            first | (have fx33_952 : x33_952 = x32_949 - 1 := by rw [ex33_952]; exact w32_id ⟨by omega, by omega⟩) | skip
            refine ⟨(by first | assumption | exact ⟨by omega, by omega⟩), ?_⟩
            intro x35_953 ex35_953 rx35_953
            intro x36_954 ex36_954 rx36_954
            unfold qX12_sheet_J110
            intro x12_955 ex12_955 rx12_955
            first | (have fx12_955 : x12_955 = 13 + v7 := by rw [ex12_955]; exact w32_id ⟨by omega, by omega⟩) | skip
            refine ⟨(by first | assumption | exact ⟨by omega, by omega⟩), ?_⟩
            refine sX12_isEnded (p1 := v7) hI (Or.inl rfl) (by omega) ?_
            intro x14_956 q957 q958
            refine ⟨fun c => ?_, fun c => ?_⟩
            · unfold qX12_sheet_J148
              refine ⟨by omega, ?_⟩
              refine ⟨by omega, ?_⟩
              refine ⟨(by first | assumption | exact ⟨by omega, by omega⟩), ?_⟩
              intro M19_960 h_M19_960
              have hM19_960 : IM (b) M19_960 := by rw [h_M19_960]; exact hI.up (by omega) ((bm_n (Or.inl rfl)).mpr (by first | assumption | exact ⟨by omega, by omega, by omega, by omega⟩))
              intro x20_961 ex20_961 rx20_961
              first | (have fx20_961 : x20_961 = 13 + v7 := by rw [ex20_961]; exact w32_id ⟨by omega, by omega⟩) | skip
              refine ⟨by omega, ?_⟩
              refine ⟨by omega, ?_⟩
              intro x23_962 ex23_962 rx23_962
              have rbx23_962 : -2147483648 ≤ x23_962 ∧ x23_962 ≤ 2147483647 := rx23_962
              have nbx23_962 : BN (b) x20_961 x23_962 := by rw [ex23_962]; exact (bm_n (Or.inl rfl)).mp (hM19_960.bx _ _)
              first | (have bx23_962 : -1 ≤ x23_962 ∧ x23_962 ≤ 29 := nbx23_962.1 ⟨by omega, by omega⟩) | (have bx23_962 : -1 ≤ x23_962 ∧ x23_962 ≤ 29 := nbx23_962.2.1 ⟨by omega, by omega⟩) | skip
              intro x24_963 ex24_963 rx24_963
              first | (have fx24_963 : x24_963 = v5 + x23_962 := by rw [ex24_963]; exact w32_id ⟨by omega, by omega⟩) | skip
              intro x25_964 ex25_964 rx25_964
              first | (have fx25_964 : x25_964 = v6 + p4 := by rw [ex25_964]; exact w32_id ⟨by omega, by omega⟩) | skip
              exact ih _ _ _ _ (hM19_960.mono (by omega)) (by omega) (by first | assumption | exact ⟨by omega, by omega⟩) (by first | assumption | exact ⟨by omega, by omega⟩) (by omega)
            · intro x26_966 ex26_966 rx26_966
              first | (have fx26_966 : x26_966 = 13 + v7 := by rw [ex26_966]; exact w32_id ⟨by omega, by omega⟩) | skip
              refine ⟨by omega, ?_⟩
              refine ⟨by omega, ?_⟩
              intro x29_967 ex29_967 rx29_967
              have rbx29_967 : -2147483648 ≤ x29_967 ∧ x29_967 ≤ 2147483647 := rx29_967
              have nbx29_967 : BN (b) x26_966 x29_967 := by rw [ex29_967]; exact (bm_n (Or.inl rfl)).mp (hI.bx _ _)
              first | (have bx29_967 : -1 ≤ x29_967 ∧ x29_967 ≤ 29 := nbx29_967.1 ⟨by omega, by omega⟩) | (have bx29_967 : -1 ≤ x29_967 ∧ x29_967 ≤ 29 := nbx29_967.2.1 ⟨by omega, by omega⟩) | skip
              unfold qX12_sheet_J148
              refine ⟨by omega, ?_⟩
              refine ⟨by omega, ?_⟩
              refine ⟨(by first | assumption | exact ⟨by omega, by omega⟩), ?_⟩
              intro M19_968 h_M19_968
              have hM19_968 : IM (b) M19_968 := by rw [h_M19_968]; exact hI.up (by omega) ((bm_n (Or.inl rfl)).mpr (by first | assumption | exact ⟨by omega, by omega, by omega, by omega⟩))
              intro x20_969 ex20_969 rx20_969
              first | (have fx20_969 : x20_969 = 13 + v7 := by rw [ex20_969]; exact w32_id ⟨by omega, by omega⟩) | skip
              refine ⟨by omega, ?_⟩
              refine ⟨by omega, ?_⟩
              intro x23_970 ex23_970 rx23_970
              have rbx23_970 : -2147483648 ≤ x23_970 ∧ x23_970 ≤ 2147483647 := rx23_970
              have nbx23_970 : BN (b) x20_969 x23_970 := by rw [ex23_970]; exact (bm_n (Or.inl rfl)).mp (hM19_968.bx _ _)
              first | (have bx23_970 : -1 ≤ x23_970 ∧ x23_970 ≤ 29 := nbx23_970.1 ⟨by omega, by omega⟩) | (have bx23_970 : -1 ≤ x23_970 ∧ x23_970 ≤ 29 := nbx23_970.2.1 ⟨by omega, by omega⟩) | skip
              intro x24_971 ex24_971 rx24_971
              first | (have fx24_971 : x24_971 = v5 + x23_970 := by rw [ex24_971]; exact w32_id ⟨by omega, by omega⟩) | skip
              intro x25_972 ex25_972 rx25_972
              first | (have fx25_972 : x25_972 = v6 + p4 := by rw [ex25_972]; exact w32_id ⟨by omega, by omega⟩) | skip
              exact ih _ _ _ _ (hM19_968.mono (by omega)) (by omega) (by first | assumption | exact ⟨by omega, by omega⟩) (by first | assumption | exact ⟨by omega, by omega⟩) (by omega)
          · unfold qX12_sheet_J91
            unfold qX12_sheet_J110
            intro x12_974 ex12_974 rx12_974
            first | (have fx12_974 : x12_974 = 13 + v7 := by rw [ex12_974]; exact w32_id ⟨by omega, by omega⟩) | skip
            refine ⟨(by first | assumption | exact ⟨by omega, by omega⟩), ?_⟩
            refine sX12_isEnded (p1 := v7) hI (Or.inl rfl) (by omega) ?_
            intro x14_975 q976 q977
            refine ⟨fun c => ?_, fun c => ?_⟩
            · unfold qX12_sheet_J148
              refine ⟨by omega, ?_⟩
              refine ⟨by omega, ?_⟩
              refine ⟨(by first | assumption | exact ⟨by omega, by omega⟩), ?_⟩
              intro M19_979 h_M19_979
              have hM19_979 : IM (b) M19_979 := by rw [h_M19_979]; exact hI.up (by omega) ((bm_n (Or.inl rfl)).mpr (by first | assumption | exact ⟨by omega, by omega, by omega, by omega⟩))
              intro x20_980 ex20_980 rx20_980
              first | (have fx20_980 : x20_980 = 13 + v7 := by rw [ex20_980]; exact w32_id ⟨by omega, by omega⟩) | skip
              refine ⟨by omega, ?_⟩
              refine ⟨by omega, ?_⟩
              intro x23_981 ex23_981 rx23_981
              have rbx23_981 : -2147483648 ≤ x23_981 ∧ x23_981 ≤ 2147483647 := rx23_981
              have nbx23_981 : BN (b) x20_980 x23_981 := by rw [ex23_981]; exact (bm_n (Or.inl rfl)).mp (hM19_979.bx _ _)
              first | (have bx23_981 : -1 ≤ x23_981 ∧ x23_981 ≤ 29 := nbx23_981.1 ⟨by omega, by omega⟩) | (have bx23_981 : -1 ≤ x23_981 ∧ x23_981 ≤ 29 := nbx23_981.2.1 ⟨by omega, by omega⟩) | skip
              intro x24_982 ex24_982 rx24_982
              first | (have fx24_982 : x24_982 = v5 + x23_981 := by rw [ex24_982]; exact w32_id ⟨by omega, by omega⟩) | skip
              intro x25_983 ex25_983 rx25_983
              first | (have fx25_983 : x25_983 = v6 + p4 := by rw [ex25_983]; exact w32_id ⟨by omega, by omega⟩) | skip
              exact ih _ _ _ _ (hM19_979.mono (by omega)) (by omega) (by first | assumption | exact ⟨by omega, by omega⟩) (by first | assumption | exact ⟨by omega, by omega⟩) (by omega)
            · intro x26_985 ex26_985 rx26_985
              first | (have fx26_985 : x26_985 = 13 + v7 := by rw [ex26_985]; exact w32_id ⟨by omega, by omega⟩) | skip
              refine ⟨by omega, ?_⟩
              refine ⟨by omega, ?_⟩
              intro x29_986 ex29_986 rx29_986
              have rbx29_986 : -2147483648 ≤ x29_986 ∧ x29_986 ≤ 2147483647 := rx29_986
              have nbx29_986 : BN (b) x26_985 x29_986 := by rw [ex29_986]; exact (bm_n (Or.inl rfl)).mp (hI.bx _ _)
              first | (have bx29_986 : -1 ≤ x29_986 ∧ x29_986 ≤ 29 := nbx29_986.1 ⟨by omega, by omega⟩) | (have bx29_986 : -1 ≤ x29_986 ∧ x29_986 ≤ 29 := nbx29_986.2.1 ⟨by omega, by omega⟩) | skip
              unfold qX12_sheet_J148
              refine ⟨by omega, ?_⟩
              refine ⟨by omega, ?_⟩
              refine ⟨(by first | assumption | exact ⟨by omega, by omega⟩), ?_⟩
              intro M19_987 h_M19_987
              have hM19_987 : IM (b) M19_987 := by rw [h_M19_987]; exact hI.up (by omega) ((bm_n (Or.inl rfl)).mpr (by first | assumption | exact ⟨by omega, by omega, by omega, by omega⟩))
              intro x20_988 ex20_988 rx20_988
              first | (have fx20_988 : x20_988 = 13 + v7 := by rw [ex20_988]; exact w32_id ⟨by omega, by omega⟩) | skip
              refine ⟨by omega, ?_⟩
              refine ⟨by omega, ?_⟩
              intro x23_989 ex23_989 rx23_989
              have rbx23_989 : -2147483648 ≤ x23_989 ∧ x23_989 ≤ 2147483647 := rx23_989
              have nbx23_989 : BN (b) x20_988 x23_989 := by rw [ex23_989]; exact (bm_n (Or.inl rfl)).mp (hM19_987.bx _ _)
              first | (have bx23_989 : -1 ≤ x23_989 ∧ x23_989 ≤ 29 := nbx23_989.1 ⟨by omega, by omega⟩) | (have bx23_989 : -1 ≤ x23_989 ∧ x23_989 ≤ 29 := nbx23_989.2.1 ⟨by omega, by omega⟩) | skip
              intro x24_990 ex24_990 rx24_990
              first | (have fx24_990 : x24_990 = v5 + x23_989 := by rw [ex24_990]; exact w32_id ⟨by omega, by omega⟩) | skip
              intro x25_991 ex25_991 rx25_991
              first | (have fx25_991 : x25_991 = v6 + p4 := by rw [ex25_991]; exact w32_id ⟨by omega, by omega⟩) | skip
              exact ih _ _ _ _ (hM19_987.mono (by omega)) (by omega) (by first | assumption | exact ⟨by omega, by omega⟩) (by first | assumption | exact ⟨by omega, by omega⟩) (by omega)
theorem sX12_sheet {p1 : Int} {p2 : Int} {p3 : Int} {p4 : Int} {b : Int} {M : Mem} {Q : Int → Mem → Prop} (hI : IM b M) (hp : -2147483648 ≤ p3 ∧ p3 ≤ 2147483647) (hQ : ∀ z : Int, ∀ M' : Mem, IM b M' → Q z M') : qX12_sheet p1 p2 p3 p4 M Q := by
  unfold qX12_sheet
  have hbn := hI.nn
  intro M1_992 h_M1_992
  have hM1_992 : IM (b) M1_992 := by rw [h_M1_992]; exact hI.up (by omega) (by simp [BM])
  refine sX12_in (p0 := p1) (p2 := 0) (p4 := 3) hM1_992  ?_
  intro x2_993 p994 q995 q996
  refine ⟨fun c => ?_, fun c => ?_⟩
  · exact hQ _ _ (hM1_992.mono (by omega))
  · refine ⟨fun c => ?_, fun c => ?_⟩
    · refine ⟨fun c => ?_, fun c => ?_⟩
      · unfold qX12_sheet_J37
        refine ⟨9, ?_⟩
        refine sX12_sheet_L46 (b := b) (p1 := p1) (p2 := p2) (p3 := p3) (p4 := p4) hp ?_ ?_ _ _ _ _ _ (hM1_992.mono (by omega)) (by omega) (by first | assumption | exact ⟨by omega, by omega⟩) (by first | assumption | exact ⟨by omega, by omega⟩) (by omega)
        · exact hQ
        · intro v5_1001 M_1002 hM_1002 r1003
          refine ⟨fun c => ?_, fun c => ?_⟩
          · refine ⟨(by first | assumption | exact ⟨by omega, by omega⟩), ?_⟩
            exact hQ _ _ (hM_1002.mono (by omega))
          · exact hQ _ _ (hM_1002.mono (by omega))
      · refine ⟨fun c => ?_, fun c => ?_⟩
        · unfold qX12_sheet_J37
          refine ⟨9, ?_⟩
          refine sX12_sheet_L46 (b := b) (p1 := p1) (p2 := p2) (p3 := p3) (p4 := p4) hp ?_ ?_ _ _ _ _ _ (hM1_992.mono (by omega)) (by omega) (by first | assumption | exact ⟨by omega, by omega⟩) (by first | assumption | exact ⟨by omega, by omega⟩) (by omega)
          · exact hQ
          · intro v5_1008 M_1009 hM_1009 r1010
            refine ⟨fun c => ?_, fun c => ?_⟩
            · refine ⟨(by first | assumption | exact ⟨by omega, by omega⟩), ?_⟩
              exact hQ _ _ (hM_1009.mono (by omega))
            · exact hQ _ _ (hM_1009.mono (by omega))
        · exact hQ _ _ (hM1_992.mono (by omega))
    · exact hQ _ _ (hM1_992.mono (by omega))
theorem sX12_undo_L26   {Q : Int → Mem → Prop} {b : Int} (hQ : ∀ z : Int, ∀ M' : Mem, IM b M' → Q z M') : ∀ (n : Nat) (v1 : Int) (M : Mem), IM (b) M → (0 ≤ v1 ∧ v1 ≤ 38) → 38 - v1 < (n : Int) → qX12_undo_L26 Q n v1 M := by
  intro n
  induction n with
  | zero => intro v1 M hI hv hm; exact absurd hm (by omega)
  | succ n ih =>
    intro v1 M hI hv hm
    rw [qX12_undo_L26]
    have hbn := hI.nn
    refine ⟨(by first | assumption | exact ⟨by omega, by omega⟩), ?_⟩
    refine ⟨fun c => ?_, fun c => ?_⟩
    · intro x9_1016 ex9_1016 rx9_1016
      have bx9_1016 : 0 ≤ x9_1016 ∧ x9_1016 ≤ 15 := by rw [ex9_1016]; exact bm_c1_28.mp (hI.bx _ _)
      exact hQ _ _ (hI.mono (by omega))
    · intro x10_1018 ex10_1018 rx10_1018
      have bx10_1018 : 0 ≤ x10_1018 ∧ x10_1018 ≤ 15 := by rw [ex10_1018]; exact bm_c1_28.mp (hI.bx _ _)
      refine ⟨by omega, ?_⟩
      refine ⟨by omega, ?_⟩
      intro x13_1019 ex13_1019 rx13_1019
      have nbx13_1019 : BN (b) v1 x13_1019 := by rw [ex13_1019]; have q := bm_c15.mp (hI.bx 15 (38 * x10_1018 + v1)); rwa [show (38 * x10_1018 + v1) % 38 = v1 from by omega] at q
      refine ⟨by omega, ?_⟩
      refine ⟨by omega, ?_⟩
      intro M16_1020 h_M16_1020
      have hM16_1020 : IM (b) M16_1020 := by rw [h_M16_1020]; exact hI.up (by omega) ((bm_n (Or.inl rfl)).mpr (by first | assumption | exact ⟨by omega, by omega, by omega, by omega⟩))
      exact ih _ _ (hM16_1020.mono (by omega)) (by omega) (by omega)
theorem sX12_undo  {b : Int} {M : Mem} {Q : Int → Mem → Prop} (hI : IM b M) (hQ : ∀ z : Int, ∀ M' : Mem, IM b M' → Q z M') : qX12_undo M Q := by
  unfold qX12_undo
  have hbn := hI.nn
  intro M1_1021 h_M1_1021
  have hM1_1021 : IM (b) M1_1021 := by rw [h_M1_1021]; exact hI.up (by omega) (by simp [BM])
  intro x2_1022 ex2_1022 rx2_1022
  have bx2_1022 : 0 ≤ x2_1022 ∧ x2_1022 ≤ 15 := by rw [ex2_1022]; exact bm_c1_28.mp (hM1_1021.bx _ _)
  have fx2_1022 : x2_1022 = M 1 28 := by rw [ex2_1022, h_M1_1021, up2_j (by decide)]
  refine ⟨fun c => ?_, fun c => ?_⟩
  · intro x4_1024 ex4_1024 rx4_1024
    have bx4_1024 : 0 ≤ x4_1024 ∧ x4_1024 ≤ 15 := by rw [ex4_1024]; exact bm_c1_28.mp (hM1_1021.bx _ _)
    have fx4_1024 : x4_1024 = M 1 28 := by rw [ex4_1024, h_M1_1021, up2_j (by decide)]
    refine ⟨(by first | assumption | exact ⟨by omega, by omega⟩), ?_⟩
    intro M6_1025 h_M6_1025
    have hM6_1025 : IM (b) M6_1025 := by rw [h_M6_1025]; exact hM1_1021.up (by omega) (bm_c1_28.mpr ⟨by omega, by omega⟩)
    refine ⟨39, ?_⟩
    refine sX12_undo_L26 (b := b)  ?_ _ _ _ (hM6_1025.mono (by omega)) (by omega) (by omega)
    · exact hQ
  · exact hQ _ _ (hM1_1021.mono (by omega))
theorem sX12_adds {p1 : Int} {b : Int} {M : Mem} {Q : Int → Mem → Prop} (hI : IM b M) (hQ : ∀ z : Int, Q z M) : qX12_adds p1 M Q := sorry
theorem sX12_enters {p1 : Int} {b : Int} {M : Mem} {Q : Mem → Prop} (hI : IM b M) (hp : M 1 1 ≤ 23) (hQ : ∀ M' : Mem, IM b M' → (M' 1 1 = M 1 1 + 1) → Q M') : qX12_enters p1 M Q := by
  unfold qX12_enters
  have hbn := hI.nn
  have u1027 : 0 ≤ M 1 1 ∧ M 1 1 ≤ 24 := bm_c1_1.mp (hI.bx _ _)
  intro x1_1028 ex1_1028 rx1_1028
  have bx1_1028 : 0 ≤ x1_1028 ∧ x1_1028 ≤ 24 := by rw [ex1_1028]; exact bm_c1_1.mp (hI.bx _ _)
  refine ⟨by omega, ?_⟩
  refine ⟨by omega, ?_⟩
  intro M4_1029 h_M4_1029
  have hM4_1029 : IM (b) M4_1029 := by rw [h_M4_1029]; exact hI.up (by omega) (by simp [BM])
  intro x5_1030 ex5_1030 rx5_1030
  have bx5_1030 : 0 ≤ x5_1030 ∧ x5_1030 ≤ 24 := by rw [ex5_1030]; exact bm_c1_1.mp (hM4_1029.bx _ _)
  have fx5_1030 : x5_1030 = M 1 1 := by rw [ex5_1030, h_M4_1029, up2_n (by decide)]
  refine ⟨(by first | assumption | exact ⟨by omega, by omega⟩), ?_⟩
  intro M7_1031 h_M7_1031
  have hM7_1031 : IM (b) M7_1031 := by rw [h_M7_1031]; exact hM4_1029.up (by omega) (bm_c1_1.mpr ⟨by omega, by omega⟩)
  have u1032 : 0 ≤ M7_1031 1 1 ∧ M7_1031 1 1 ≤ 24 := bm_c1_1.mp (hM7_1031.bx _ _)
  have t1033 : M7_1031 1 1 = x5_1030 + 1 := by rw [h_M7_1031, up2_s]
  exact hQ _ (hM7_1031.mono (by omega)) (by omega)
theorem sX12_goal_L27 {k1 : Nat} {p2 : Int} {p3 : Int}  {Q : Int → Mem → Prop} {b : Int} {M0 : Mem} (hk1 : isN k1) (hQ : ∀ z : Int, (0 ≤ z ∧ z ≤ 29) → Q z M0) : ∀ (n : Nat) (v4 v5 v6 v7 v8 : Int), IM (b) M0 → (0 ≤ v4 ∧ v4 ≤ 29 ∧ 0 ≤ v5 ∧ v5 ≤ 29 ∧ 1 ≤ v8 ∧ v8 ≤ 30 ∧ 0 ≤ p3 ∧ p3 ≤ 3) → iR v6 → iR v7 → 30 - v8 < (n : Int) → qX12_goal_L27 k1 p2 p3 Q n v4 v5 v6 v7 v8 M0 := by
  intro n
  induction n with
  | zero => intro v4 v5 v6 v7 v8 hI hv hrv6 hrv7 hm; exact absurd hm (by omega)
  | succ n ih =>
    intro v4 v5 v6 v7 v8 hI hv hrv6 hrv7 hm
    rw [qX12_goal_L27]
    have hbn := hI.nn
    have ek1 : k1 = 5 ∨ k1 = 6 := hk1
    refine sX12_gate  hI  ?_
    intro x7_1034 p1035 q1036
    refine ⟨(by first | assumption | exact ⟨by omega, by omega⟩), ?_⟩
    intro x9_1037 ex9_1037 rx9_1037
    refine ⟨(by first | assumption | exact ⟨by omega, by omega⟩), ?_⟩
    refine ⟨fun c => ?_, fun c => ?_⟩
    · refine ⟨(by first | assumption | exact ⟨by omega, by omega⟩), ?_⟩
      exact hQ _ (by omega)
    · refine ⟨(by first | assumption | exact ⟨by omega, by omega⟩), ?_⟩
      refine ⟨fun c => ?_, fun c => ?_⟩
      · unfold qX12_goal_J58
        unfold qX12_goal_J63
        refine sX12_gate  hI  ?_
        intro x15_1041 p1042 q1043
        refine ⟨(by first | assumption | exact ⟨by omega, by omega⟩), ?_⟩
        refine ⟨fun c => ?_, fun c => ?_⟩
        · unfold qX12_goal_J84
          unfold qX12_goal_J89
          refine ⟨(by first | assumption | exact ⟨by omega, by omega⟩), ?_⟩
          refine ⟨fun c => ?_, fun c => ?_⟩
          · unfold qX12_goal_J111
            unfold qX12_goal_J113
            refine ⟨(by first | assumption | exact ⟨by omega, by omega⟩), ?_⟩
            refine ⟨fun c => ?_, fun c => ?_⟩
            · exact ih _ _ _ _ _ (hI.mono (by omega)) (by omega) (by first | assumption | exact ⟨by omega, by omega⟩) (by first | assumption | exact ⟨by omega, by omega⟩) (by omega)
            · refine ⟨(by first | assumption | exact ⟨by omega, by omega⟩), ?_⟩
              refine ⟨fun c => ?_, fun c => ?_⟩
              · exact ih _ _ _ _ _ (hI.mono (by omega)) (by omega) (by first | assumption | exact ⟨by omega, by omega⟩) (by first | assumption | exact ⟨by omega, by omega⟩) (by omega)
              · exact ih _ _ _ _ _ (hI.mono (by omega)) (by omega) (by first | assumption | exact ⟨by omega, by omega⟩) (by first | assumption | exact ⟨by omega, by omega⟩) (by omega)
          · refine ⟨(by first | assumption | exact ⟨by omega, by omega⟩), ?_⟩
            refine ⟨fun c => ?_, fun c => ?_⟩
            · unfold qX12_goal_J106
              unfold qX12_goal_J113
              refine ⟨(by first | assumption | exact ⟨by omega, by omega⟩), ?_⟩
              refine ⟨fun c => ?_, fun c => ?_⟩
              · exact ih _ _ _ _ _ (hI.mono (by omega)) (by omega) (by first | assumption | exact ⟨by omega, by omega⟩) (by first | assumption | exact ⟨by omega, by omega⟩) (by omega)
              · refine ⟨(by first | assumption | exact ⟨by omega, by omega⟩), ?_⟩
                refine ⟨fun c => ?_, fun c => ?_⟩
                · exact ih _ _ _ _ _ (hI.mono (by omega)) (by omega) (by first | assumption | exact ⟨by omega, by omega⟩) (by first | assumption | exact ⟨by omega, by omega⟩) (by omega)
                · exact ih _ _ _ _ _ (hI.mono (by omega)) (by omega) (by first | assumption | exact ⟨by omega, by omega⟩) (by first | assumption | exact ⟨by omega, by omega⟩) (by omega)
            · refine ⟨(by first | assumption | exact ⟨by omega, by omega⟩), ?_⟩
              refine ⟨fun c => ?_, fun c => ?_⟩
              · unfold qX12_goal_J111
                unfold qX12_goal_J113
                refine ⟨(by first | assumption | exact ⟨by omega, by omega⟩), ?_⟩
                refine ⟨fun c => ?_, fun c => ?_⟩
                · exact ih _ _ _ _ _ (hI.mono (by omega)) (by omega) (by first | assumption | exact ⟨by omega, by omega⟩) (by first | assumption | exact ⟨by omega, by omega⟩) (by omega)
                · refine ⟨(by first | assumption | exact ⟨by omega, by omega⟩), ?_⟩
                  refine ⟨fun c => ?_, fun c => ?_⟩
                  · exact ih _ _ _ _ _ (hI.mono (by omega)) (by omega) (by first | assumption | exact ⟨by omega, by omega⟩) (by first | assumption | exact ⟨by omega, by omega⟩) (by omega)
                  · exact ih _ _ _ _ _ (hI.mono (by omega)) (by omega) (by first | assumption | exact ⟨by omega, by omega⟩) (by first | assumption | exact ⟨by omega, by omega⟩) (by omega)
              · unfold qX12_goal_J106
                unfold qX12_goal_J113
                refine ⟨(by first | assumption | exact ⟨by omega, by omega⟩), ?_⟩
                refine ⟨fun c => ?_, fun c => ?_⟩
                · exact ih _ _ _ _ _ (hI.mono (by omega)) (by omega) (by first | assumption | exact ⟨by omega, by omega⟩) (by first | assumption | exact ⟨by omega, by omega⟩) (by omega)
                · refine ⟨(by first | assumption | exact ⟨by omega, by omega⟩), ?_⟩
                  refine ⟨fun c => ?_, fun c => ?_⟩
                  · exact ih _ _ _ _ _ (hI.mono (by omega)) (by omega) (by first | assumption | exact ⟨by omega, by omega⟩) (by first | assumption | exact ⟨by omega, by omega⟩) (by omega)
                  · exact ih _ _ _ _ _ (hI.mono (by omega)) (by omega) (by first | assumption | exact ⟨by omega, by omega⟩) (by first | assumption | exact ⟨by omega, by omega⟩) (by omega)
        · refine sX12_onCell (p2 := v8) hI hk1 ?_
          intro x28_1068 p1069 q1070
          refine ⟨fun c => ?_, fun c => ?_⟩
          · unfold qX12_goal_J89
            refine ⟨(by first | assumption | exact ⟨by omega, by omega⟩), ?_⟩
            refine ⟨fun c => ?_, fun c => ?_⟩
            · unfold qX12_goal_J111
              unfold qX12_goal_J113
              refine ⟨(by first | assumption | exact ⟨by omega, by omega⟩), ?_⟩
              refine ⟨fun c => ?_, fun c => ?_⟩
              · exact ih _ _ _ _ _ (hI.mono (by omega)) (by omega) (by first | assumption | exact ⟨by omega, by omega⟩) (by first | assumption | exact ⟨by omega, by omega⟩) (by omega)
              · refine ⟨(by first | assumption | exact ⟨by omega, by omega⟩), ?_⟩
                refine ⟨fun c => ?_, fun c => ?_⟩
                · exact ih _ _ _ _ _ (hI.mono (by omega)) (by omega) (by first | assumption | exact ⟨by omega, by omega⟩) (by first | assumption | exact ⟨by omega, by omega⟩) (by omega)
                · exact ih _ _ _ _ _ (hI.mono (by omega)) (by omega) (by first | assumption | exact ⟨by omega, by omega⟩) (by first | assumption | exact ⟨by omega, by omega⟩) (by omega)
            · refine ⟨(by first | assumption | exact ⟨by omega, by omega⟩), ?_⟩
              refine ⟨fun c => ?_, fun c => ?_⟩
              · unfold qX12_goal_J106
                unfold qX12_goal_J113
                refine ⟨(by first | assumption | exact ⟨by omega, by omega⟩), ?_⟩
                refine ⟨fun c => ?_, fun c => ?_⟩
                · exact ih _ _ _ _ _ (hI.mono (by omega)) (by omega) (by first | assumption | exact ⟨by omega, by omega⟩) (by first | assumption | exact ⟨by omega, by omega⟩) (by omega)
                · refine ⟨(by first | assumption | exact ⟨by omega, by omega⟩), ?_⟩
                  refine ⟨fun c => ?_, fun c => ?_⟩
                  · exact ih _ _ _ _ _ (hI.mono (by omega)) (by omega) (by first | assumption | exact ⟨by omega, by omega⟩) (by first | assumption | exact ⟨by omega, by omega⟩) (by omega)
                  · exact ih _ _ _ _ _ (hI.mono (by omega)) (by omega) (by first | assumption | exact ⟨by omega, by omega⟩) (by first | assumption | exact ⟨by omega, by omega⟩) (by omega)
              · refine ⟨(by first | assumption | exact ⟨by omega, by omega⟩), ?_⟩
                refine ⟨fun c => ?_, fun c => ?_⟩
                · unfold qX12_goal_J111
                  unfold qX12_goal_J113
                  refine ⟨(by first | assumption | exact ⟨by omega, by omega⟩), ?_⟩
                  refine ⟨fun c => ?_, fun c => ?_⟩
                  · exact ih _ _ _ _ _ (hI.mono (by omega)) (by omega) (by first | assumption | exact ⟨by omega, by omega⟩) (by first | assumption | exact ⟨by omega, by omega⟩) (by omega)
                  · refine ⟨(by first | assumption | exact ⟨by omega, by omega⟩), ?_⟩
                    refine ⟨fun c => ?_, fun c => ?_⟩
                    · exact ih _ _ _ _ _ (hI.mono (by omega)) (by omega) (by first | assumption | exact ⟨by omega, by omega⟩) (by first | assumption | exact ⟨by omega, by omega⟩) (by omega)
                    · exact ih _ _ _ _ _ (hI.mono (by omega)) (by omega) (by first | assumption | exact ⟨by omega, by omega⟩) (by first | assumption | exact ⟨by omega, by omega⟩) (by omega)
                · unfold qX12_goal_J106
                  unfold qX12_goal_J113
                  refine ⟨(by first | assumption | exact ⟨by omega, by omega⟩), ?_⟩
                  refine ⟨fun c => ?_, fun c => ?_⟩
                  · exact ih _ _ _ _ _ (hI.mono (by omega)) (by omega) (by first | assumption | exact ⟨by omega, by omega⟩) (by first | assumption | exact ⟨by omega, by omega⟩) (by omega)
                  · refine ⟨(by first | assumption | exact ⟨by omega, by omega⟩), ?_⟩
                    refine ⟨fun c => ?_, fun c => ?_⟩
                    · exact ih _ _ _ _ _ (hI.mono (by omega)) (by omega) (by first | assumption | exact ⟨by omega, by omega⟩) (by first | assumption | exact ⟨by omega, by omega⟩) (by omega)
                    · exact ih _ _ _ _ _ (hI.mono (by omega)) (by omega) (by first | assumption | exact ⟨by omega, by omega⟩) (by first | assumption | exact ⟨by omega, by omega⟩) (by omega)
          · unfold qX12_goal_J84
            unfold qX12_goal_J89
            refine ⟨(by first | assumption | exact ⟨by omega, by omega⟩), ?_⟩
            refine ⟨fun c => ?_, fun c => ?_⟩
            · unfold qX12_goal_J111
              unfold qX12_goal_J113
              refine ⟨(by first | assumption | exact ⟨by omega, by omega⟩), ?_⟩
              refine ⟨fun c => ?_, fun c => ?_⟩
              · exact ih _ _ _ _ _ (hI.mono (by omega)) (by omega) (by first | assumption | exact ⟨by omega, by omega⟩) (by first | assumption | exact ⟨by omega, by omega⟩) (by omega)
              · refine ⟨(by first | assumption | exact ⟨by omega, by omega⟩), ?_⟩
                refine ⟨fun c => ?_, fun c => ?_⟩
                · exact ih _ _ _ _ _ (hI.mono (by omega)) (by omega) (by first | assumption | exact ⟨by omega, by omega⟩) (by first | assumption | exact ⟨by omega, by omega⟩) (by omega)
                · exact ih _ _ _ _ _ (hI.mono (by omega)) (by omega) (by first | assumption | exact ⟨by omega, by omega⟩) (by first | assumption | exact ⟨by omega, by omega⟩) (by omega)
            · refine ⟨(by first | assumption | exact ⟨by omega, by omega⟩), ?_⟩
              refine ⟨fun c => ?_, fun c => ?_⟩
              · unfold qX12_goal_J106
                unfold qX12_goal_J113
                refine ⟨(by first | assumption | exact ⟨by omega, by omega⟩), ?_⟩
                refine ⟨fun c => ?_, fun c => ?_⟩
                · exact ih _ _ _ _ _ (hI.mono (by omega)) (by omega) (by first | assumption | exact ⟨by omega, by omega⟩) (by first | assumption | exact ⟨by omega, by omega⟩) (by omega)
                · refine ⟨(by first | assumption | exact ⟨by omega, by omega⟩), ?_⟩
                  refine ⟨fun c => ?_, fun c => ?_⟩
                  · exact ih _ _ _ _ _ (hI.mono (by omega)) (by omega) (by first | assumption | exact ⟨by omega, by omega⟩) (by first | assumption | exact ⟨by omega, by omega⟩) (by omega)
                  · exact ih _ _ _ _ _ (hI.mono (by omega)) (by omega) (by first | assumption | exact ⟨by omega, by omega⟩) (by first | assumption | exact ⟨by omega, by omega⟩) (by omega)
              · refine ⟨(by first | assumption | exact ⟨by omega, by omega⟩), ?_⟩
                refine ⟨fun c => ?_, fun c => ?_⟩
                · unfold qX12_goal_J111
                  unfold qX12_goal_J113
                  refine ⟨(by first | assumption | exact ⟨by omega, by omega⟩), ?_⟩
                  refine ⟨fun c => ?_, fun c => ?_⟩
                  · exact ih _ _ _ _ _ (hI.mono (by omega)) (by omega) (by first | assumption | exact ⟨by omega, by omega⟩) (by first | assumption | exact ⟨by omega, by omega⟩) (by omega)
                  · refine ⟨(by first | assumption | exact ⟨by omega, by omega⟩), ?_⟩
                    refine ⟨fun c => ?_, fun c => ?_⟩
                    · exact ih _ _ _ _ _ (hI.mono (by omega)) (by omega) (by first | assumption | exact ⟨by omega, by omega⟩) (by first | assumption | exact ⟨by omega, by omega⟩) (by omega)
                    · exact ih _ _ _ _ _ (hI.mono (by omega)) (by omega) (by first | assumption | exact ⟨by omega, by omega⟩) (by first | assumption | exact ⟨by omega, by omega⟩) (by omega)
                · unfold qX12_goal_J106
                  unfold qX12_goal_J113
                  refine ⟨(by first | assumption | exact ⟨by omega, by omega⟩), ?_⟩
                  refine ⟨fun c => ?_, fun c => ?_⟩
                  · exact ih _ _ _ _ _ (hI.mono (by omega)) (by omega) (by first | assumption | exact ⟨by omega, by omega⟩) (by first | assumption | exact ⟨by omega, by omega⟩) (by omega)
                  · refine ⟨(by first | assumption | exact ⟨by omega, by omega⟩), ?_⟩
                    refine ⟨fun c => ?_, fun c => ?_⟩
                    · exact ih _ _ _ _ _ (hI.mono (by omega)) (by omega) (by first | assumption | exact ⟨by omega, by omega⟩) (by first | assumption | exact ⟨by omega, by omega⟩) (by omega)
                    · exact ih _ _ _ _ _ (hI.mono (by omega)) (by omega) (by first | assumption | exact ⟨by omega, by omega⟩) (by first | assumption | exact ⟨by omega, by omega⟩) (by omega)
      · refine ⟨by omega, ?_⟩
        refine ⟨by omega, ?_⟩
        intro x32_1118 ex32_1118 rx32_1118
        have bx32_1118 : -2147483648 ≤ x32_1118 ∧ x32_1118 ≤ 2147483647 := rx32_1118
        refine ⟨fun c => ?_, fun c => ?_⟩
        · unfold qX12_goal_J63
          refine sX12_gate  hI  ?_
          intro x15_1120 p1121 q1122
          refine ⟨(by first | assumption | exact ⟨by omega, by omega⟩), ?_⟩
          refine ⟨fun c => ?_, fun c => ?_⟩
          · unfold qX12_goal_J84
            unfold qX12_goal_J89
            refine ⟨(by first | assumption | exact ⟨by omega, by omega⟩), ?_⟩
            refine ⟨fun c => ?_, fun c => ?_⟩
            · unfold qX12_goal_J111
              unfold qX12_goal_J113
              refine ⟨(by first | assumption | exact ⟨by omega, by omega⟩), ?_⟩
              refine ⟨fun c => ?_, fun c => ?_⟩
              · exact ih _ _ _ _ _ (hI.mono (by omega)) (by omega) (by first | assumption | exact ⟨by omega, by omega⟩) (by first | assumption | exact ⟨by omega, by omega⟩) (by omega)
              · refine ⟨(by first | assumption | exact ⟨by omega, by omega⟩), ?_⟩
                refine ⟨fun c => ?_, fun c => ?_⟩
                · exact ih _ _ _ _ _ (hI.mono (by omega)) (by omega) (by first | assumption | exact ⟨by omega, by omega⟩) (by first | assumption | exact ⟨by omega, by omega⟩) (by omega)
                · exact ih _ _ _ _ _ (hI.mono (by omega)) (by omega) (by first | assumption | exact ⟨by omega, by omega⟩) (by first | assumption | exact ⟨by omega, by omega⟩) (by omega)
            · refine ⟨(by first | assumption | exact ⟨by omega, by omega⟩), ?_⟩
              refine ⟨fun c => ?_, fun c => ?_⟩
              · unfold qX12_goal_J106
                unfold qX12_goal_J113
                refine ⟨(by first | assumption | exact ⟨by omega, by omega⟩), ?_⟩
                refine ⟨fun c => ?_, fun c => ?_⟩
                · exact ih _ _ _ _ _ (hI.mono (by omega)) (by omega) (by first | assumption | exact ⟨by omega, by omega⟩) (by first | assumption | exact ⟨by omega, by omega⟩) (by omega)
                · refine ⟨(by first | assumption | exact ⟨by omega, by omega⟩), ?_⟩
                  refine ⟨fun c => ?_, fun c => ?_⟩
                  · exact ih _ _ _ _ _ (hI.mono (by omega)) (by omega) (by first | assumption | exact ⟨by omega, by omega⟩) (by first | assumption | exact ⟨by omega, by omega⟩) (by omega)
                  · exact ih _ _ _ _ _ (hI.mono (by omega)) (by omega) (by first | assumption | exact ⟨by omega, by omega⟩) (by first | assumption | exact ⟨by omega, by omega⟩) (by omega)
              · refine ⟨(by first | assumption | exact ⟨by omega, by omega⟩), ?_⟩
                refine ⟨fun c => ?_, fun c => ?_⟩
                · unfold qX12_goal_J111
                  unfold qX12_goal_J113
                  refine ⟨(by first | assumption | exact ⟨by omega, by omega⟩), ?_⟩
                  refine ⟨fun c => ?_, fun c => ?_⟩
                  · exact ih _ _ _ _ _ (hI.mono (by omega)) (by omega) (by first | assumption | exact ⟨by omega, by omega⟩) (by first | assumption | exact ⟨by omega, by omega⟩) (by omega)
                  · refine ⟨(by first | assumption | exact ⟨by omega, by omega⟩), ?_⟩
                    refine ⟨fun c => ?_, fun c => ?_⟩
                    · exact ih _ _ _ _ _ (hI.mono (by omega)) (by omega) (by first | assumption | exact ⟨by omega, by omega⟩) (by first | assumption | exact ⟨by omega, by omega⟩) (by omega)
                    · exact ih _ _ _ _ _ (hI.mono (by omega)) (by omega) (by first | assumption | exact ⟨by omega, by omega⟩) (by first | assumption | exact ⟨by omega, by omega⟩) (by omega)
                · unfold qX12_goal_J106
                  unfold qX12_goal_J113
                  refine ⟨(by first | assumption | exact ⟨by omega, by omega⟩), ?_⟩
                  refine ⟨fun c => ?_, fun c => ?_⟩
                  · exact ih _ _ _ _ _ (hI.mono (by omega)) (by omega) (by first | assumption | exact ⟨by omega, by omega⟩) (by first | assumption | exact ⟨by omega, by omega⟩) (by omega)
                  · refine ⟨(by first | assumption | exact ⟨by omega, by omega⟩), ?_⟩
                    refine ⟨fun c => ?_, fun c => ?_⟩
                    · exact ih _ _ _ _ _ (hI.mono (by omega)) (by omega) (by first | assumption | exact ⟨by omega, by omega⟩) (by first | assumption | exact ⟨by omega, by omega⟩) (by omega)
                    · exact ih _ _ _ _ _ (hI.mono (by omega)) (by omega) (by first | assumption | exact ⟨by omega, by omega⟩) (by first | assumption | exact ⟨by omega, by omega⟩) (by omega)
          · refine sX12_onCell (p2 := v8) hI hk1 ?_
            intro x28_1147 p1148 q1149
            refine ⟨fun c => ?_, fun c => ?_⟩
            · unfold qX12_goal_J89
              refine ⟨(by first | assumption | exact ⟨by omega, by omega⟩), ?_⟩
              refine ⟨fun c => ?_, fun c => ?_⟩
              · unfold qX12_goal_J111
                unfold qX12_goal_J113
                refine ⟨(by first | assumption | exact ⟨by omega, by omega⟩), ?_⟩
                refine ⟨fun c => ?_, fun c => ?_⟩
                · exact ih _ _ _ _ _ (hI.mono (by omega)) (by omega) (by first | assumption | exact ⟨by omega, by omega⟩) (by first | assumption | exact ⟨by omega, by omega⟩) (by omega)
                · refine ⟨(by first | assumption | exact ⟨by omega, by omega⟩), ?_⟩
                  refine ⟨fun c => ?_, fun c => ?_⟩
                  · exact ih _ _ _ _ _ (hI.mono (by omega)) (by omega) (by first | assumption | exact ⟨by omega, by omega⟩) (by first | assumption | exact ⟨by omega, by omega⟩) (by omega)
                  · exact ih _ _ _ _ _ (hI.mono (by omega)) (by omega) (by first | assumption | exact ⟨by omega, by omega⟩) (by first | assumption | exact ⟨by omega, by omega⟩) (by omega)
              · refine ⟨(by first | assumption | exact ⟨by omega, by omega⟩), ?_⟩
                refine ⟨fun c => ?_, fun c => ?_⟩
                · unfold qX12_goal_J106
                  unfold qX12_goal_J113
                  refine ⟨(by first | assumption | exact ⟨by omega, by omega⟩), ?_⟩
                  refine ⟨fun c => ?_, fun c => ?_⟩
                  · exact ih _ _ _ _ _ (hI.mono (by omega)) (by omega) (by first | assumption | exact ⟨by omega, by omega⟩) (by first | assumption | exact ⟨by omega, by omega⟩) (by omega)
                  · refine ⟨(by first | assumption | exact ⟨by omega, by omega⟩), ?_⟩
                    refine ⟨fun c => ?_, fun c => ?_⟩
                    · exact ih _ _ _ _ _ (hI.mono (by omega)) (by omega) (by first | assumption | exact ⟨by omega, by omega⟩) (by first | assumption | exact ⟨by omega, by omega⟩) (by omega)
                    · exact ih _ _ _ _ _ (hI.mono (by omega)) (by omega) (by first | assumption | exact ⟨by omega, by omega⟩) (by first | assumption | exact ⟨by omega, by omega⟩) (by omega)
                · refine ⟨(by first | assumption | exact ⟨by omega, by omega⟩), ?_⟩
                  refine ⟨fun c => ?_, fun c => ?_⟩
                  · unfold qX12_goal_J111
                    unfold qX12_goal_J113
                    refine ⟨(by first | assumption | exact ⟨by omega, by omega⟩), ?_⟩
                    refine ⟨fun c => ?_, fun c => ?_⟩
                    · exact ih _ _ _ _ _ (hI.mono (by omega)) (by omega) (by first | assumption | exact ⟨by omega, by omega⟩) (by first | assumption | exact ⟨by omega, by omega⟩) (by omega)
                    · refine ⟨(by first | assumption | exact ⟨by omega, by omega⟩), ?_⟩
                      refine ⟨fun c => ?_, fun c => ?_⟩
                      · exact ih _ _ _ _ _ (hI.mono (by omega)) (by omega) (by first | assumption | exact ⟨by omega, by omega⟩) (by first | assumption | exact ⟨by omega, by omega⟩) (by omega)
                      · exact ih _ _ _ _ _ (hI.mono (by omega)) (by omega) (by first | assumption | exact ⟨by omega, by omega⟩) (by first | assumption | exact ⟨by omega, by omega⟩) (by omega)
                  · unfold qX12_goal_J106
                    unfold qX12_goal_J113
                    refine ⟨(by first | assumption | exact ⟨by omega, by omega⟩), ?_⟩
                    refine ⟨fun c => ?_, fun c => ?_⟩
                    · exact ih _ _ _ _ _ (hI.mono (by omega)) (by omega) (by first | assumption | exact ⟨by omega, by omega⟩) (by first | assumption | exact ⟨by omega, by omega⟩) (by omega)
                    · refine ⟨(by first | assumption | exact ⟨by omega, by omega⟩), ?_⟩
                      refine ⟨fun c => ?_, fun c => ?_⟩
                      · exact ih _ _ _ _ _ (hI.mono (by omega)) (by omega) (by first | assumption | exact ⟨by omega, by omega⟩) (by first | assumption | exact ⟨by omega, by omega⟩) (by omega)
                      · exact ih _ _ _ _ _ (hI.mono (by omega)) (by omega) (by first | assumption | exact ⟨by omega, by omega⟩) (by first | assumption | exact ⟨by omega, by omega⟩) (by omega)
            · unfold qX12_goal_J84
              unfold qX12_goal_J89
              refine ⟨(by first | assumption | exact ⟨by omega, by omega⟩), ?_⟩
              refine ⟨fun c => ?_, fun c => ?_⟩
              · unfold qX12_goal_J111
                unfold qX12_goal_J113
                refine ⟨(by first | assumption | exact ⟨by omega, by omega⟩), ?_⟩
                refine ⟨fun c => ?_, fun c => ?_⟩
                · exact ih _ _ _ _ _ (hI.mono (by omega)) (by omega) (by first | assumption | exact ⟨by omega, by omega⟩) (by first | assumption | exact ⟨by omega, by omega⟩) (by omega)
                · refine ⟨(by first | assumption | exact ⟨by omega, by omega⟩), ?_⟩
                  refine ⟨fun c => ?_, fun c => ?_⟩
                  · exact ih _ _ _ _ _ (hI.mono (by omega)) (by omega) (by first | assumption | exact ⟨by omega, by omega⟩) (by first | assumption | exact ⟨by omega, by omega⟩) (by omega)
                  · exact ih _ _ _ _ _ (hI.mono (by omega)) (by omega) (by first | assumption | exact ⟨by omega, by omega⟩) (by first | assumption | exact ⟨by omega, by omega⟩) (by omega)
              · refine ⟨(by first | assumption | exact ⟨by omega, by omega⟩), ?_⟩
                refine ⟨fun c => ?_, fun c => ?_⟩
                · unfold qX12_goal_J106
                  unfold qX12_goal_J113
                  refine ⟨(by first | assumption | exact ⟨by omega, by omega⟩), ?_⟩
                  refine ⟨fun c => ?_, fun c => ?_⟩
                  · exact ih _ _ _ _ _ (hI.mono (by omega)) (by omega) (by first | assumption | exact ⟨by omega, by omega⟩) (by first | assumption | exact ⟨by omega, by omega⟩) (by omega)
                  · refine ⟨(by first | assumption | exact ⟨by omega, by omega⟩), ?_⟩
                    refine ⟨fun c => ?_, fun c => ?_⟩
                    · exact ih _ _ _ _ _ (hI.mono (by omega)) (by omega) (by first | assumption | exact ⟨by omega, by omega⟩) (by first | assumption | exact ⟨by omega, by omega⟩) (by omega)
                    · exact ih _ _ _ _ _ (hI.mono (by omega)) (by omega) (by first | assumption | exact ⟨by omega, by omega⟩) (by first | assumption | exact ⟨by omega, by omega⟩) (by omega)
                · refine ⟨(by first | assumption | exact ⟨by omega, by omega⟩), ?_⟩
                  refine ⟨fun c => ?_, fun c => ?_⟩
                  · unfold qX12_goal_J111
                    unfold qX12_goal_J113
                    refine ⟨(by first | assumption | exact ⟨by omega, by omega⟩), ?_⟩
                    refine ⟨fun c => ?_, fun c => ?_⟩
                    · exact ih _ _ _ _ _ (hI.mono (by omega)) (by omega) (by first | assumption | exact ⟨by omega, by omega⟩) (by first | assumption | exact ⟨by omega, by omega⟩) (by omega)
                    · refine ⟨(by first | assumption | exact ⟨by omega, by omega⟩), ?_⟩
                      refine ⟨fun c => ?_, fun c => ?_⟩
                      · exact ih _ _ _ _ _ (hI.mono (by omega)) (by omega) (by first | assumption | exact ⟨by omega, by omega⟩) (by first | assumption | exact ⟨by omega, by omega⟩) (by omega)
                      · exact ih _ _ _ _ _ (hI.mono (by omega)) (by omega) (by first | assumption | exact ⟨by omega, by omega⟩) (by first | assumption | exact ⟨by omega, by omega⟩) (by omega)
                  · unfold qX12_goal_J106
                    unfold qX12_goal_J113
                    refine ⟨(by first | assumption | exact ⟨by omega, by omega⟩), ?_⟩
                    refine ⟨fun c => ?_, fun c => ?_⟩
                    · exact ih _ _ _ _ _ (hI.mono (by omega)) (by omega) (by first | assumption | exact ⟨by omega, by omega⟩) (by first | assumption | exact ⟨by omega, by omega⟩) (by omega)
                    · refine ⟨(by first | assumption | exact ⟨by omega, by omega⟩), ?_⟩
                      refine ⟨fun c => ?_, fun c => ?_⟩
                      · exact ih _ _ _ _ _ (hI.mono (by omega)) (by omega) (by first | assumption | exact ⟨by omega, by omega⟩) (by first | assumption | exact ⟨by omega, by omega⟩) (by omega)
                      · exact ih _ _ _ _ _ (hI.mono (by omega)) (by omega) (by first | assumption | exact ⟨by omega, by omega⟩) (by first | assumption | exact ⟨by omega, by omega⟩) (by omega)
        · unfold qX12_goal_J58
          unfold qX12_goal_J63
          refine sX12_gate  hI  ?_
          intro x15_1197 p1198 q1199
          refine ⟨(by first | assumption | exact ⟨by omega, by omega⟩), ?_⟩
          refine ⟨fun c => ?_, fun c => ?_⟩
          · unfold qX12_goal_J84
            unfold qX12_goal_J89
            refine ⟨(by first | assumption | exact ⟨by omega, by omega⟩), ?_⟩
            refine ⟨fun c => ?_, fun c => ?_⟩
            · unfold qX12_goal_J111
              unfold qX12_goal_J113
              refine ⟨(by first | assumption | exact ⟨by omega, by omega⟩), ?_⟩
              refine ⟨fun c => ?_, fun c => ?_⟩
              · exact ih _ _ _ _ _ (hI.mono (by omega)) (by omega) (by first | assumption | exact ⟨by omega, by omega⟩) (by first | assumption | exact ⟨by omega, by omega⟩) (by omega)
              · refine ⟨(by first | assumption | exact ⟨by omega, by omega⟩), ?_⟩
                refine ⟨fun c => ?_, fun c => ?_⟩
                · exact ih _ _ _ _ _ (hI.mono (by omega)) (by omega) (by first | assumption | exact ⟨by omega, by omega⟩) (by first | assumption | exact ⟨by omega, by omega⟩) (by omega)
                · exact ih _ _ _ _ _ (hI.mono (by omega)) (by omega) (by first | assumption | exact ⟨by omega, by omega⟩) (by first | assumption | exact ⟨by omega, by omega⟩) (by omega)
            · refine ⟨(by first | assumption | exact ⟨by omega, by omega⟩), ?_⟩
              refine ⟨fun c => ?_, fun c => ?_⟩
              · unfold qX12_goal_J106
                unfold qX12_goal_J113
                refine ⟨(by first | assumption | exact ⟨by omega, by omega⟩), ?_⟩
                refine ⟨fun c => ?_, fun c => ?_⟩
                · exact ih _ _ _ _ _ (hI.mono (by omega)) (by omega) (by first | assumption | exact ⟨by omega, by omega⟩) (by first | assumption | exact ⟨by omega, by omega⟩) (by omega)
                · refine ⟨(by first | assumption | exact ⟨by omega, by omega⟩), ?_⟩
                  refine ⟨fun c => ?_, fun c => ?_⟩
                  · exact ih _ _ _ _ _ (hI.mono (by omega)) (by omega) (by first | assumption | exact ⟨by omega, by omega⟩) (by first | assumption | exact ⟨by omega, by omega⟩) (by omega)
                  · exact ih _ _ _ _ _ (hI.mono (by omega)) (by omega) (by first | assumption | exact ⟨by omega, by omega⟩) (by first | assumption | exact ⟨by omega, by omega⟩) (by omega)
              · refine ⟨(by first | assumption | exact ⟨by omega, by omega⟩), ?_⟩
                refine ⟨fun c => ?_, fun c => ?_⟩
                · unfold qX12_goal_J111
                  unfold qX12_goal_J113
                  refine ⟨(by first | assumption | exact ⟨by omega, by omega⟩), ?_⟩
                  refine ⟨fun c => ?_, fun c => ?_⟩
                  · exact ih _ _ _ _ _ (hI.mono (by omega)) (by omega) (by first | assumption | exact ⟨by omega, by omega⟩) (by first | assumption | exact ⟨by omega, by omega⟩) (by omega)
                  · refine ⟨(by first | assumption | exact ⟨by omega, by omega⟩), ?_⟩
                    refine ⟨fun c => ?_, fun c => ?_⟩
                    · exact ih _ _ _ _ _ (hI.mono (by omega)) (by omega) (by first | assumption | exact ⟨by omega, by omega⟩) (by first | assumption | exact ⟨by omega, by omega⟩) (by omega)
                    · exact ih _ _ _ _ _ (hI.mono (by omega)) (by omega) (by first | assumption | exact ⟨by omega, by omega⟩) (by first | assumption | exact ⟨by omega, by omega⟩) (by omega)
                · unfold qX12_goal_J106
                  unfold qX12_goal_J113
                  refine ⟨(by first | assumption | exact ⟨by omega, by omega⟩), ?_⟩
                  refine ⟨fun c => ?_, fun c => ?_⟩
                  · exact ih _ _ _ _ _ (hI.mono (by omega)) (by omega) (by first | assumption | exact ⟨by omega, by omega⟩) (by first | assumption | exact ⟨by omega, by omega⟩) (by omega)
                  · refine ⟨(by first | assumption | exact ⟨by omega, by omega⟩), ?_⟩
                    refine ⟨fun c => ?_, fun c => ?_⟩
                    · exact ih _ _ _ _ _ (hI.mono (by omega)) (by omega) (by first | assumption | exact ⟨by omega, by omega⟩) (by first | assumption | exact ⟨by omega, by omega⟩) (by omega)
                    · exact ih _ _ _ _ _ (hI.mono (by omega)) (by omega) (by first | assumption | exact ⟨by omega, by omega⟩) (by first | assumption | exact ⟨by omega, by omega⟩) (by omega)
          · refine sX12_onCell (p2 := v8) hI hk1 ?_
            intro x28_1224 p1225 q1226
            refine ⟨fun c => ?_, fun c => ?_⟩
            · unfold qX12_goal_J89
              refine ⟨(by first | assumption | exact ⟨by omega, by omega⟩), ?_⟩
              refine ⟨fun c => ?_, fun c => ?_⟩
              · unfold qX12_goal_J111
                unfold qX12_goal_J113
                refine ⟨(by first | assumption | exact ⟨by omega, by omega⟩), ?_⟩
                refine ⟨fun c => ?_, fun c => ?_⟩
                · exact ih _ _ _ _ _ (hI.mono (by omega)) (by omega) (by first | assumption | exact ⟨by omega, by omega⟩) (by first | assumption | exact ⟨by omega, by omega⟩) (by omega)
                · refine ⟨(by first | assumption | exact ⟨by omega, by omega⟩), ?_⟩
                  refine ⟨fun c => ?_, fun c => ?_⟩
                  · exact ih _ _ _ _ _ (hI.mono (by omega)) (by omega) (by first | assumption | exact ⟨by omega, by omega⟩) (by first | assumption | exact ⟨by omega, by omega⟩) (by omega)
                  · exact ih _ _ _ _ _ (hI.mono (by omega)) (by omega) (by first | assumption | exact ⟨by omega, by omega⟩) (by first | assumption | exact ⟨by omega, by omega⟩) (by omega)
              · refine ⟨(by first | assumption | exact ⟨by omega, by omega⟩), ?_⟩
                refine ⟨fun c => ?_, fun c => ?_⟩
                · unfold qX12_goal_J106
                  unfold qX12_goal_J113
                  refine ⟨(by first | assumption | exact ⟨by omega, by omega⟩), ?_⟩
                  refine ⟨fun c => ?_, fun c => ?_⟩
                  · exact ih _ _ _ _ _ (hI.mono (by omega)) (by omega) (by first | assumption | exact ⟨by omega, by omega⟩) (by first | assumption | exact ⟨by omega, by omega⟩) (by omega)
                  · refine ⟨(by first | assumption | exact ⟨by omega, by omega⟩), ?_⟩
                    refine ⟨fun c => ?_, fun c => ?_⟩
                    · exact ih _ _ _ _ _ (hI.mono (by omega)) (by omega) (by first | assumption | exact ⟨by omega, by omega⟩) (by first | assumption | exact ⟨by omega, by omega⟩) (by omega)
                    · exact ih _ _ _ _ _ (hI.mono (by omega)) (by omega) (by first | assumption | exact ⟨by omega, by omega⟩) (by first | assumption | exact ⟨by omega, by omega⟩) (by omega)
                · refine ⟨(by first | assumption | exact ⟨by omega, by omega⟩), ?_⟩
                  refine ⟨fun c => ?_, fun c => ?_⟩
                  · unfold qX12_goal_J111
                    unfold qX12_goal_J113
                    refine ⟨(by first | assumption | exact ⟨by omega, by omega⟩), ?_⟩
                    refine ⟨fun c => ?_, fun c => ?_⟩
                    · exact ih _ _ _ _ _ (hI.mono (by omega)) (by omega) (by first | assumption | exact ⟨by omega, by omega⟩) (by first | assumption | exact ⟨by omega, by omega⟩) (by omega)
                    · refine ⟨(by first | assumption | exact ⟨by omega, by omega⟩), ?_⟩
                      refine ⟨fun c => ?_, fun c => ?_⟩
                      · exact ih _ _ _ _ _ (hI.mono (by omega)) (by omega) (by first | assumption | exact ⟨by omega, by omega⟩) (by first | assumption | exact ⟨by omega, by omega⟩) (by omega)
                      · exact ih _ _ _ _ _ (hI.mono (by omega)) (by omega) (by first | assumption | exact ⟨by omega, by omega⟩) (by first | assumption | exact ⟨by omega, by omega⟩) (by omega)
                  · unfold qX12_goal_J106
                    unfold qX12_goal_J113
                    refine ⟨(by first | assumption | exact ⟨by omega, by omega⟩), ?_⟩
                    refine ⟨fun c => ?_, fun c => ?_⟩
                    · exact ih _ _ _ _ _ (hI.mono (by omega)) (by omega) (by first | assumption | exact ⟨by omega, by omega⟩) (by first | assumption | exact ⟨by omega, by omega⟩) (by omega)
                    · refine ⟨(by first | assumption | exact ⟨by omega, by omega⟩), ?_⟩
                      refine ⟨fun c => ?_, fun c => ?_⟩
                      · exact ih _ _ _ _ _ (hI.mono (by omega)) (by omega) (by first | assumption | exact ⟨by omega, by omega⟩) (by first | assumption | exact ⟨by omega, by omega⟩) (by omega)
                      · exact ih _ _ _ _ _ (hI.mono (by omega)) (by omega) (by first | assumption | exact ⟨by omega, by omega⟩) (by first | assumption | exact ⟨by omega, by omega⟩) (by omega)
            · unfold qX12_goal_J84
              unfold qX12_goal_J89
              refine ⟨(by first | assumption | exact ⟨by omega, by omega⟩), ?_⟩
              refine ⟨fun c => ?_, fun c => ?_⟩
              · unfold qX12_goal_J111
                unfold qX12_goal_J113
                refine ⟨(by first | assumption | exact ⟨by omega, by omega⟩), ?_⟩
                refine ⟨fun c => ?_, fun c => ?_⟩
                · exact ih _ _ _ _ _ (hI.mono (by omega)) (by omega) (by first | assumption | exact ⟨by omega, by omega⟩) (by first | assumption | exact ⟨by omega, by omega⟩) (by omega)
                · refine ⟨(by first | assumption | exact ⟨by omega, by omega⟩), ?_⟩
                  refine ⟨fun c => ?_, fun c => ?_⟩
                  · exact ih _ _ _ _ _ (hI.mono (by omega)) (by omega) (by first | assumption | exact ⟨by omega, by omega⟩) (by first | assumption | exact ⟨by omega, by omega⟩) (by omega)
                  · exact ih _ _ _ _ _ (hI.mono (by omega)) (by omega) (by first | assumption | exact ⟨by omega, by omega⟩) (by first | assumption | exact ⟨by omega, by omega⟩) (by omega)
              · refine ⟨(by first | assumption | exact ⟨by omega, by omega⟩), ?_⟩
                refine ⟨fun c => ?_, fun c => ?_⟩
                · unfold qX12_goal_J106
                  unfold qX12_goal_J113
                  refine ⟨(by first | assumption | exact ⟨by omega, by omega⟩), ?_⟩
                  refine ⟨fun c => ?_, fun c => ?_⟩
                  · exact ih _ _ _ _ _ (hI.mono (by omega)) (by omega) (by first | assumption | exact ⟨by omega, by omega⟩) (by first | assumption | exact ⟨by omega, by omega⟩) (by omega)
                  · refine ⟨(by first | assumption | exact ⟨by omega, by omega⟩), ?_⟩
                    refine ⟨fun c => ?_, fun c => ?_⟩
                    · exact ih _ _ _ _ _ (hI.mono (by omega)) (by omega) (by first | assumption | exact ⟨by omega, by omega⟩) (by first | assumption | exact ⟨by omega, by omega⟩) (by omega)
                    · exact ih _ _ _ _ _ (hI.mono (by omega)) (by omega) (by first | assumption | exact ⟨by omega, by omega⟩) (by first | assumption | exact ⟨by omega, by omega⟩) (by omega)
                · refine ⟨(by first | assumption | exact ⟨by omega, by omega⟩), ?_⟩
                  refine ⟨fun c => ?_, fun c => ?_⟩
                  · unfold qX12_goal_J111
                    unfold qX12_goal_J113
                    refine ⟨(by first | assumption | exact ⟨by omega, by omega⟩), ?_⟩
                    refine ⟨fun c => ?_, fun c => ?_⟩
                    · exact ih _ _ _ _ _ (hI.mono (by omega)) (by omega) (by first | assumption | exact ⟨by omega, by omega⟩) (by first | assumption | exact ⟨by omega, by omega⟩) (by omega)
                    · refine ⟨(by first | assumption | exact ⟨by omega, by omega⟩), ?_⟩
                      refine ⟨fun c => ?_, fun c => ?_⟩
                      · exact ih _ _ _ _ _ (hI.mono (by omega)) (by omega) (by first | assumption | exact ⟨by omega, by omega⟩) (by first | assumption | exact ⟨by omega, by omega⟩) (by omega)
                      · exact ih _ _ _ _ _ (hI.mono (by omega)) (by omega) (by first | assumption | exact ⟨by omega, by omega⟩) (by first | assumption | exact ⟨by omega, by omega⟩) (by omega)
                  · unfold qX12_goal_J106
                    unfold qX12_goal_J113
                    refine ⟨(by first | assumption | exact ⟨by omega, by omega⟩), ?_⟩
                    refine ⟨fun c => ?_, fun c => ?_⟩
                    · exact ih _ _ _ _ _ (hI.mono (by omega)) (by omega) (by first | assumption | exact ⟨by omega, by omega⟩) (by first | assumption | exact ⟨by omega, by omega⟩) (by omega)
                    · refine ⟨(by first | assumption | exact ⟨by omega, by omega⟩), ?_⟩
                      refine ⟨fun c => ?_, fun c => ?_⟩
                      · exact ih _ _ _ _ _ (hI.mono (by omega)) (by omega) (by first | assumption | exact ⟨by omega, by omega⟩) (by first | assumption | exact ⟨by omega, by omega⟩) (by omega)
                      · exact ih _ _ _ _ _ (hI.mono (by omega)) (by omega) (by first | assumption | exact ⟨by omega, by omega⟩) (by first | assumption | exact ⟨by omega, by omega⟩) (by omega)
theorem sX12_goal {k1 : Nat} {p2 : Int} {p3 : Int} {b : Int} {M : Mem} {Q : Int → Mem → Prop} (hI : IM b M) (hk1 : isN k1) (hp : 0 ≤ p2 ∧ p2 ≤ 5 ∧ 0 ≤ M k1 p2 ∧ 0 ≤ p3 ∧ p3 ≤ 3) (hQ : ∀ z : Int, (0 ≤ z ∧ z ≤ 29) → Q z M) : qX12_goal k1 p2 p3 M Q := by
  unfold qX12_goal
  have hbn := hI.nn
  have ek1 : k1 = 5 ∨ k1 = 6 := hk1
  refine ⟨by omega, ?_⟩
  refine ⟨by omega, ?_⟩
  intro x3_1273 ex3_1273 rx3_1273
  have rbx3_1273 : -2147483648 ≤ x3_1273 ∧ x3_1273 ≤ 2147483647 := rx3_1273
  have nbx3_1273 : BN (b) p2 x3_1273 := by rw [ex3_1273]; exact (bm_n hk1).mp (hI.bx _ _)
  first | (have bx3_1273 : -1 ≤ x3_1273 ∧ x3_1273 ≤ 29 := nbx3_1273.1 ⟨by omega, by omega⟩) | (have bx3_1273 : -1 ≤ x3_1273 ∧ x3_1273 ≤ 29 := nbx3_1273.2.1 ⟨by omega, by omega⟩) | skip
  refine ⟨by omega, ?_⟩
  refine ⟨by omega, ?_⟩
  intro x6_1274 ex6_1274 rx6_1274
  have bx6_1274 : -2147483648 ≤ x6_1274 ∧ x6_1274 ≤ 2147483647 := rx6_1274
  have cgx6_1274 : x6_1274 = M 2 (M k1 p2) := by rw [ex6_1274, ← ex3_1273]
  refine ⟨31, ?_⟩
  refine sX12_goal_L27 (b := b) (p2 := p2) (p3 := p3) (M0 := M) hk1 ?_ _ _ _ _ _ _ (hI.mono (by omega)) (by omega) (by first | assumption | exact ⟨by omega, by omega⟩) (by first | assumption | exact ⟨by omega, by omega⟩) (by omega)
  · exact hQ
theorem sX12_laysLine {k1 : Nat} {b : Int} {M : Mem} {Q : Mem → Prop} (hI : IM b M) (hk1 : isN k1) (hQ : Q M) : qX12_laysLine k1 M Q := sorry
theorem sX12_mournerGoes {k1 : Nat} {p2 : Int} {b : Int} {M : Mem} {Q : Mem → Prop} (hI : IM b M) (hk1 : isN k1) (hp : 0 ≤ p2 ∧ p2 ≤ 7) (hQ : ∀ M' : Mem, IM b M' → Q M') : qX12_mournerGoes k1 p2 M Q := by
  unfold qX12_mournerGoes
  have hbn := hI.nn
  have ek1 : k1 = 5 ∨ k1 = 6 := hk1
  refine ⟨by omega, ?_⟩
  refine ⟨by omega, ?_⟩
  intro x3_1275 ex3_1275 rx3_1275
  have rbx3_1275 : -2147483648 ≤ x3_1275 ∧ x3_1275 ≤ 2147483647 := rx3_1275
  first | (have bx3_1275 : -1 ≤ x3_1275 ∧ x3_1275 ≤ 5 := by rw [ex3_1275]; exact ((bm_n hk1).mp (hI.bx _ _)).2.2.1 ⟨by omega, by omega⟩) | skip
  refine ⟨fun c => ?_, fun c => ?_⟩
  · unfold qX12_mournerGoes_J27
    refine ⟨by omega, ?_⟩
    refine ⟨by omega, ?_⟩
    intro x7_1277 ex7_1277 rx7_1277
    have rbx7_1277 : -2147483648 ≤ x7_1277 ∧ x7_1277 ≤ 2147483647 := rx7_1277
    first | (have bx7_1277 : -1 ≤ x7_1277 ∧ x7_1277 ≤ 29 := by rw [ex7_1277]; exact ((bm_n hk1).mp (hI.bx _ _)).2.1 ⟨by omega, by omega⟩) | skip
    refine sX12_nearest (p2 := x7_1277) hI hk1 (by omega) ?_
    intro x8_1278 p1279 q1280
    refine ⟨fun c => ?_, fun c => ?_⟩
    · unfold qX12_mournerGoes_J105
      refine ⟨(by first | assumption | exact ⟨by omega, by omega⟩), ?_⟩
      refine ⟨fun c => ?_, fun c => ?_⟩
      · exact hQ _ (hI.mono (by omega))
      · refine ⟨by omega, ?_⟩
        refine ⟨by omega, ?_⟩
        intro x14_1284 ex14_1284 rx14_1284
        have rbx14_1284 : -2147483648 ≤ x14_1284 ∧ x14_1284 ≤ 2147483647 := rx14_1284
        have nbx14_1284 : BN (b) x3_1275 x14_1284 := by rw [ex14_1284]; exact (bm_n hk1).mp (hI.bx _ _)
        first | (have bx14_1284 : -1 ≤ x14_1284 ∧ x14_1284 ≤ 29 := nbx14_1284.1 ⟨by omega, by omega⟩) | (have bx14_1284 : -1 ≤ x14_1284 ∧ x14_1284 ≤ 29 := nbx14_1284.2.1 ⟨by omega, by omega⟩) | skip
        have cgx14_1284 : x14_1284 = M k1 (M k1 (21 + p2)) := by rw [ex14_1284, ← ex3_1275]
        refine ⟨(by first | assumption | exact ⟨by omega, by omega⟩), ?_⟩
        refine ⟨fun c => ?_, fun c => ?_⟩
        · intro x17_1286 ex17_1286 rx17_1286
          have rbx17_1286 : -2147483648 ≤ x17_1286 ∧ x17_1286 ≤ 2147483647 := rx17_1286
          have nbx17_1286 : BN (b) x3_1275 x17_1286 := by rw [ex17_1286]; exact (bm_n hk1).mp (hI.bx _ _)
          first | (have bx17_1286 : -1 ≤ x17_1286 ∧ x17_1286 ≤ 29 := nbx17_1286.1 ⟨by omega, by omega⟩) | (have bx17_1286 : -1 ≤ x17_1286 ∧ x17_1286 ≤ 29 := nbx17_1286.2.1 ⟨by omega, by omega⟩) | skip
          have cgx17_1286 : x17_1286 = M k1 (M k1 (21 + p2)) := by rw [ex17_1286, ← ex3_1275]
          refine ⟨(by first | assumption | exact ⟨by omega, by omega⟩), ?_⟩
          intro x19_1287 ex19_1287 rx19_1287
          unfold qX12_mournerGoes_J145
          refine ⟨by omega, ?_⟩
          refine ⟨by omega, ?_⟩
          refine ⟨(by first | assumption | exact ⟨by omega, by omega⟩), ?_⟩
          intro M23_1288 h_M23_1288
          have hM23_1288 : IM (b) M23_1288 := by rw [h_M23_1288]; exact hI.up (by omega) ((bm_n hk1).mpr (by first | assumption | exact ⟨by omega, by omega, by omega, by omega⟩))
          exact hQ _ (hM23_1288.mono (by omega))
        · intro x24_1290 ex24_1290 rx24_1290
          have rbx24_1290 : -2147483648 ≤ x24_1290 ∧ x24_1290 ≤ 2147483647 := rx24_1290
          have nbx24_1290 : BN (b) x3_1275 x24_1290 := by rw [ex24_1290]; exact (bm_n hk1).mp (hI.bx _ _)
          first | (have bx24_1290 : -1 ≤ x24_1290 ∧ x24_1290 ≤ 29 := nbx24_1290.1 ⟨by omega, by omega⟩) | (have bx24_1290 : -1 ≤ x24_1290 ∧ x24_1290 ≤ 29 := nbx24_1290.2.1 ⟨by omega, by omega⟩) | skip
          have cgx24_1290 : x24_1290 = M k1 (M k1 (21 + p2)) := by rw [ex24_1290, ← ex3_1275]
          refine ⟨(by first | assumption | exact ⟨by omega, by omega⟩), ?_⟩
          intro x26_1291 ex26_1291 rx26_1291
          unfold qX12_mournerGoes_J145
          refine ⟨by omega, ?_⟩
          refine ⟨by omega, ?_⟩
          refine ⟨(by first | assumption | exact ⟨by omega, by omega⟩), ?_⟩
          intro M23_1292 h_M23_1292
          have hM23_1292 : IM (b) M23_1292 := by rw [h_M23_1292]; exact hI.up (by omega) ((bm_n hk1).mpr (by first | assumption | exact ⟨by omega, by omega, by omega, by omega⟩))
          exact hQ _ (hM23_1292.mono (by omega))
    · refine ⟨(by first | assumption | exact ⟨by omega, by omega⟩), ?_⟩
      refine ⟨fun c => ?_, fun c => ?_⟩
      · unfold qX12_mournerGoes_J75
        refine ⟨by omega, ?_⟩
        refine ⟨by omega, ?_⟩
        refine ⟨(by first | assumption | exact ⟨by omega, by omega⟩), ?_⟩
        intro M32_1295 h_M32_1295
        have hM32_1295 : IM (b) M32_1295 := by rw [h_M32_1295]; exact hI.up (by omega) ((bm_n hk1).mpr (by first | assumption | exact ⟨by omega, by omega, by omega, by omega⟩))
        intro x33_1296 ex33_1296 rx33_1296
        have bx33_1296 : -2147483648 ≤ x33_1296 ∧ x33_1296 ≤ 2147483647 := rx33_1296
        have fx33_1296 : x33_1296 = M 1 31 := by rw [ex33_1296, h_M32_1295, up2_n (by omega)]
        intro x34_1297 ex34_1297 rx34_1297
        first | (have fx34_1297 : x34_1297 = x33_1296 + 1 := by rw [ex34_1297]; exact w32_id ⟨by omega, by omega⟩) | skip
        intro M35_1298 h_M35_1298
        have hM35_1298 : IM (b) M35_1298 := by rw [h_M35_1298]; exact hM32_1295.up (by omega) (by simp [BM])
        refine ⟨by omega, ?_⟩
        refine ⟨by omega, ?_⟩
        intro x38_1299 ex38_1299 rx38_1299
        have bx38_1299 : -2147483648 ≤ x38_1299 ∧ x38_1299 ≤ 2147483647 := rx38_1299
        have fx38_1299 : x38_1299 = M 17 p2 := by rw [ex38_1299, h_M35_1298, up2_n (by decide), h_M32_1295, up2_n (by omega)]
        intro x39_1300 ex39_1300 rx39_1300
        first | (have fx39_1300 : x39_1300 = x38_1299 + 1 := by rw [ex39_1300]; exact w32_id ⟨by omega, by omega⟩) | skip
        intro M40_1301 h_M40_1301
        have hM40_1301 : IM (b) M40_1301 := by rw [h_M40_1301]; exact hM35_1298.up (by omega) (by simp [BM])
        unfold qX12_mournerGoes_J105
        refine ⟨(by first | assumption | exact ⟨by omega, by omega⟩), ?_⟩
        refine ⟨fun c => ?_, fun c => ?_⟩
        · exact hQ _ (hM40_1301.mono (by omega))
        · refine ⟨by omega, ?_⟩
          refine ⟨by omega, ?_⟩
          intro x14_1304 ex14_1304 rx14_1304
          have rbx14_1304 : -2147483648 ≤ x14_1304 ∧ x14_1304 ≤ 2147483647 := rx14_1304
          have nbx14_1304 : BN (b) x8_1278 x14_1304 := by rw [ex14_1304]; exact (bm_n hk1).mp (hM40_1301.bx _ _)
          first | (have bx14_1304 : -1 ≤ x14_1304 ∧ x14_1304 ≤ 29 := nbx14_1304.1 ⟨by omega, by omega⟩) | (have bx14_1304 : -1 ≤ x14_1304 ∧ x14_1304 ≤ 29 := nbx14_1304.2.1 ⟨by omega, by omega⟩) | skip
          have fx14_1304 : x14_1304 = M32_1295 k1 x8_1278 := by rw [ex14_1304, h_M40_1301, up2_n (by omega), h_M35_1298, up2_n (by omega)]
          refine ⟨(by first | assumption | exact ⟨by omega, by omega⟩), ?_⟩
          refine ⟨fun c => ?_, fun c => ?_⟩
          · intro x17_1306 ex17_1306 rx17_1306
            have rbx17_1306 : -2147483648 ≤ x17_1306 ∧ x17_1306 ≤ 2147483647 := rx17_1306
            have nbx17_1306 : BN (b) x8_1278 x17_1306 := by rw [ex17_1306]; exact (bm_n hk1).mp (hM40_1301.bx _ _)
            first | (have bx17_1306 : -1 ≤ x17_1306 ∧ x17_1306 ≤ 29 := nbx17_1306.1 ⟨by omega, by omega⟩) | (have bx17_1306 : -1 ≤ x17_1306 ∧ x17_1306 ≤ 29 := nbx17_1306.2.1 ⟨by omega, by omega⟩) | skip
            have fx17_1306 : x17_1306 = M32_1295 k1 x8_1278 := by rw [ex17_1306, h_M40_1301, up2_n (by omega), h_M35_1298, up2_n (by omega)]
            refine ⟨(by first | assumption | exact ⟨by omega, by omega⟩), ?_⟩
            intro x19_1307 ex19_1307 rx19_1307
            unfold qX12_mournerGoes_J145
            refine ⟨by omega, ?_⟩
            refine ⟨by omega, ?_⟩
            refine ⟨(by first | assumption | exact ⟨by omega, by omega⟩), ?_⟩
            intro M23_1308 h_M23_1308
            have hM23_1308 : IM (b) M23_1308 := by rw [h_M23_1308]; exact hM40_1301.up (by omega) ((bm_n hk1).mpr (by first | assumption | exact ⟨by omega, by omega, by omega, by omega⟩))
            exact hQ _ (hM23_1308.mono (by omega))
          · intro x24_1310 ex24_1310 rx24_1310
            have rbx24_1310 : -2147483648 ≤ x24_1310 ∧ x24_1310 ≤ 2147483647 := rx24_1310
            have nbx24_1310 : BN (b) x8_1278 x24_1310 := by rw [ex24_1310]; exact (bm_n hk1).mp (hM40_1301.bx _ _)
            first | (have bx24_1310 : -1 ≤ x24_1310 ∧ x24_1310 ≤ 29 := nbx24_1310.1 ⟨by omega, by omega⟩) | (have bx24_1310 : -1 ≤ x24_1310 ∧ x24_1310 ≤ 29 := nbx24_1310.2.1 ⟨by omega, by omega⟩) | skip
            have fx24_1310 : x24_1310 = M32_1295 k1 x8_1278 := by rw [ex24_1310, h_M40_1301, up2_n (by omega), h_M35_1298, up2_n (by omega)]
            refine ⟨(by first | assumption | exact ⟨by omega, by omega⟩), ?_⟩
            intro x26_1311 ex26_1311 rx26_1311
            unfold qX12_mournerGoes_J145
            refine ⟨by omega, ?_⟩
            refine ⟨by omega, ?_⟩
            refine ⟨(by first | assumption | exact ⟨by omega, by omega⟩), ?_⟩
            intro M23_1312 h_M23_1312
            have hM23_1312 : IM (b) M23_1312 := by rw [h_M23_1312]; exact hM40_1301.up (by omega) ((bm_n hk1).mpr (by first | assumption | exact ⟨by omega, by omega, by omega, by omega⟩))
            exact hQ _ (hM23_1312.mono (by omega))
      · refine ⟨by omega, ?_⟩
        refine ⟨by omega, ?_⟩
        intro x43_1314 ex43_1314 rx43_1314
        have rbx43_1314 : -2147483648 ≤ x43_1314 ∧ x43_1314 ≤ 2147483647 := rx43_1314
        have nbx43_1314 : BN (b) x8_1278 x43_1314 := by rw [ex43_1314]; exact (bm_n hk1).mp (hI.bx _ _)
        first | (have bx43_1314 : -1 ≤ x43_1314 ∧ x43_1314 ≤ 29 := nbx43_1314.1 ⟨by omega, by omega⟩) | (have bx43_1314 : -1 ≤ x43_1314 ∧ x43_1314 ≤ 29 := nbx43_1314.2.1 ⟨by omega, by omega⟩) | skip
        refine ⟨(by first | assumption | exact ⟨by omega, by omega⟩), ?_⟩
        intro x45_1315 px45_1315 nx45_1315
        have bx45_1315 : 0 ≤ x45_1315 ∧ (x43_1314 - x7_1277 = x45_1315 ∨ x43_1314 - x7_1277 = -x45_1315) := by omega
        refine ⟨by omega, ?_⟩
        refine ⟨by omega, ?_⟩
        intro x48_1316 ex48_1316 rx48_1316
        have rbx48_1316 : -2147483648 ≤ x48_1316 ∧ x48_1316 ≤ 2147483647 := rx48_1316
        have nbx48_1316 : BN (b) x3_1275 x48_1316 := by rw [ex48_1316]; exact (bm_n hk1).mp (hI.bx _ _)
        first | (have bx48_1316 : -1 ≤ x48_1316 ∧ x48_1316 ≤ 29 := nbx48_1316.1 ⟨by omega, by omega⟩) | (have bx48_1316 : -1 ≤ x48_1316 ∧ x48_1316 ≤ 29 := nbx48_1316.2.1 ⟨by omega, by omega⟩) | skip
        have cgx48_1316 : x48_1316 = M k1 (M k1 (21 + p2)) := by rw [ex48_1316, ← ex3_1275]
        refine ⟨(by first | assumption | exact ⟨by omega, by omega⟩), ?_⟩
        intro x50_1317 px50_1317 nx50_1317
        have bx50_1317 : 0 ≤ x50_1317 ∧ (x48_1316 - x7_1277 = x50_1317 ∨ x48_1316 - x7_1277 = -x50_1317) := by omega
        refine ⟨(by first | assumption | exact ⟨by omega, by omega⟩), ?_⟩
        refine ⟨(by first | assumption | exact ⟨by omega, by omega⟩), ?_⟩
        refine ⟨fun c => ?_, fun c => ?_⟩
        · unfold qX12_mournerGoes_J105
          refine ⟨(by first | assumption | exact ⟨by omega, by omega⟩), ?_⟩
          refine ⟨fun c => ?_, fun c => ?_⟩
          · exact hQ _ (hI.mono (by omega))
          · refine ⟨by omega, ?_⟩
            refine ⟨by omega, ?_⟩
            intro x14_1321 ex14_1321 rx14_1321
            have rbx14_1321 : -2147483648 ≤ x14_1321 ∧ x14_1321 ≤ 2147483647 := rx14_1321
            have nbx14_1321 : BN (b) x3_1275 x14_1321 := by rw [ex14_1321]; exact (bm_n hk1).mp (hI.bx _ _)
            first | (have bx14_1321 : -1 ≤ x14_1321 ∧ x14_1321 ≤ 29 := nbx14_1321.1 ⟨by omega, by omega⟩) | (have bx14_1321 : -1 ≤ x14_1321 ∧ x14_1321 ≤ 29 := nbx14_1321.2.1 ⟨by omega, by omega⟩) | skip
            have cgx14_1321 : x14_1321 = M k1 (M k1 (21 + p2)) := by rw [ex14_1321, ← ex3_1275]
            refine ⟨(by first | assumption | exact ⟨by omega, by omega⟩), ?_⟩
            refine ⟨fun c => ?_, fun c => ?_⟩
            · intro x17_1323 ex17_1323 rx17_1323
              have rbx17_1323 : -2147483648 ≤ x17_1323 ∧ x17_1323 ≤ 2147483647 := rx17_1323
              have nbx17_1323 : BN (b) x3_1275 x17_1323 := by rw [ex17_1323]; exact (bm_n hk1).mp (hI.bx _ _)
              first | (have bx17_1323 : -1 ≤ x17_1323 ∧ x17_1323 ≤ 29 := nbx17_1323.1 ⟨by omega, by omega⟩) | (have bx17_1323 : -1 ≤ x17_1323 ∧ x17_1323 ≤ 29 := nbx17_1323.2.1 ⟨by omega, by omega⟩) | skip
              have cgx17_1323 : x17_1323 = M k1 (M k1 (21 + p2)) := by rw [ex17_1323, ← ex3_1275]
              refine ⟨(by first | assumption | exact ⟨by omega, by omega⟩), ?_⟩
              intro x19_1324 ex19_1324 rx19_1324
              unfold qX12_mournerGoes_J145
              refine ⟨by omega, ?_⟩
              refine ⟨by omega, ?_⟩
              refine ⟨(by first | assumption | exact ⟨by omega, by omega⟩), ?_⟩
              intro M23_1325 h_M23_1325
              have hM23_1325 : IM (b) M23_1325 := by rw [h_M23_1325]; exact hI.up (by omega) ((bm_n hk1).mpr (by first | assumption | exact ⟨by omega, by omega, by omega, by omega⟩))
              exact hQ _ (hM23_1325.mono (by omega))
            · intro x24_1327 ex24_1327 rx24_1327
              have rbx24_1327 : -2147483648 ≤ x24_1327 ∧ x24_1327 ≤ 2147483647 := rx24_1327
              have nbx24_1327 : BN (b) x3_1275 x24_1327 := by rw [ex24_1327]; exact (bm_n hk1).mp (hI.bx _ _)
              first | (have bx24_1327 : -1 ≤ x24_1327 ∧ x24_1327 ≤ 29 := nbx24_1327.1 ⟨by omega, by omega⟩) | (have bx24_1327 : -1 ≤ x24_1327 ∧ x24_1327 ≤ 29 := nbx24_1327.2.1 ⟨by omega, by omega⟩) | skip
              have cgx24_1327 : x24_1327 = M k1 (M k1 (21 + p2)) := by rw [ex24_1327, ← ex3_1275]
              refine ⟨(by first | assumption | exact ⟨by omega, by omega⟩), ?_⟩
              intro x26_1328 ex26_1328 rx26_1328
              unfold qX12_mournerGoes_J145
              refine ⟨by omega, ?_⟩
              refine ⟨by omega, ?_⟩
              refine ⟨(by first | assumption | exact ⟨by omega, by omega⟩), ?_⟩
              intro M23_1329 h_M23_1329
              have hM23_1329 : IM (b) M23_1329 := by rw [h_M23_1329]; exact hI.up (by omega) ((bm_n hk1).mpr (by first | assumption | exact ⟨by omega, by omega, by omega, by omega⟩))
              exact hQ _ (hM23_1329.mono (by omega))
        · unfold qX12_mournerGoes_J75
          refine ⟨by omega, ?_⟩
          refine ⟨by omega, ?_⟩
          refine ⟨(by first | assumption | exact ⟨by omega, by omega⟩), ?_⟩
          intro M32_1331 h_M32_1331
          have hM32_1331 : IM (b) M32_1331 := by rw [h_M32_1331]; exact hI.up (by omega) ((bm_n hk1).mpr (by first | assumption | exact ⟨by omega, by omega, by omega, by omega⟩))
          intro x33_1332 ex33_1332 rx33_1332
          have bx33_1332 : -2147483648 ≤ x33_1332 ∧ x33_1332 ≤ 2147483647 := rx33_1332
          have fx33_1332 : x33_1332 = M 1 31 := by rw [ex33_1332, h_M32_1331, up2_n (by omega)]
          intro x34_1333 ex34_1333 rx34_1333
          first | (have fx34_1333 : x34_1333 = x33_1332 + 1 := by rw [ex34_1333]; exact w32_id ⟨by omega, by omega⟩) | skip
          intro M35_1334 h_M35_1334
          have hM35_1334 : IM (b) M35_1334 := by rw [h_M35_1334]; exact hM32_1331.up (by omega) (by simp [BM])
          refine ⟨by omega, ?_⟩
          refine ⟨by omega, ?_⟩
          intro x38_1335 ex38_1335 rx38_1335
          have bx38_1335 : -2147483648 ≤ x38_1335 ∧ x38_1335 ≤ 2147483647 := rx38_1335
          have fx38_1335 : x38_1335 = M 17 p2 := by rw [ex38_1335, h_M35_1334, up2_n (by decide), h_M32_1331, up2_n (by omega)]
          intro x39_1336 ex39_1336 rx39_1336
          first | (have fx39_1336 : x39_1336 = x38_1335 + 1 := by rw [ex39_1336]; exact w32_id ⟨by omega, by omega⟩) | skip
          intro M40_1337 h_M40_1337
          have hM40_1337 : IM (b) M40_1337 := by rw [h_M40_1337]; exact hM35_1334.up (by omega) (by simp [BM])
          unfold qX12_mournerGoes_J105
          refine ⟨(by first | assumption | exact ⟨by omega, by omega⟩), ?_⟩
          refine ⟨fun c => ?_, fun c => ?_⟩
          · exact hQ _ (hM40_1337.mono (by omega))
          · refine ⟨by omega, ?_⟩
            refine ⟨by omega, ?_⟩
            intro x14_1340 ex14_1340 rx14_1340
            have rbx14_1340 : -2147483648 ≤ x14_1340 ∧ x14_1340 ≤ 2147483647 := rx14_1340
            have nbx14_1340 : BN (b) x8_1278 x14_1340 := by rw [ex14_1340]; exact (bm_n hk1).mp (hM40_1337.bx _ _)
            first | (have bx14_1340 : -1 ≤ x14_1340 ∧ x14_1340 ≤ 29 := nbx14_1340.1 ⟨by omega, by omega⟩) | (have bx14_1340 : -1 ≤ x14_1340 ∧ x14_1340 ≤ 29 := nbx14_1340.2.1 ⟨by omega, by omega⟩) | skip
            have fx14_1340 : x14_1340 = M32_1331 k1 x8_1278 := by rw [ex14_1340, h_M40_1337, up2_n (by omega), h_M35_1334, up2_n (by omega)]
            refine ⟨(by first | assumption | exact ⟨by omega, by omega⟩), ?_⟩
            refine ⟨fun c => ?_, fun c => ?_⟩
            · intro x17_1342 ex17_1342 rx17_1342
              have rbx17_1342 : -2147483648 ≤ x17_1342 ∧ x17_1342 ≤ 2147483647 := rx17_1342
              have nbx17_1342 : BN (b) x8_1278 x17_1342 := by rw [ex17_1342]; exact (bm_n hk1).mp (hM40_1337.bx _ _)
              first | (have bx17_1342 : -1 ≤ x17_1342 ∧ x17_1342 ≤ 29 := nbx17_1342.1 ⟨by omega, by omega⟩) | (have bx17_1342 : -1 ≤ x17_1342 ∧ x17_1342 ≤ 29 := nbx17_1342.2.1 ⟨by omega, by omega⟩) | skip
              have fx17_1342 : x17_1342 = M32_1331 k1 x8_1278 := by rw [ex17_1342, h_M40_1337, up2_n (by omega), h_M35_1334, up2_n (by omega)]
              refine ⟨(by first | assumption | exact ⟨by omega, by omega⟩), ?_⟩
              intro x19_1343 ex19_1343 rx19_1343
              unfold qX12_mournerGoes_J145
              refine ⟨by omega, ?_⟩
              refine ⟨by omega, ?_⟩
              refine ⟨(by first | assumption | exact ⟨by omega, by omega⟩), ?_⟩
              intro M23_1344 h_M23_1344
              have hM23_1344 : IM (b) M23_1344 := by rw [h_M23_1344]; exact hM40_1337.up (by omega) ((bm_n hk1).mpr (by first | assumption | exact ⟨by omega, by omega, by omega, by omega⟩))
              exact hQ _ (hM23_1344.mono (by omega))
            · intro x24_1346 ex24_1346 rx24_1346
              have rbx24_1346 : -2147483648 ≤ x24_1346 ∧ x24_1346 ≤ 2147483647 := rx24_1346
              have nbx24_1346 : BN (b) x8_1278 x24_1346 := by rw [ex24_1346]; exact (bm_n hk1).mp (hM40_1337.bx _ _)
              first | (have bx24_1346 : -1 ≤ x24_1346 ∧ x24_1346 ≤ 29 := nbx24_1346.1 ⟨by omega, by omega⟩) | (have bx24_1346 : -1 ≤ x24_1346 ∧ x24_1346 ≤ 29 := nbx24_1346.2.1 ⟨by omega, by omega⟩) | skip
              have fx24_1346 : x24_1346 = M32_1331 k1 x8_1278 := by rw [ex24_1346, h_M40_1337, up2_n (by omega), h_M35_1334, up2_n (by omega)]
              refine ⟨(by first | assumption | exact ⟨by omega, by omega⟩), ?_⟩
              intro x26_1347 ex26_1347 rx26_1347
              unfold qX12_mournerGoes_J145
              refine ⟨by omega, ?_⟩
              refine ⟨by omega, ?_⟩
              refine ⟨(by first | assumption | exact ⟨by omega, by omega⟩), ?_⟩
              intro M23_1348 h_M23_1348
              have hM23_1348 : IM (b) M23_1348 := by rw [h_M23_1348]; exact hM40_1337.up (by omega) ((bm_n hk1).mpr (by first | assumption | exact ⟨by omega, by omega, by omega, by omega⟩))
              exact hQ _ (hM23_1348.mono (by omega))
  · refine sX12_isOn (p1 := x3_1275) hI hk1 (by omega) ?_
    intro x54_1350 p1351 q1352 q1353
    refine ⟨fun c => ?_, fun c => ?_⟩
    · unfold qX12_mournerGoes_J27
      refine ⟨by omega, ?_⟩
      refine ⟨by omega, ?_⟩
      intro x7_1355 ex7_1355 rx7_1355
      have rbx7_1355 : -2147483648 ≤ x7_1355 ∧ x7_1355 ≤ 2147483647 := rx7_1355
      first | (have bx7_1355 : -1 ≤ x7_1355 ∧ x7_1355 ≤ 29 := by rw [ex7_1355]; exact ((bm_n hk1).mp (hI.bx _ _)).2.1 ⟨by omega, by omega⟩) | skip
      refine sX12_nearest (p2 := x7_1355) hI hk1 (by omega) ?_
      intro x8_1356 p1357 q1358
      refine ⟨fun c => ?_, fun c => ?_⟩
      · unfold qX12_mournerGoes_J105
        refine ⟨(by first | assumption | exact ⟨by omega, by omega⟩), ?_⟩
        refine ⟨fun c => ?_, fun c => ?_⟩
        · exact hQ _ (hI.mono (by omega))
        · refine ⟨by omega, ?_⟩
          refine ⟨by omega, ?_⟩
          intro x14_1362 ex14_1362 rx14_1362
          have rbx14_1362 : -2147483648 ≤ x14_1362 ∧ x14_1362 ≤ 2147483647 := rx14_1362
          have nbx14_1362 : BN (b) x3_1275 x14_1362 := by rw [ex14_1362]; exact (bm_n hk1).mp (hI.bx _ _)
          first | (have bx14_1362 : -1 ≤ x14_1362 ∧ x14_1362 ≤ 29 := nbx14_1362.1 ⟨by omega, by omega⟩) | (have bx14_1362 : -1 ≤ x14_1362 ∧ x14_1362 ≤ 29 := nbx14_1362.2.1 ⟨by omega, by omega⟩) | skip
          have cgx14_1362 : x14_1362 = M k1 (M k1 (21 + p2)) := by rw [ex14_1362, ← ex3_1275]
          refine ⟨(by first | assumption | exact ⟨by omega, by omega⟩), ?_⟩
          refine ⟨fun c => ?_, fun c => ?_⟩
          · intro x17_1364 ex17_1364 rx17_1364
            have rbx17_1364 : -2147483648 ≤ x17_1364 ∧ x17_1364 ≤ 2147483647 := rx17_1364
            have nbx17_1364 : BN (b) x3_1275 x17_1364 := by rw [ex17_1364]; exact (bm_n hk1).mp (hI.bx _ _)
            first | (have bx17_1364 : -1 ≤ x17_1364 ∧ x17_1364 ≤ 29 := nbx17_1364.1 ⟨by omega, by omega⟩) | (have bx17_1364 : -1 ≤ x17_1364 ∧ x17_1364 ≤ 29 := nbx17_1364.2.1 ⟨by omega, by omega⟩) | skip
            have cgx17_1364 : x17_1364 = M k1 (M k1 (21 + p2)) := by rw [ex17_1364, ← ex3_1275]
            refine ⟨(by first | assumption | exact ⟨by omega, by omega⟩), ?_⟩
            intro x19_1365 ex19_1365 rx19_1365
            unfold qX12_mournerGoes_J145
            refine ⟨by omega, ?_⟩
            refine ⟨by omega, ?_⟩
            refine ⟨(by first | assumption | exact ⟨by omega, by omega⟩), ?_⟩
            intro M23_1366 h_M23_1366
            have hM23_1366 : IM (b) M23_1366 := by rw [h_M23_1366]; exact hI.up (by omega) ((bm_n hk1).mpr (by first | assumption | exact ⟨by omega, by omega, by omega, by omega⟩))
            exact hQ _ (hM23_1366.mono (by omega))
          · intro x24_1368 ex24_1368 rx24_1368
            have rbx24_1368 : -2147483648 ≤ x24_1368 ∧ x24_1368 ≤ 2147483647 := rx24_1368
            have nbx24_1368 : BN (b) x3_1275 x24_1368 := by rw [ex24_1368]; exact (bm_n hk1).mp (hI.bx _ _)
            first | (have bx24_1368 : -1 ≤ x24_1368 ∧ x24_1368 ≤ 29 := nbx24_1368.1 ⟨by omega, by omega⟩) | (have bx24_1368 : -1 ≤ x24_1368 ∧ x24_1368 ≤ 29 := nbx24_1368.2.1 ⟨by omega, by omega⟩) | skip
            have cgx24_1368 : x24_1368 = M k1 (M k1 (21 + p2)) := by rw [ex24_1368, ← ex3_1275]
            refine ⟨(by first | assumption | exact ⟨by omega, by omega⟩), ?_⟩
            intro x26_1369 ex26_1369 rx26_1369
            unfold qX12_mournerGoes_J145
            refine ⟨by omega, ?_⟩
            refine ⟨by omega, ?_⟩
            refine ⟨(by first | assumption | exact ⟨by omega, by omega⟩), ?_⟩
            intro M23_1370 h_M23_1370
            have hM23_1370 : IM (b) M23_1370 := by rw [h_M23_1370]; exact hI.up (by omega) ((bm_n hk1).mpr (by first | assumption | exact ⟨by omega, by omega, by omega, by omega⟩))
            exact hQ _ (hM23_1370.mono (by omega))
      · refine ⟨(by first | assumption | exact ⟨by omega, by omega⟩), ?_⟩
        refine ⟨fun c => ?_, fun c => ?_⟩
        · unfold qX12_mournerGoes_J75
          refine ⟨by omega, ?_⟩
          refine ⟨by omega, ?_⟩
          refine ⟨(by first | assumption | exact ⟨by omega, by omega⟩), ?_⟩
          intro M32_1373 h_M32_1373
          have hM32_1373 : IM (b) M32_1373 := by rw [h_M32_1373]; exact hI.up (by omega) ((bm_n hk1).mpr (by first | assumption | exact ⟨by omega, by omega, by omega, by omega⟩))
          intro x33_1374 ex33_1374 rx33_1374
          have bx33_1374 : -2147483648 ≤ x33_1374 ∧ x33_1374 ≤ 2147483647 := rx33_1374
          have fx33_1374 : x33_1374 = M 1 31 := by rw [ex33_1374, h_M32_1373, up2_n (by omega)]
          intro x34_1375 ex34_1375 rx34_1375
          first | (have fx34_1375 : x34_1375 = x33_1374 + 1 := by rw [ex34_1375]; exact w32_id ⟨by omega, by omega⟩) | skip
          intro M35_1376 h_M35_1376
          have hM35_1376 : IM (b) M35_1376 := by rw [h_M35_1376]; exact hM32_1373.up (by omega) (by simp [BM])
          refine ⟨by omega, ?_⟩
          refine ⟨by omega, ?_⟩
          intro x38_1377 ex38_1377 rx38_1377
          have bx38_1377 : -2147483648 ≤ x38_1377 ∧ x38_1377 ≤ 2147483647 := rx38_1377
          have fx38_1377 : x38_1377 = M 17 p2 := by rw [ex38_1377, h_M35_1376, up2_n (by decide), h_M32_1373, up2_n (by omega)]
          intro x39_1378 ex39_1378 rx39_1378
          first | (have fx39_1378 : x39_1378 = x38_1377 + 1 := by rw [ex39_1378]; exact w32_id ⟨by omega, by omega⟩) | skip
          intro M40_1379 h_M40_1379
          have hM40_1379 : IM (b) M40_1379 := by rw [h_M40_1379]; exact hM35_1376.up (by omega) (by simp [BM])
          unfold qX12_mournerGoes_J105
          refine ⟨(by first | assumption | exact ⟨by omega, by omega⟩), ?_⟩
          refine ⟨fun c => ?_, fun c => ?_⟩
          · exact hQ _ (hM40_1379.mono (by omega))
          · refine ⟨by omega, ?_⟩
            refine ⟨by omega, ?_⟩
            intro x14_1382 ex14_1382 rx14_1382
            have rbx14_1382 : -2147483648 ≤ x14_1382 ∧ x14_1382 ≤ 2147483647 := rx14_1382
            have nbx14_1382 : BN (b) x8_1356 x14_1382 := by rw [ex14_1382]; exact (bm_n hk1).mp (hM40_1379.bx _ _)
            first | (have bx14_1382 : -1 ≤ x14_1382 ∧ x14_1382 ≤ 29 := nbx14_1382.1 ⟨by omega, by omega⟩) | (have bx14_1382 : -1 ≤ x14_1382 ∧ x14_1382 ≤ 29 := nbx14_1382.2.1 ⟨by omega, by omega⟩) | skip
            have fx14_1382 : x14_1382 = M32_1373 k1 x8_1356 := by rw [ex14_1382, h_M40_1379, up2_n (by omega), h_M35_1376, up2_n (by omega)]
            refine ⟨(by first | assumption | exact ⟨by omega, by omega⟩), ?_⟩
            refine ⟨fun c => ?_, fun c => ?_⟩
            · intro x17_1384 ex17_1384 rx17_1384
              have rbx17_1384 : -2147483648 ≤ x17_1384 ∧ x17_1384 ≤ 2147483647 := rx17_1384
              have nbx17_1384 : BN (b) x8_1356 x17_1384 := by rw [ex17_1384]; exact (bm_n hk1).mp (hM40_1379.bx _ _)
              first | (have bx17_1384 : -1 ≤ x17_1384 ∧ x17_1384 ≤ 29 := nbx17_1384.1 ⟨by omega, by omega⟩) | (have bx17_1384 : -1 ≤ x17_1384 ∧ x17_1384 ≤ 29 := nbx17_1384.2.1 ⟨by omega, by omega⟩) | skip
              have fx17_1384 : x17_1384 = M32_1373 k1 x8_1356 := by rw [ex17_1384, h_M40_1379, up2_n (by omega), h_M35_1376, up2_n (by omega)]
              refine ⟨(by first | assumption | exact ⟨by omega, by omega⟩), ?_⟩
              intro x19_1385 ex19_1385 rx19_1385
              unfold qX12_mournerGoes_J145
              refine ⟨by omega, ?_⟩
              refine ⟨by omega, ?_⟩
              refine ⟨(by first | assumption | exact ⟨by omega, by omega⟩), ?_⟩
              intro M23_1386 h_M23_1386
              have hM23_1386 : IM (b) M23_1386 := by rw [h_M23_1386]; exact hM40_1379.up (by omega) ((bm_n hk1).mpr (by first | assumption | exact ⟨by omega, by omega, by omega, by omega⟩))
              exact hQ _ (hM23_1386.mono (by omega))
            · intro x24_1388 ex24_1388 rx24_1388
              have rbx24_1388 : -2147483648 ≤ x24_1388 ∧ x24_1388 ≤ 2147483647 := rx24_1388
              have nbx24_1388 : BN (b) x8_1356 x24_1388 := by rw [ex24_1388]; exact (bm_n hk1).mp (hM40_1379.bx _ _)
              first | (have bx24_1388 : -1 ≤ x24_1388 ∧ x24_1388 ≤ 29 := nbx24_1388.1 ⟨by omega, by omega⟩) | (have bx24_1388 : -1 ≤ x24_1388 ∧ x24_1388 ≤ 29 := nbx24_1388.2.1 ⟨by omega, by omega⟩) | skip
              have fx24_1388 : x24_1388 = M32_1373 k1 x8_1356 := by rw [ex24_1388, h_M40_1379, up2_n (by omega), h_M35_1376, up2_n (by omega)]
              refine ⟨(by first | assumption | exact ⟨by omega, by omega⟩), ?_⟩
              intro x26_1389 ex26_1389 rx26_1389
              unfold qX12_mournerGoes_J145
              refine ⟨by omega, ?_⟩
              refine ⟨by omega, ?_⟩
              refine ⟨(by first | assumption | exact ⟨by omega, by omega⟩), ?_⟩
              intro M23_1390 h_M23_1390
              have hM23_1390 : IM (b) M23_1390 := by rw [h_M23_1390]; exact hM40_1379.up (by omega) ((bm_n hk1).mpr (by first | assumption | exact ⟨by omega, by omega, by omega, by omega⟩))
              exact hQ _ (hM23_1390.mono (by omega))
        · refine ⟨by omega, ?_⟩
          refine ⟨by omega, ?_⟩
          intro x43_1392 ex43_1392 rx43_1392
          have rbx43_1392 : -2147483648 ≤ x43_1392 ∧ x43_1392 ≤ 2147483647 := rx43_1392
          have nbx43_1392 : BN (b) x8_1356 x43_1392 := by rw [ex43_1392]; exact (bm_n hk1).mp (hI.bx _ _)
          first | (have bx43_1392 : -1 ≤ x43_1392 ∧ x43_1392 ≤ 29 := nbx43_1392.1 ⟨by omega, by omega⟩) | (have bx43_1392 : -1 ≤ x43_1392 ∧ x43_1392 ≤ 29 := nbx43_1392.2.1 ⟨by omega, by omega⟩) | skip
          refine ⟨(by first | assumption | exact ⟨by omega, by omega⟩), ?_⟩
          intro x45_1393 px45_1393 nx45_1393
          have bx45_1393 : 0 ≤ x45_1393 ∧ (x43_1392 - x7_1355 = x45_1393 ∨ x43_1392 - x7_1355 = -x45_1393) := by omega
          refine ⟨by omega, ?_⟩
          refine ⟨by omega, ?_⟩
          intro x48_1394 ex48_1394 rx48_1394
          have rbx48_1394 : -2147483648 ≤ x48_1394 ∧ x48_1394 ≤ 2147483647 := rx48_1394
          have nbx48_1394 : BN (b) x3_1275 x48_1394 := by rw [ex48_1394]; exact (bm_n hk1).mp (hI.bx _ _)
          first | (have bx48_1394 : -1 ≤ x48_1394 ∧ x48_1394 ≤ 29 := nbx48_1394.1 ⟨by omega, by omega⟩) | (have bx48_1394 : -1 ≤ x48_1394 ∧ x48_1394 ≤ 29 := nbx48_1394.2.1 ⟨by omega, by omega⟩) | skip
          have cgx48_1394 : x48_1394 = M k1 (M k1 (21 + p2)) := by rw [ex48_1394, ← ex3_1275]
          refine ⟨(by first | assumption | exact ⟨by omega, by omega⟩), ?_⟩
          intro x50_1395 px50_1395 nx50_1395
          have bx50_1395 : 0 ≤ x50_1395 ∧ (x48_1394 - x7_1355 = x50_1395 ∨ x48_1394 - x7_1355 = -x50_1395) := by omega
          refine ⟨(by first | assumption | exact ⟨by omega, by omega⟩), ?_⟩
          refine ⟨(by first | assumption | exact ⟨by omega, by omega⟩), ?_⟩
          refine ⟨fun c => ?_, fun c => ?_⟩
          · unfold qX12_mournerGoes_J105
            refine ⟨(by first | assumption | exact ⟨by omega, by omega⟩), ?_⟩
            refine ⟨fun c => ?_, fun c => ?_⟩
            · exact hQ _ (hI.mono (by omega))
            · refine ⟨by omega, ?_⟩
              refine ⟨by omega, ?_⟩
              intro x14_1399 ex14_1399 rx14_1399
              have rbx14_1399 : -2147483648 ≤ x14_1399 ∧ x14_1399 ≤ 2147483647 := rx14_1399
              have nbx14_1399 : BN (b) x3_1275 x14_1399 := by rw [ex14_1399]; exact (bm_n hk1).mp (hI.bx _ _)
              first | (have bx14_1399 : -1 ≤ x14_1399 ∧ x14_1399 ≤ 29 := nbx14_1399.1 ⟨by omega, by omega⟩) | (have bx14_1399 : -1 ≤ x14_1399 ∧ x14_1399 ≤ 29 := nbx14_1399.2.1 ⟨by omega, by omega⟩) | skip
              have cgx14_1399 : x14_1399 = M k1 (M k1 (21 + p2)) := by rw [ex14_1399, ← ex3_1275]
              refine ⟨(by first | assumption | exact ⟨by omega, by omega⟩), ?_⟩
              refine ⟨fun c => ?_, fun c => ?_⟩
              · intro x17_1401 ex17_1401 rx17_1401
                have rbx17_1401 : -2147483648 ≤ x17_1401 ∧ x17_1401 ≤ 2147483647 := rx17_1401
                have nbx17_1401 : BN (b) x3_1275 x17_1401 := by rw [ex17_1401]; exact (bm_n hk1).mp (hI.bx _ _)
                first | (have bx17_1401 : -1 ≤ x17_1401 ∧ x17_1401 ≤ 29 := nbx17_1401.1 ⟨by omega, by omega⟩) | (have bx17_1401 : -1 ≤ x17_1401 ∧ x17_1401 ≤ 29 := nbx17_1401.2.1 ⟨by omega, by omega⟩) | skip
                have cgx17_1401 : x17_1401 = M k1 (M k1 (21 + p2)) := by rw [ex17_1401, ← ex3_1275]
                refine ⟨(by first | assumption | exact ⟨by omega, by omega⟩), ?_⟩
                intro x19_1402 ex19_1402 rx19_1402
                unfold qX12_mournerGoes_J145
                refine ⟨by omega, ?_⟩
                refine ⟨by omega, ?_⟩
                refine ⟨(by first | assumption | exact ⟨by omega, by omega⟩), ?_⟩
                intro M23_1403 h_M23_1403
                have hM23_1403 : IM (b) M23_1403 := by rw [h_M23_1403]; exact hI.up (by omega) ((bm_n hk1).mpr (by first | assumption | exact ⟨by omega, by omega, by omega, by omega⟩))
                exact hQ _ (hM23_1403.mono (by omega))
              · intro x24_1405 ex24_1405 rx24_1405
                have rbx24_1405 : -2147483648 ≤ x24_1405 ∧ x24_1405 ≤ 2147483647 := rx24_1405
                have nbx24_1405 : BN (b) x3_1275 x24_1405 := by rw [ex24_1405]; exact (bm_n hk1).mp (hI.bx _ _)
                first | (have bx24_1405 : -1 ≤ x24_1405 ∧ x24_1405 ≤ 29 := nbx24_1405.1 ⟨by omega, by omega⟩) | (have bx24_1405 : -1 ≤ x24_1405 ∧ x24_1405 ≤ 29 := nbx24_1405.2.1 ⟨by omega, by omega⟩) | skip
                have cgx24_1405 : x24_1405 = M k1 (M k1 (21 + p2)) := by rw [ex24_1405, ← ex3_1275]
                refine ⟨(by first | assumption | exact ⟨by omega, by omega⟩), ?_⟩
                intro x26_1406 ex26_1406 rx26_1406
                unfold qX12_mournerGoes_J145
                refine ⟨by omega, ?_⟩
                refine ⟨by omega, ?_⟩
                refine ⟨(by first | assumption | exact ⟨by omega, by omega⟩), ?_⟩
                intro M23_1407 h_M23_1407
                have hM23_1407 : IM (b) M23_1407 := by rw [h_M23_1407]; exact hI.up (by omega) ((bm_n hk1).mpr (by first | assumption | exact ⟨by omega, by omega, by omega, by omega⟩))
                exact hQ _ (hM23_1407.mono (by omega))
          · unfold qX12_mournerGoes_J75
            refine ⟨by omega, ?_⟩
            refine ⟨by omega, ?_⟩
            refine ⟨(by first | assumption | exact ⟨by omega, by omega⟩), ?_⟩
            intro M32_1409 h_M32_1409
            have hM32_1409 : IM (b) M32_1409 := by rw [h_M32_1409]; exact hI.up (by omega) ((bm_n hk1).mpr (by first | assumption | exact ⟨by omega, by omega, by omega, by omega⟩))
            intro x33_1410 ex33_1410 rx33_1410
            have bx33_1410 : -2147483648 ≤ x33_1410 ∧ x33_1410 ≤ 2147483647 := rx33_1410
            have fx33_1410 : x33_1410 = M 1 31 := by rw [ex33_1410, h_M32_1409, up2_n (by omega)]
            intro x34_1411 ex34_1411 rx34_1411
            first | (have fx34_1411 : x34_1411 = x33_1410 + 1 := by rw [ex34_1411]; exact w32_id ⟨by omega, by omega⟩) | skip
            intro M35_1412 h_M35_1412
            have hM35_1412 : IM (b) M35_1412 := by rw [h_M35_1412]; exact hM32_1409.up (by omega) (by simp [BM])
            refine ⟨by omega, ?_⟩
            refine ⟨by omega, ?_⟩
            intro x38_1413 ex38_1413 rx38_1413
            have bx38_1413 : -2147483648 ≤ x38_1413 ∧ x38_1413 ≤ 2147483647 := rx38_1413
            have fx38_1413 : x38_1413 = M 17 p2 := by rw [ex38_1413, h_M35_1412, up2_n (by decide), h_M32_1409, up2_n (by omega)]
            intro x39_1414 ex39_1414 rx39_1414
            first | (have fx39_1414 : x39_1414 = x38_1413 + 1 := by rw [ex39_1414]; exact w32_id ⟨by omega, by omega⟩) | skip
            intro M40_1415 h_M40_1415
            have hM40_1415 : IM (b) M40_1415 := by rw [h_M40_1415]; exact hM35_1412.up (by omega) (by simp [BM])
            unfold qX12_mournerGoes_J105
            refine ⟨(by first | assumption | exact ⟨by omega, by omega⟩), ?_⟩
            refine ⟨fun c => ?_, fun c => ?_⟩
            · exact hQ _ (hM40_1415.mono (by omega))
            · refine ⟨by omega, ?_⟩
              refine ⟨by omega, ?_⟩
              intro x14_1418 ex14_1418 rx14_1418
              have rbx14_1418 : -2147483648 ≤ x14_1418 ∧ x14_1418 ≤ 2147483647 := rx14_1418
              have nbx14_1418 : BN (b) x8_1356 x14_1418 := by rw [ex14_1418]; exact (bm_n hk1).mp (hM40_1415.bx _ _)
              first | (have bx14_1418 : -1 ≤ x14_1418 ∧ x14_1418 ≤ 29 := nbx14_1418.1 ⟨by omega, by omega⟩) | (have bx14_1418 : -1 ≤ x14_1418 ∧ x14_1418 ≤ 29 := nbx14_1418.2.1 ⟨by omega, by omega⟩) | skip
              have fx14_1418 : x14_1418 = M32_1409 k1 x8_1356 := by rw [ex14_1418, h_M40_1415, up2_n (by omega), h_M35_1412, up2_n (by omega)]
              refine ⟨(by first | assumption | exact ⟨by omega, by omega⟩), ?_⟩
              refine ⟨fun c => ?_, fun c => ?_⟩
              · intro x17_1420 ex17_1420 rx17_1420
                have rbx17_1420 : -2147483648 ≤ x17_1420 ∧ x17_1420 ≤ 2147483647 := rx17_1420
                have nbx17_1420 : BN (b) x8_1356 x17_1420 := by rw [ex17_1420]; exact (bm_n hk1).mp (hM40_1415.bx _ _)
                first | (have bx17_1420 : -1 ≤ x17_1420 ∧ x17_1420 ≤ 29 := nbx17_1420.1 ⟨by omega, by omega⟩) | (have bx17_1420 : -1 ≤ x17_1420 ∧ x17_1420 ≤ 29 := nbx17_1420.2.1 ⟨by omega, by omega⟩) | skip
                have fx17_1420 : x17_1420 = M32_1409 k1 x8_1356 := by rw [ex17_1420, h_M40_1415, up2_n (by omega), h_M35_1412, up2_n (by omega)]
                refine ⟨(by first | assumption | exact ⟨by omega, by omega⟩), ?_⟩
                intro x19_1421 ex19_1421 rx19_1421
                unfold qX12_mournerGoes_J145
                refine ⟨by omega, ?_⟩
                refine ⟨by omega, ?_⟩
                refine ⟨(by first | assumption | exact ⟨by omega, by omega⟩), ?_⟩
                intro M23_1422 h_M23_1422
                have hM23_1422 : IM (b) M23_1422 := by rw [h_M23_1422]; exact hM40_1415.up (by omega) ((bm_n hk1).mpr (by first | assumption | exact ⟨by omega, by omega, by omega, by omega⟩))
                exact hQ _ (hM23_1422.mono (by omega))
              · intro x24_1424 ex24_1424 rx24_1424
                have rbx24_1424 : -2147483648 ≤ x24_1424 ∧ x24_1424 ≤ 2147483647 := rx24_1424
                have nbx24_1424 : BN (b) x8_1356 x24_1424 := by rw [ex24_1424]; exact (bm_n hk1).mp (hM40_1415.bx _ _)
                first | (have bx24_1424 : -1 ≤ x24_1424 ∧ x24_1424 ≤ 29 := nbx24_1424.1 ⟨by omega, by omega⟩) | (have bx24_1424 : -1 ≤ x24_1424 ∧ x24_1424 ≤ 29 := nbx24_1424.2.1 ⟨by omega, by omega⟩) | skip
                have fx24_1424 : x24_1424 = M32_1409 k1 x8_1356 := by rw [ex24_1424, h_M40_1415, up2_n (by omega), h_M35_1412, up2_n (by omega)]
                refine ⟨(by first | assumption | exact ⟨by omega, by omega⟩), ?_⟩
                intro x26_1425 ex26_1425 rx26_1425
                unfold qX12_mournerGoes_J145
                refine ⟨by omega, ?_⟩
                refine ⟨by omega, ?_⟩
                refine ⟨(by first | assumption | exact ⟨by omega, by omega⟩), ?_⟩
                intro M23_1426 h_M23_1426
                have hM23_1426 : IM (b) M23_1426 := by rw [h_M23_1426]; exact hM40_1415.up (by omega) ((bm_n hk1).mpr (by first | assumption | exact ⟨by omega, by omega, by omega, by omega⟩))
                exact hQ _ (hM23_1426.mono (by omega))
    · refine ⟨by omega, ?_⟩
      refine ⟨by omega, ?_⟩
      intro M58_1428 h_M58_1428
      have hM58_1428 : IM (b) M58_1428 := by rw [h_M58_1428]; exact hI.up (by omega) ((bm_n hk1).mpr (by first | assumption | exact ⟨by omega, by omega, by omega, by omega⟩))
      exact hQ _ (hM58_1428.mono (by omega))
theorem sX12_stepGoes {k1 : Nat} {b : Int} {M : Mem} {Q : Mem → Prop} (hI : IM b M) (hb : b + 1 ≤ 2000000000) (hk1 : isN k1) (hQ : Q M) : qX12_stepGoes k1 M Q := sorry
theorem sX12_goesOn_L12 {k1 : Nat} {p2 : Int} {X31 : Mem → Prop} {Q : Mem → Prop} {b : Int} (hb : b + 200 ≤ 2000000000) (hk1 : isN k1) (hp : p2 ≤ 200) (hQ : ∀ M' : Mem, IM (b + 200) M' → Q M') (hX31 : ∀ M' : Mem, IM (b) M' → X31 M') : ∀ (n : Nat) (v3 : Int) (M : Mem), IM (b) M → (0 ≤ v3 ∧ v3 ≤ 30) → 30 - v3 < (n : Int) → qX12_goesOn_L12 k1 p2 X31 Q n v3 M := by
  intro n
  induction n with
  | zero => intro v3 M hI hv hm; exact absurd hm (by omega)
  | succ n ih =>
    intro v3 M hI hv hm
    rw [qX12_goesOn_L12]
    have hbn := hI.nn
    have ek1 : k1 = 5 ∨ k1 = 6 := hk1
    refine ⟨(by first | assumption | exact ⟨by omega, by omega⟩), ?_⟩
    refine ⟨fun c => ?_, fun c => ?_⟩
    · exact hX31 _ (hI.mono (by omega))
    · refine ⟨by omega, ?_⟩
      refine ⟨by omega, ?_⟩
      intro M7_1431 h_M7_1431
      have hM7_1431 : IM (b) M7_1431 := by rw [h_M7_1431]; exact hI.up (by omega) (by simp [BM])
      exact ih _ _ (hM7_1431.mono (by omega)) (by omega) (by omega)
theorem sX12_goesOn_L33 {k1 : Nat} {p2 : Int} {X52 : Mem → Prop} {Q : Mem → Prop} {b : Int} (hb : b + 200 ≤ 2000000000) (hk1 : isN k1) (hp : p2 ≤ 200) (hQ : ∀ M' : Mem, IM (b + 200) M' → Q M') (hX52 : ∀ M' : Mem, IM (b) M' → X52 M') : ∀ (n : Nat) (v3 : Int) (M : Mem), IM (b) M → (0 ≤ v3 ∧ v3 ≤ 8) → 8 - v3 < (n : Int) → qX12_goesOn_L33 k1 p2 X52 Q n v3 M := by
  intro n
  induction n with
  | zero => intro v3 M hI hv hm; exact absurd hm (by omega)
  | succ n ih =>
    intro v3 M hI hv hm
    rw [qX12_goesOn_L33]
    have hbn := hI.nn
    have ek1 : k1 = 5 ∨ k1 = 6 := hk1
    refine ⟨(by first | assumption | exact ⟨by omega, by omega⟩), ?_⟩
    refine ⟨fun c => ?_, fun c => ?_⟩
    · exact hX52 _ (hI.mono (by omega))
    · refine ⟨by omega, ?_⟩
      refine ⟨by omega, ?_⟩
      intro M13_1434 h_M13_1434
      have hM13_1434 : IM (b) M13_1434 := by rw [h_M13_1434]; exact hI.up (by omega) (by simp [BM])
      exact ih _ _ (hM13_1434.mono (by omega)) (by omega) (by omega)
theorem sX12_goesOn_L54 {k1 : Nat} {p2 : Int}  {Q : Mem → Prop} {b : Int} (hb : b + 200 ≤ 2000000000) (hk1 : isN k1) (hp : p2 ≤ 200) (hQ : ∀ M' : Mem, IM (b + 200) M' → Q M') : ∀ (n : Nat) (v3 : Int) (M : Mem), IM (b + v3) M → (0 ≤ v3 ∧ v3 ≤ 200) → 200 - v3 < (n : Int) → qX12_goesOn_L54 k1 p2 Q n v3 M := by
  intro n
  induction n with
  | zero => intro v3 M hI hv hm; exact absurd hm (by omega)
  | succ n ih =>
    intro v3 M hI hv hm
    rw [qX12_goesOn_L54]
    have hbn := hI.nn
    have ek1 : k1 = 5 ∨ k1 = 6 := hk1
    refine ⟨(by first | assumption | exact ⟨by omega, by omega⟩), ?_⟩
    refine ⟨fun c => ?_, fun c => ?_⟩
    · exact hQ _ (hI.mono (by omega))
    · refine sX12_stepGoes  hI (by omega) hk1 ?_
      exact ih _ _ (hI.mono (by omega)) (by omega) (by omega)
theorem sX12_goesOn {k1 : Nat} {p2 : Int} {b : Int} {M : Mem} {Q : Mem → Prop} (hI : IM b M) (hb : b + 200 ≤ 2000000000) (hk1 : isN k1) (hp : p2 ≤ 200) (hQ : ∀ M' : Mem, IM (b + 200) M' → Q M') : qX12_goesOn k1 p2 M Q := by
  unfold qX12_goesOn
  have hbn := hI.nn
  have ek1 : k1 = 5 ∨ k1 = 6 := hk1
  intro M1_1437 h_M1_1437
  have hM1_1437 : IM (b) M1_1437 := by rw [h_M1_1437]; exact hI.up (by omega) (by simp [BM])
  intro M2_1438 h_M2_1438
  have hM2_1438 : IM (b) M2_1438 := by rw [h_M2_1438]; exact hM1_1437.up (by omega) (by simp [BM])
  refine ⟨31, ?_⟩
  refine sX12_goesOn_L12 (b := b) (p2 := p2) hb hk1 hp ?_ ?_ _ _ _ (hM2_1438.mono (by omega)) (by omega) (by omega)
  · exact hQ
  · intro M_1439 hM_1439
    refine ⟨9, ?_⟩
    refine sX12_goesOn_L33 (b := b) (p2 := p2) hb hk1 hp ?_ ?_ _ _ _ (hM_1439.mono (by omega)) (by omega) (by omega)
    · exact hQ
    · intro M_1440 hM_1440
      refine ⟨201, ?_⟩
      refine sX12_goesOn_L54 (b := b) (p2 := p2) hb hk1 hp ?_ _ _ _ (hM_1440.mono (by omega)) (by omega) (by omega)
      · exact hQ
theorem sX12_putsBy_L2   {Q : Mem → Prop} {b : Int} (hQ : ∀ M' : Mem, IM b M' → Q M') : ∀ (n : Nat) (v1 : Int) (M : Mem), IM (b) M → (0 ≤ v1 ∧ v1 ≤ 38) → 38 - v1 < (n : Int) → qX12_putsBy_L2 Q n v1 M := by
  intro n
  induction n with
  | zero => intro v1 M hI hv hm; exact absurd hm (by omega)
  | succ n ih =>
    intro v1 M hI hv hm
    rw [qX12_putsBy_L2]
    have hbn := hI.nn
    refine ⟨(by first | assumption | exact ⟨by omega, by omega⟩), ?_⟩
    refine ⟨fun c => ?_, fun c => ?_⟩
    · exact hQ _ (hI.mono (by omega))
    · intro x3_1443 ex3_1443 rx3_1443
      have bx3_1443 : 0 ≤ x3_1443 ∧ x3_1443 ≤ 15 := by rw [ex3_1443]; exact bm_c1_28.mp (hI.bx _ _)
      refine ⟨by omega, ?_⟩
      refine ⟨by omega, ?_⟩
      intro x6_1444 ex6_1444 rx6_1444
      have rbx6_1444 : -2147483648 ≤ x6_1444 ∧ x6_1444 ≤ 2147483647 := rx6_1444
      have nbx6_1444 : BN (b) v1 x6_1444 := by rw [ex6_1444]; exact (bm_n (Or.inl rfl)).mp (hI.bx _ _)
      first | (have bx6_1444 : -1 ≤ x6_1444 ∧ x6_1444 ≤ 29 := nbx6_1444.1 ⟨by omega, by omega⟩) | (have bx6_1444 : -1 ≤ x6_1444 ∧ x6_1444 ≤ 29 := nbx6_1444.2.1 ⟨by omega, by omega⟩) | skip
      refine ⟨by omega, ?_⟩
      refine ⟨by omega, ?_⟩
      intro M9_1445 h_M9_1445
      have hM9_1445 : IM (b) M9_1445 := by rw [h_M9_1445]; exact hI.up (by omega) (bm_c15.mpr (by rw [show (38 * x3_1443 + v1) % 38 = v1 from by omega]; assumption))
      exact ih _ _ (hM9_1445.mono (by omega)) (by omega) (by omega)
theorem sX12_putsBy  {b : Int} {M : Mem} {Q : Mem → Prop} (hI : IM b M) (hQ : ∀ M' : Mem, IM b M' → Q M') : qX12_putsBy M Q := by
  unfold qX12_putsBy
  have hbn := hI.nn
  refine ⟨39, ?_⟩
  refine sX12_putsBy_L2 (b := b)  ?_ _ _ _ (hI.mono (by omega)) (by omega) (by omega)
  · exact hQ
theorem sX12_steps {p1 : Int} {b : Int} {M : Mem} {Q : Int → Mem → Prop} (hI : IM b M) (hb : b + 200 ≤ 2000000000) (hQ : ∀ z : Int, ∀ M' : Mem, IM (b + 200) M' → Q z M') : qX12_steps p1 M Q := by
  unfold qX12_steps
  have hbn := hI.nn
  intro M1_1446 h_M1_1446
  have hM1_1446 : IM (b) M1_1446 := by rw [h_M1_1446]; exact hI.up (by omega) (by simp [BM])
  refine sX12_in (p0 := p1) (p2 := 0) (p4 := 60) hM1_1446  ?_
  intro x2_1447 p1448 q1449 q1450
  refine ⟨fun c => ?_, fun c => ?_⟩
  · refine sX12_putsBy  hM1_1446  ?_
    intro M4_1452 hM4_1452
    refine sX12_goesOn (p2 := p1) hM4_1452 (by omega) (Or.inl rfl) (by omega) ?_
    intro M5_1453 hM5_1453
    intro M6_1454 h_M6_1454
    have hM6_1454 : IM (b + 200) M6_1454 := by rw [h_M6_1454]; exact hM5_1453.up (by omega) (bm_c1_1.mpr ⟨by omega, by omega⟩)
    intro x7_1455 ex7_1455 rx7_1455
    have bx7_1455 : -2147483648 ≤ x7_1455 ∧ x7_1455 ≤ 2147483647 := rx7_1455
    have fx7_1455 : x7_1455 = M5_1453 1 30 := by rw [ex7_1455, h_M6_1454, up2_j (by decide)]
    have u1456 : 0 ≤ M6_1454 1 1 ∧ M6_1454 1 1 ≤ 24 := bm_c1_1.mp (hM6_1454.bx _ _)
    have t1457 : M6_1454 1 1 = 0 := by rw [h_M6_1454, up2_s]
    refine sX12_enters (p1 := x7_1455) hM6_1454 (by omega) ?_
    intro M8_1458 hM8_1458 p1459
    intro x9_1460 ex9_1460 rx9_1460
    have bx9_1460 : -2147483648 ≤ x9_1460 ∧ x9_1460 ≤ 2147483647 := rx9_1460
    have u1461 : 0 ≤ M8_1458 1 1 ∧ M8_1458 1 1 ≤ 24 := bm_c1_1.mp (hM8_1458.bx _ _)
    refine sX12_enters (p1 := x9_1460) hM8_1458 (by omega) ?_
    intro M10_1462 hM10_1462 p1463
    intro x11_1464 ex11_1464 rx11_1464
    have bx11_1464 : -2147483648 ≤ x11_1464 ∧ x11_1464 ≤ 2147483647 := rx11_1464
    refine sX12_adds (p1 := x11_1464) hM10_1462  ?_
    intro x12_1465 q1466
    exact hQ _ _ (hM10_1462.mono (by omega))
  · exact hQ _ _ (hM1_1446.mono (by omega))
theorem sX12_counted {p1 : Int} {b : Int} {M : Mem} {Q : Int → Mem → Prop} (hI : IM b M) (hQ : ∀ z : Int, Q z M) : qX12_counted p1 M Q := by
  unfold qX12_counted
  have hbn := hI.nn
  refine ⟨fun c => ?_, fun c => ?_⟩
  · unfold qX12_counted_J14
    refine sX12_adds (p1 := p1) hI  ?_
    intro x2_1469 q1470
    exact hQ _
  · refine ⟨fun c => ?_, fun c => ?_⟩
    · unfold qX12_counted_J14
      refine sX12_adds (p1 := p1) hI  ?_
      intro x2_1473 q1474
      exact hQ _
    · exact hQ _
theorem sX12_turnsOne {k1 : Nat} {p2 : Int} {b : Int} {M : Mem} {Q : Int → Mem → Prop} (hI : IM b M) (hk1 : isN k1) (hQ : ∀ z : Int, ∀ M' : Mem, IM b M' → Q z M') : qX12_turnsOne k1 p2 M Q := by
  unfold qX12_turnsOne
  have hbn := hI.nn
  have ek1 : k1 = 5 ∨ k1 = 6 := hk1
  refine sX12_isMourner (p1 := p2) hI  ?_
  intro x1_1476 p1477 q1478 q1479
  refine ⟨fun c => ?_, fun c => ?_⟩
  · refine sX12_isEnded (p1 := p2) hI hk1 (by omega) ?_
    intro x3_1481 q1482 q1483
    refine ⟨fun c => ?_, fun c => ?_⟩
    · refine ⟨by omega, ?_⟩
      refine ⟨by omega, ?_⟩
      intro x7_1485 ex7_1485 rx7_1485
      have rbx7_1485 : -2147483648 ≤ x7_1485 ∧ x7_1485 ≤ 2147483647 := rx7_1485
      first | (have bx7_1485 : -1 ≤ x7_1485 ∧ x7_1485 ≤ 5 := by rw [ex7_1485]; exact ((bm_n hk1).mp (hI.bx _ _)).2.2.1 ⟨by omega, by omega⟩) | skip
      refine ⟨by omega, ?_⟩
      refine ⟨by omega, ?_⟩
      intro x10_1486 ex10_1486 rx10_1486
      have bx10_1486 : 0 ≤ x10_1486 ∧ x10_1486 ≤ 5 := by rw [ex10_1486]; exact bm_c3.mp (hI.bx _ _)
      refine sX12_isOn (p1 := x10_1486) hI hk1 (by omega) ?_
      intro x11_1487 p1488 q1489 q1490
      refine ⟨fun c => ?_, fun c => ?_⟩
      · exact hQ _ _ (hI.mono (by omega))
      · intro x13_1493 ex13_1493 rx13_1493
        have bx13_1493 : 0 ≤ x13_1493 ∧ x13_1493 ≤ 5 := by rw [ex13_1493]; exact bm_c3.mp (hI.bx _ _)
        refine ⟨fun c => ?_, fun c => ?_⟩
        · intro x15_1495 ex15_1495 rx15_1495
          have bx15_1495 : 0 ≤ x15_1495 ∧ x15_1495 ≤ 5 := by rw [ex15_1495]; exact bm_c3.mp (hI.bx _ _)
          intro M16_1496 h_M16_1496
          have hM16_1496 : IM (b) M16_1496 := by rw [h_M16_1496]; exact hI.up (by omega) ((bm_n hk1).mpr (by first | assumption | exact ⟨by omega, by omega, by omega, by omega⟩))
          refine ⟨fun c => ?_, fun c => ?_⟩
          · exact hQ _ _ (hM16_1496.mono (by omega))
          · exact hQ _ _ (hM16_1496.mono (by omega))
        · exact hQ _ _ (hI.mono (by omega))
    · exact hQ _ _ (hI.mono (by omega))
  · exact hQ _ _ (hI.mono (by omega))
theorem sX12_turnsTo {p1 : Int} {b : Int} {M : Mem} {Q : Int → Mem → Prop} (hI : IM b M) (hQ : ∀ z : Int, ∀ M' : Mem, IM b M' → Q z M') : qX12_turnsTo p1 M Q := by
  unfold qX12_turnsTo
  have hbn := hI.nn
  intro M1_1502 h_M1_1502
  have hM1_1502 : IM (b) M1_1502 := by rw [h_M1_1502]; exact hI.up (by omega) (by simp [BM])
  refine sX12_putsBy  hM1_1502  ?_
  intro M2_1503 hM2_1503
  refine sX12_turnsOne (p2 := p1) hM2_1503 (Or.inl rfl) ?_
  intro x3_1504 M3_1505 hM3_1505 q1506
  refine sX12_counted (p1 := x3_1504) hM3_1505  ?_
  intro x4_1507 q1508
  exact hQ _ _ (hM3_1505.mono (by omega))
theorem sX12_pushesOne {k1 : Nat} {p2 : Int} {p3 : Int} {b : Int} {M : Mem} {Q : Int → Mem → Prop} (hI : IM b M) (hk1 : isN k1) (hQ : ∀ z : Int, ∀ M' : Mem, IM b M' → Q z M') : qX12_pushesOne k1 p2 p3 M Q := by
  unfold qX12_pushesOne
  have hbn := hI.nn
  have ek1 : k1 = 5 ∨ k1 = 6 := hk1
  refine sX12_isMourner (p1 := p2) hI  ?_
  intro x1_1509 p1510 q1511 q1512
  refine ⟨fun c => ?_, fun c => ?_⟩
  · exact hQ _ _ (hI.mono (by omega))
  · refine sX12_in (p0 := p3) (p2 := (-9)) (p4 := 9) hI  ?_
    intro x3_1515 p1516 q1517 q1518
    refine ⟨fun c => ?_, fun c => ?_⟩
    · exact hQ _ _ (hI.mono (by omega))
    · refine ⟨fun c => ?_, fun c => ?_⟩
      · refine sX12_isEnded (p1 := p2) hI hk1 (by omega) ?_
        intro x6_1522 q1523 q1524
        refine ⟨fun c => ?_, fun c => ?_⟩
        · refine sX12_gate  hI  ?_
          intro x8_1526 p1527 q1528
          refine ⟨by omega, ?_⟩
          refine ⟨by omega, ?_⟩
          intro x11_1529 ex11_1529 rx11_1529
          have rbx11_1529 : -2147483648 ≤ x11_1529 ∧ x11_1529 ≤ 2147483647 := rx11_1529
          first | (have bx11_1529 : -1 ≤ x11_1529 ∧ x11_1529 ≤ 29 := by rw [ex11_1529]; exact ((bm_n hk1).mp (hI.bx _ _)).2.1 ⟨by omega, by omega⟩) | skip
          refine ⟨(by first | assumption | exact ⟨by omega, by omega⟩), ?_⟩
          refine ⟨(by first | assumption | exact ⟨by omega, by omega⟩), ?_⟩
          intro x14_1530 ex14_1530 rx14_1530
          intro x15_1531 ex15_1531 rx15_1531
          intro M16_1532 h_M16_1532
          have hM16_1532 : IM (b) M16_1532 := by rw [h_M16_1532]; exact hI.up (by omega) ((bm_n hk1).mpr (by first | assumption | exact ⟨by omega, by omega, by omega, by omega⟩))
          intro x17_1533 ex17_1533 rx17_1533
          have rbx17_1533 : -2147483648 ≤ x17_1533 ∧ x17_1533 ≤ 2147483647 := rx17_1533
          first | (have bx17_1533 : -1 ≤ x17_1533 ∧ x17_1533 ≤ 29 := by rw [ex17_1533]; exact ((bm_n hk1).mp (hM16_1532.bx _ _)).2.1 ⟨by omega, by omega⟩) | skip
          have fx17_1533 : x17_1533 = x15_1531 := by rw [ex17_1533, h_M16_1532, up2_s]
          exact hQ _ _ (hM16_1532.mono (by omega))
        · exact hQ _ _ (hI.mono (by omega))
      · exact hQ _ _ (hI.mono (by omega))
