section
theorem sX12_nearest {k1 : Nat} {p2 : Int} {b : Int} {M : Mem} {Q : Int → Mem → Prop} (hI : IM b M) (hk1 : isN k1) (hp : -1 ≤ p2 ∧ p2 ≤ 29) (hQ : ∀ z : Int, (-1 ≤ z ∧ z ≤ 5 ∧ (0 ≤ z → 0 ≤ M k1 z)) → Q z M) : qX12_nearest k1 p2 M Q := by
  unfold qX12_nearest
  have hbn := hI.nn
  have ek1 : k1 = 5 ∨ k1 = 6 := hk1
  refine ⟨7, ?_⟩
  refine sX12_nearest_L5 (b := b) (p2 := p2) (M0 := M) hk1 hp ?_ _ _ _ (hI.mono (by first | exact Int.le_refl _ | omega)) (by omega) (by omega)
  · exact hQ
theorem sX12_mourner {p1 : Int} {p2 : Int} {b : Int} {M : Mem} {Q : Int → Mem → Prop} (hI : IM b M) (hQ : ∀ z : Int, ∀ M' : Mem, IM b M' → Q z M') : qX12_mourner p1 p2 M Q := by
  unfold qX12_mourner
  have hbn := hI.nn
  intro M1_761 h_M1_761
  have hM1_761 : IM (b) M1_761 := by rw [h_M1_761]; exact hI.up (by omega) (by simp [BM])
  refine sX12_isMourner (p1 := p1) hM1_761  ?_
  intro x2_762 p763 q764 q765
  refine ⟨fun c => ?_, fun c => ?_⟩
  · unfold qX12_mourner_J25
    refine sX12_refuse  hM1_761  ?_
    intro x4_767 M4_768 hM4_768 q769
    exact hQ _ _ (hM4_768.mono (by first | exact Int.le_refl _ | omega))
  · refine sX12_in (p0 := p2) (p2 := 0) (p4 := 4) hM1_761  ?_
    intro x5_771 p772 q773 q774
    refine ⟨fun c => ?_, fun c => ?_⟩
    · refine ⟨fun c => ?_, fun c => ?_, fun c => ?_, fun c => ?_, fun c => ?_⟩
      · refine ⟨by omega, ?_⟩
        refine ⟨by omega, ?_⟩
        intro x10_777 ex10_777 rx10_777
        have rbx10_777 : -2147483648 ≤ x10_777 ∧ x10_777 ≤ 2147483647 := rx10_777
        first | (have bx10_777 : -1 ≤ x10_777 ∧ x10_777 ≤ 29 := by rw [ex10_777]; exact ((bm_n (Or.inl rfl)).mp (hM1_761.bx _ _)).2.1 (by omega)) | skip
        have fx10_777 : x10_777 = M 5 (13 + p1) := by rw [ex10_777, h_M1_761, up2_n (by decide)]
        exact hQ _ _ (hM1_761.mono (by first | exact Int.le_refl _ | omega))
      · refine ⟨by omega, ?_⟩
        refine ⟨by omega, ?_⟩
        intro x13_779 ex13_779 rx13_779
        have bx13_779 : 0 ≤ x13_779 ∧ x13_779 ≤ 5 := by rw [ex13_779]; exact bm_c3.mp (hM1_761.bx _ _)
        have fx13_779 : x13_779 = M 3 p1 := by rw [ex13_779, h_M1_761, up2_n (by decide)]
        exact hQ _ _ (hM1_761.mono (by first | exact Int.le_refl _ | omega))
      · refine ⟨by omega, ?_⟩
        refine ⟨by omega, ?_⟩
        intro x16_781 ex16_781 rx16_781
        have rbx16_781 : -2147483648 ≤ x16_781 ∧ x16_781 ≤ 2147483647 := rx16_781
        first | (have bx16_781 : -1 ≤ x16_781 ∧ x16_781 ≤ 5 := by rw [ex16_781]; exact ((bm_n (Or.inl rfl)).mp (hM1_761.bx _ _)).2.2.1 (by omega)) | skip
        have fx16_781 : x16_781 = M 5 (21 + p1) := by rw [ex16_781, h_M1_761, up2_n (by decide)]
        exact hQ _ _ (hM1_761.mono (by first | exact Int.le_refl _ | omega))
      · refine ⟨by omega, ?_⟩
        refine ⟨by omega, ?_⟩
        intro x19_783 ex19_783 rx19_783
        have bx19_783 : -2147483648 ≤ x19_783 ∧ x19_783 ≤ 2147483647 := rx19_783
        have fx19_783 : x19_783 = M 5 (29 + p1) := by rw [ex19_783, h_M1_761, up2_n (by decide)]
        exact hQ _ _ (hM1_761.mono (by first | exact Int.le_refl _ | omega))
      · refine ⟨by omega, ?_⟩
        refine ⟨by omega, ?_⟩
        intro x22_785 ex22_785 rx22_785
        have rbx22_785 : -2147483648 ≤ x22_785 ∧ x22_785 ≤ 2147483647 := rx22_785
        first | (have bx22_785 : -1 ≤ x22_785 ∧ x22_785 ≤ 29 := by rw [ex22_785]; exact ((bm_n (Or.inl rfl)).mp (hM1_761.bx _ _)).2.1 (by omega)) | skip
        have fx22_785 : x22_785 = M 5 (13 + p1) := by rw [ex22_785, h_M1_761, up2_n (by decide)]
        refine sX12_nearest (p2 := x22_785) hM1_761 (Or.inl rfl) (by omega) ?_
        intro x23_786 p787 q788
        exact hQ _ _ (hM1_761.mono (by first | exact Int.le_refl _ | omega))
    · unfold qX12_mourner_J25
      refine sX12_refuse  hM1_761  ?_
      intro x4_790 M4_791 hM4_791 q792
      exact hQ _ _ (hM4_791.mono (by first | exact Int.le_refl _ | omega))
theorem sX12_isEnded {k0 : Nat} {p1 : Int} {b : Int} {M : Mem} {Q : Int → Mem → Prop} (hI : IM b M) (hk0 : isN k0) (hp : 0 ≤ p1 ∧ p1 ≤ 7) (hQ : ∀ z : Int, Q z M) : qX12_isEnded k0 p1 M Q := by
  unfold qX12_isEnded
  have hbn := hI.nn
  have ek0 : k0 = 5 ∨ k0 = 6 := hk0
  refine ⟨by omega, ?_⟩
  refine ⟨by omega, ?_⟩
  intro x3_793 ex3_793 rx3_793
  have bx3_793 : -2147483648 ≤ x3_793 ∧ x3_793 ≤ 2147483647 := rx3_793
  refine ⟨fun c => ?_, fun c => ?_⟩
  · exact hQ _
  · exact hQ _
theorem sX12_sheet_L46 {p1 : Int} {p2 : Int} {p3 : Int} {p4 : Int} {X177 : Int → Mem → Prop} {Q : Int → Mem → Prop} {b : Int} (hp : -2147483648 ≤ p3 ∧ p3 ≤ 2147483647) (hQ : ∀ z : Int, ∀ M' : Mem, IM b M' → Q z M') (hX177 : ∀ w1 : Int, ∀ M' : Mem, IM (b) M' → iR w1 → X177 w1 M') : ∀ (n : Nat) (v5 v6 v7 : Int) (M : Mem), IM (b) M → (0 ≤ v7 ∧ v7 ≤ 8) → iR v5 → iR v6 → 8 - v7 < (n : Int) → qX12_sheet_L46 p1 p2 p3 p4 X177 Q n v5 v6 v7 M := by
  intro n
  induction n with
  | zero => intro v5 v6 v7 M hI hv hrv5 hrv6 hm; exact absurd hm (by omega)
  | succ n ih =>
    intro v5 v6 v7 M hI hv hrv5 hrv6 hm
    rw [qX12_sheet_L46]
    have hbn := hI.nn
    intro x6_796 ex6_796 rx6_796
    have bx6_796 : 0 ≤ x6_796 ∧ x6_796 ≤ 8 := by rw [ex6_796]; exact bm_c1_5.mp (hI.bx _ _)
    refine ⟨(by first | assumption | exact (by omega)), ?_⟩
    refine ⟨fun c => ?_, fun c => ?_⟩
    · exact hX177 _ _ (hI.mono (by first | exact Int.le_refl _ | omega)) (by first | assumption | exact (by omega))
    · refine ⟨fun c => ?_, fun c => ?_⟩
      · refine ⟨fun c => ?_, fun c => ?_⟩
        · unfold qX12_sheet_J78
          refine ⟨fun c => ?_, fun c => ?_⟩
          · unfold qX12_sheet_J91
            unfold qX12_sheet_J110
            intro x12_802 ex12_802 rx12_802
            first | (have fx12_802 : x12_802 = 13 + v7 := by rw [ex12_802]; exact w32_id (by omega)) | skip
            refine ⟨(by first | assumption | exact (by omega)), ?_⟩
            refine sX12_isEnded (p1 := v7) hI (Or.inl rfl) (by omega) ?_
            intro x14_803 q804 q805
            refine ⟨fun c => ?_, fun c => ?_⟩
            · unfold qX12_sheet_J148
              refine ⟨by omega, ?_⟩
              refine ⟨by omega, ?_⟩
              refine ⟨(by first | assumption | exact (by omega)), ?_⟩
              intro M19_807 h_M19_807
              have hM19_807 : IM (b) M19_807 := by rw [h_M19_807]; exact hI.up (isN.nu (Or.inl rfl) _) ((bm_n (Or.inl rfl)).mpr (by first | assumption | exact ⟨by omega, by omega, by omega, by omega⟩))
              intro x20_808 ex20_808 rx20_808
              first | (have fx20_808 : x20_808 = 13 + v7 := by rw [ex20_808]; exact w32_id (by omega)) | skip
              refine ⟨by omega, ?_⟩
              refine ⟨by omega, ?_⟩
              intro x23_809 ex23_809 rx23_809
              have rbx23_809 : -2147483648 ≤ x23_809 ∧ x23_809 ≤ 2147483647 := rx23_809
              have nbx23_809 : BN (b) x20_808 x23_809 := by rw [ex23_809]; exact (bm_n (Or.inl rfl)).mp (hM19_807.bx _ _)
              first | (have bx23_809 : -1 ≤ x23_809 ∧ x23_809 ≤ 29 := nbx23_809.1 (by omega)) | (have bx23_809 : -1 ≤ x23_809 ∧ x23_809 ≤ 29 := nbx23_809.2.1 (by omega)) | skip
              intro x24_810 ex24_810 rx24_810
              first | (have fx24_810 : x24_810 = v5 + x23_809 := by rw [ex24_810]; exact w32_id (by omega)) | skip
              intro x25_811 ex25_811 rx25_811
              first | (have fx25_811 : x25_811 = v6 + p4 := by rw [ex25_811]; exact w32_id (by omega)) | skip
              exact ih _ _ _ _ (hM19_807.mono (by first | exact Int.le_refl _ | omega)) (by omega) (by first | assumption | exact (by omega)) (by first | assumption | exact (by omega)) (by omega)
            · intro x26_813 ex26_813 rx26_813
              first | (have fx26_813 : x26_813 = 13 + v7 := by rw [ex26_813]; exact w32_id (by omega)) | skip
              refine ⟨by omega, ?_⟩
              refine ⟨by omega, ?_⟩
              intro x29_814 ex29_814 rx29_814
              have rbx29_814 : -2147483648 ≤ x29_814 ∧ x29_814 ≤ 2147483647 := rx29_814
              have nbx29_814 : BN (b) x26_813 x29_814 := by rw [ex29_814]; exact (bm_n (Or.inl rfl)).mp (hI.bx _ _)
              first | (have bx29_814 : -1 ≤ x29_814 ∧ x29_814 ≤ 29 := nbx29_814.1 (by omega)) | (have bx29_814 : -1 ≤ x29_814 ∧ x29_814 ≤ 29 := nbx29_814.2.1 (by omega)) | skip
              unfold qX12_sheet_J148
              refine ⟨by omega, ?_⟩
              refine ⟨by omega, ?_⟩
              refine ⟨(by first | assumption | exact (by omega)), ?_⟩
              intro M19_815 h_M19_815
              have hM19_815 : IM (b) M19_815 := by rw [h_M19_815]; exact hI.up (isN.nu (Or.inl rfl) _) ((bm_n (Or.inl rfl)).mpr (by first | assumption | exact ⟨by omega, by omega, by omega, by omega⟩))
              intro x20_816 ex20_816 rx20_816
              first | (have fx20_816 : x20_816 = 13 + v7 := by rw [ex20_816]; exact w32_id (by omega)) | skip
              refine ⟨by omega, ?_⟩
              refine ⟨by omega, ?_⟩
              intro x23_817 ex23_817 rx23_817
              have rbx23_817 : -2147483648 ≤ x23_817 ∧ x23_817 ≤ 2147483647 := rx23_817
              have nbx23_817 : BN (b) x20_816 x23_817 := by rw [ex23_817]; exact (bm_n (Or.inl rfl)).mp (hM19_815.bx _ _)
              first | (have bx23_817 : -1 ≤ x23_817 ∧ x23_817 ≤ 29 := nbx23_817.1 (by omega)) | (have bx23_817 : -1 ≤ x23_817 ∧ x23_817 ≤ 29 := nbx23_817.2.1 (by omega)) | skip
              intro x24_818 ex24_818 rx24_818
              first | (have fx24_818 : x24_818 = v5 + x23_817 := by rw [ex24_818]; exact w32_id (by omega)) | skip
              intro x25_819 ex25_819 rx25_819
              first | (have fx25_819 : x25_819 = v6 + p4 := by rw [ex25_819]; exact w32_id (by omega)) | skip
              exact ih _ _ _ _ (hM19_815.mono (by first | exact Int.le_refl _ | omega)) (by omega) (by first | assumption | exact (by omega)) (by first | assumption | exact (by omega)) (by omega)
          · refine ⟨(by first | assumption | exact (by omega)), ?_⟩
            refine ⟨fun c => ?_, fun c => ?_⟩
            · refine sX12_gate  hI  ?_
              intro x32_822 p823 q824
              intro x33_825 ex33_825 rx33_825
              first | (have fx33_825 : x33_825 = x32_822 - 1 := by rw [ex33_825]; exact w32_id (by omega)) | skip
              refine ⟨(by first | assumption | exact (by omega)), ?_⟩
              intro x35_826 ex35_826 rx35_826
              intro x36_827 ex36_827 rx36_827
              unfold qX12_sheet_J110
              intro x12_828 ex12_828 rx12_828
              first | (have fx12_828 : x12_828 = 13 + v7 := by rw [ex12_828]; exact w32_id (by omega)) | skip
              refine ⟨(by first | assumption | exact (by omega)), ?_⟩
              refine sX12_isEnded (p1 := v7) hI (Or.inl rfl) (by omega) ?_
              intro x14_829 q830 q831
              refine ⟨fun c => ?_, fun c => ?_⟩
              · unfold qX12_sheet_J148
                refine ⟨by omega, ?_⟩
                refine ⟨by omega, ?_⟩
                refine ⟨(by first | assumption | exact (by omega)), ?_⟩
                intro M19_833 h_M19_833
                have hM19_833 : IM (b) M19_833 := by rw [h_M19_833]; exact hI.up (isN.nu (Or.inl rfl) _) ((bm_n (Or.inl rfl)).mpr (by first | assumption | exact ⟨by omega, by omega, by omega, by omega⟩))
                intro x20_834 ex20_834 rx20_834
                first | (have fx20_834 : x20_834 = 13 + v7 := by rw [ex20_834]; exact w32_id (by omega)) | skip
                refine ⟨by omega, ?_⟩
                refine ⟨by omega, ?_⟩
                intro x23_835 ex23_835 rx23_835
                have rbx23_835 : -2147483648 ≤ x23_835 ∧ x23_835 ≤ 2147483647 := rx23_835
                have nbx23_835 : BN (b) x20_834 x23_835 := by rw [ex23_835]; exact (bm_n (Or.inl rfl)).mp (hM19_833.bx _ _)
                first | (have bx23_835 : -1 ≤ x23_835 ∧ x23_835 ≤ 29 := nbx23_835.1 (by omega)) | (have bx23_835 : -1 ≤ x23_835 ∧ x23_835 ≤ 29 := nbx23_835.2.1 (by omega)) | skip
                intro x24_836 ex24_836 rx24_836
                first | (have fx24_836 : x24_836 = v5 + x23_835 := by rw [ex24_836]; exact w32_id (by omega)) | skip
                intro x25_837 ex25_837 rx25_837
                first | (have fx25_837 : x25_837 = v6 + p4 := by rw [ex25_837]; exact w32_id (by omega)) | skip
                exact ih _ _ _ _ (hM19_833.mono (by first | exact Int.le_refl _ | omega)) (by omega) (by first | assumption | exact (by omega)) (by first | assumption | exact (by omega)) (by omega)
              · intro x26_839 ex26_839 rx26_839
                first | (have fx26_839 : x26_839 = 13 + v7 := by rw [ex26_839]; exact w32_id (by omega)) | skip
                refine ⟨by omega, ?_⟩
                refine ⟨by omega, ?_⟩
                intro x29_840 ex29_840 rx29_840
                have rbx29_840 : -2147483648 ≤ x29_840 ∧ x29_840 ≤ 2147483647 := rx29_840
                have nbx29_840 : BN (b) x26_839 x29_840 := by rw [ex29_840]; exact (bm_n (Or.inl rfl)).mp (hI.bx _ _)
                first | (have bx29_840 : -1 ≤ x29_840 ∧ x29_840 ≤ 29 := nbx29_840.1 (by omega)) | (have bx29_840 : -1 ≤ x29_840 ∧ x29_840 ≤ 29 := nbx29_840.2.1 (by omega)) | skip
                unfold qX12_sheet_J148
                refine ⟨by omega, ?_⟩
                refine ⟨by omega, ?_⟩
                refine ⟨(by first | assumption | exact (by omega)), ?_⟩
                intro M19_841 h_M19_841
                have hM19_841 : IM (b) M19_841 := by rw [h_M19_841]; exact hI.up (isN.nu (Or.inl rfl) _) ((bm_n (Or.inl rfl)).mpr (by first | assumption | exact ⟨by omega, by omega, by omega, by omega⟩))
                intro x20_842 ex20_842 rx20_842
                first | (have fx20_842 : x20_842 = 13 + v7 := by rw [ex20_842]; exact w32_id (by omega)) | skip
                refine ⟨by omega, ?_⟩
                refine ⟨by omega, ?_⟩
                intro x23_843 ex23_843 rx23_843
                have rbx23_843 : -2147483648 ≤ x23_843 ∧ x23_843 ≤ 2147483647 := rx23_843
                have nbx23_843 : BN (b) x20_842 x23_843 := by rw [ex23_843]; exact (bm_n (Or.inl rfl)).mp (hM19_841.bx _ _)
                first | (have bx23_843 : -1 ≤ x23_843 ∧ x23_843 ≤ 29 := nbx23_843.1 (by omega)) | (have bx23_843 : -1 ≤ x23_843 ∧ x23_843 ≤ 29 := nbx23_843.2.1 (by omega)) | skip
                intro x24_844 ex24_844 rx24_844
                first | (have fx24_844 : x24_844 = v5 + x23_843 := by rw [ex24_844]; exact w32_id (by omega)) | skip
                intro x25_845 ex25_845 rx25_845
                first | (have fx25_845 : x25_845 = v6 + p4 := by rw [ex25_845]; exact w32_id (by omega)) | skip
                exact ih _ _ _ _ (hM19_841.mono (by first | exact Int.le_refl _ | omega)) (by omega) (by first | assumption | exact (by omega)) (by first | assumption | exact (by omega)) (by omega)
            · unfold qX12_sheet_J91
              unfold qX12_sheet_J110
              intro x12_847 ex12_847 rx12_847
              first | (have fx12_847 : x12_847 = 13 + v7 := by rw [ex12_847]; exact w32_id (by omega)) | skip
              refine ⟨(by first | assumption | exact (by omega)), ?_⟩
              refine sX12_isEnded (p1 := v7) hI (Or.inl rfl) (by omega) ?_
              intro x14_848 q849 q850
              refine ⟨fun c => ?_, fun c => ?_⟩
              · unfold qX12_sheet_J148
                refine ⟨by omega, ?_⟩
                refine ⟨by omega, ?_⟩
                refine ⟨(by first | assumption | exact (by omega)), ?_⟩
                intro M19_852 h_M19_852
                have hM19_852 : IM (b) M19_852 := by rw [h_M19_852]; exact hI.up (isN.nu (Or.inl rfl) _) ((bm_n (Or.inl rfl)).mpr (by first | assumption | exact ⟨by omega, by omega, by omega, by omega⟩))
                intro x20_853 ex20_853 rx20_853
                first | (have fx20_853 : x20_853 = 13 + v7 := by rw [ex20_853]; exact w32_id (by omega)) | skip
                refine ⟨by omega, ?_⟩
                refine ⟨by omega, ?_⟩
                intro x23_854 ex23_854 rx23_854
                have rbx23_854 : -2147483648 ≤ x23_854 ∧ x23_854 ≤ 2147483647 := rx23_854
                have nbx23_854 : BN (b) x20_853 x23_854 := by rw [ex23_854]; exact (bm_n (Or.inl rfl)).mp (hM19_852.bx _ _)
                first | (have bx23_854 : -1 ≤ x23_854 ∧ x23_854 ≤ 29 := nbx23_854.1 (by omega)) | (have bx23_854 : -1 ≤ x23_854 ∧ x23_854 ≤ 29 := nbx23_854.2.1 (by omega)) | skip
                intro x24_855 ex24_855 rx24_855
                first | (have fx24_855 : x24_855 = v5 + x23_854 := by rw [ex24_855]; exact w32_id (by omega)) | skip
                intro x25_856 ex25_856 rx25_856
                first | (have fx25_856 : x25_856 = v6 + p4 := by rw [ex25_856]; exact w32_id (by omega)) | skip
                exact ih _ _ _ _ (hM19_852.mono (by first | exact Int.le_refl _ | omega)) (by omega) (by first | assumption | exact (by omega)) (by first | assumption | exact (by omega)) (by omega)
              · intro x26_858 ex26_858 rx26_858
                first | (have fx26_858 : x26_858 = 13 + v7 := by rw [ex26_858]; exact w32_id (by omega)) | skip
                refine ⟨by omega, ?_⟩
                refine ⟨by omega, ?_⟩
                intro x29_859 ex29_859 rx29_859
                have rbx29_859 : -2147483648 ≤ x29_859 ∧ x29_859 ≤ 2147483647 := rx29_859
                have nbx29_859 : BN (b) x26_858 x29_859 := by rw [ex29_859]; exact (bm_n (Or.inl rfl)).mp (hI.bx _ _)
                first | (have bx29_859 : -1 ≤ x29_859 ∧ x29_859 ≤ 29 := nbx29_859.1 (by omega)) | (have bx29_859 : -1 ≤ x29_859 ∧ x29_859 ≤ 29 := nbx29_859.2.1 (by omega)) | skip
                unfold qX12_sheet_J148
                refine ⟨by omega, ?_⟩
                refine ⟨by omega, ?_⟩
                refine ⟨(by first | assumption | exact (by omega)), ?_⟩
                intro M19_860 h_M19_860
                have hM19_860 : IM (b) M19_860 := by rw [h_M19_860]; exact hI.up (isN.nu (Or.inl rfl) _) ((bm_n (Or.inl rfl)).mpr (by first | assumption | exact ⟨by omega, by omega, by omega, by omega⟩))
                intro x20_861 ex20_861 rx20_861
                first | (have fx20_861 : x20_861 = 13 + v7 := by rw [ex20_861]; exact w32_id (by omega)) | skip
                refine ⟨by omega, ?_⟩
                refine ⟨by omega, ?_⟩
                intro x23_862 ex23_862 rx23_862
                have rbx23_862 : -2147483648 ≤ x23_862 ∧ x23_862 ≤ 2147483647 := rx23_862
                have nbx23_862 : BN (b) x20_861 x23_862 := by rw [ex23_862]; exact (bm_n (Or.inl rfl)).mp (hM19_860.bx _ _)
                first | (have bx23_862 : -1 ≤ x23_862 ∧ x23_862 ≤ 29 := nbx23_862.1 (by omega)) | (have bx23_862 : -1 ≤ x23_862 ∧ x23_862 ≤ 29 := nbx23_862.2.1 (by omega)) | skip
                intro x24_863 ex24_863 rx24_863
                first | (have fx24_863 : x24_863 = v5 + x23_862 := by rw [ex24_863]; exact w32_id (by omega)) | skip
                intro x25_864 ex25_864 rx25_864
                first | (have fx25_864 : x25_864 = v6 + p4 := by rw [ex25_864]; exact w32_id (by omega)) | skip
                exact ih _ _ _ _ (hM19_860.mono (by first | exact Int.le_refl _ | omega)) (by omega) (by first | assumption | exact (by omega)) (by first | assumption | exact (by omega)) (by omega)
        · intro x37_866 ex37_866 rx37_866
          unfold qX12_sheet_J78
          refine ⟨fun c => ?_, fun c => ?_⟩
          · unfold qX12_sheet_J91
            unfold qX12_sheet_J110
            intro x12_868 ex12_868 rx12_868
            first | (have fx12_868 : x12_868 = 13 + v7 := by rw [ex12_868]; exact w32_id (by omega)) | skip
            refine ⟨(by first | assumption | exact (by omega)), ?_⟩
            refine sX12_isEnded (p1 := v7) hI (Or.inl rfl) (by omega) ?_
            intro x14_869 q870 q871
            refine ⟨fun c => ?_, fun c => ?_⟩
            · unfold qX12_sheet_J148
              refine ⟨by omega, ?_⟩
              refine ⟨by omega, ?_⟩
              refine ⟨(by first | assumption | exact (by omega)), ?_⟩
              intro M19_873 h_M19_873
              have hM19_873 : IM (b) M19_873 := by rw [h_M19_873]; exact hI.up (isN.nu (Or.inl rfl) _) ((bm_n (Or.inl rfl)).mpr (by first | assumption | exact ⟨by omega, by omega, by omega, by omega⟩))
              intro x20_874 ex20_874 rx20_874
              first | (have fx20_874 : x20_874 = 13 + v7 := by rw [ex20_874]; exact w32_id (by omega)) | skip
              refine ⟨by omega, ?_⟩
              refine ⟨by omega, ?_⟩
              intro x23_875 ex23_875 rx23_875
              have rbx23_875 : -2147483648 ≤ x23_875 ∧ x23_875 ≤ 2147483647 := rx23_875
              have nbx23_875 : BN (b) x20_874 x23_875 := by rw [ex23_875]; exact (bm_n (Or.inl rfl)).mp (hM19_873.bx _ _)
              first | (have bx23_875 : -1 ≤ x23_875 ∧ x23_875 ≤ 29 := nbx23_875.1 (by omega)) | (have bx23_875 : -1 ≤ x23_875 ∧ x23_875 ≤ 29 := nbx23_875.2.1 (by omega)) | skip
              intro x24_876 ex24_876 rx24_876
              first | (have fx24_876 : x24_876 = v5 + x23_875 := by rw [ex24_876]; exact w32_id (by omega)) | skip
              intro x25_877 ex25_877 rx25_877
              first | (have fx25_877 : x25_877 = v6 + p4 := by rw [ex25_877]; exact w32_id (by omega)) | skip
              exact ih _ _ _ _ (hM19_873.mono (by first | exact Int.le_refl _ | omega)) (by omega) (by first | assumption | exact (by omega)) (by first | assumption | exact (by omega)) (by omega)
            · intro x26_879 ex26_879 rx26_879
              first | (have fx26_879 : x26_879 = 13 + v7 := by rw [ex26_879]; exact w32_id (by omega)) | skip
              refine ⟨by omega, ?_⟩
              refine ⟨by omega, ?_⟩
              intro x29_880 ex29_880 rx29_880
              have rbx29_880 : -2147483648 ≤ x29_880 ∧ x29_880 ≤ 2147483647 := rx29_880
              have nbx29_880 : BN (b) x26_879 x29_880 := by rw [ex29_880]; exact (bm_n (Or.inl rfl)).mp (hI.bx _ _)
              first | (have bx29_880 : -1 ≤ x29_880 ∧ x29_880 ≤ 29 := nbx29_880.1 (by omega)) | (have bx29_880 : -1 ≤ x29_880 ∧ x29_880 ≤ 29 := nbx29_880.2.1 (by omega)) | skip
              unfold qX12_sheet_J148
              refine ⟨by omega, ?_⟩
              refine ⟨by omega, ?_⟩
              refine ⟨(by first | assumption | exact (by omega)), ?_⟩
              intro M19_881 h_M19_881
              have hM19_881 : IM (b) M19_881 := by rw [h_M19_881]; exact hI.up (isN.nu (Or.inl rfl) _) ((bm_n (Or.inl rfl)).mpr (by first | assumption | exact ⟨by omega, by omega, by omega, by omega⟩))
              intro x20_882 ex20_882 rx20_882
              first | (have fx20_882 : x20_882 = 13 + v7 := by rw [ex20_882]; exact w32_id (by omega)) | skip
              refine ⟨by omega, ?_⟩
              refine ⟨by omega, ?_⟩
              intro x23_883 ex23_883 rx23_883
              have rbx23_883 : -2147483648 ≤ x23_883 ∧ x23_883 ≤ 2147483647 := rx23_883
              have nbx23_883 : BN (b) x20_882 x23_883 := by rw [ex23_883]; exact (bm_n (Or.inl rfl)).mp (hM19_881.bx _ _)
              first | (have bx23_883 : -1 ≤ x23_883 ∧ x23_883 ≤ 29 := nbx23_883.1 (by omega)) | (have bx23_883 : -1 ≤ x23_883 ∧ x23_883 ≤ 29 := nbx23_883.2.1 (by omega)) | skip
              intro x24_884 ex24_884 rx24_884
              first | (have fx24_884 : x24_884 = v5 + x23_883 := by rw [ex24_884]; exact w32_id (by omega)) | skip
              intro x25_885 ex25_885 rx25_885
              first | (have fx25_885 : x25_885 = v6 + p4 := by rw [ex25_885]; exact w32_id (by omega)) | skip
              exact ih _ _ _ _ (hM19_881.mono (by first | exact Int.le_refl _ | omega)) (by omega) (by first | assumption | exact (by omega)) (by first | assumption | exact (by omega)) (by omega)
          · refine ⟨(by first | assumption | exact (by omega)), ?_⟩
            refine ⟨fun c => ?_, fun c => ?_⟩
            · refine sX12_gate  hI  ?_
              intro x32_888 p889 q890
              intro x33_891 ex33_891 rx33_891
              first | (have fx33_891 : x33_891 = x32_888 - 1 := by rw [ex33_891]; exact w32_id (by omega)) | skip
              refine ⟨(by first | assumption | exact (by omega)), ?_⟩
              intro x35_892 ex35_892 rx35_892
              intro x36_893 ex36_893 rx36_893
              unfold qX12_sheet_J110
              intro x12_894 ex12_894 rx12_894
              first | (have fx12_894 : x12_894 = 13 + v7 := by rw [ex12_894]; exact w32_id (by omega)) | skip
              refine ⟨(by first | assumption | exact (by omega)), ?_⟩
              refine sX12_isEnded (p1 := v7) hI (Or.inl rfl) (by omega) ?_
              intro x14_895 q896 q897
              refine ⟨fun c => ?_, fun c => ?_⟩
              · unfold qX12_sheet_J148
                refine ⟨by omega, ?_⟩
                refine ⟨by omega, ?_⟩
                refine ⟨(by first | assumption | exact (by omega)), ?_⟩
                intro M19_899 h_M19_899
                have hM19_899 : IM (b) M19_899 := by rw [h_M19_899]; exact hI.up (isN.nu (Or.inl rfl) _) ((bm_n (Or.inl rfl)).mpr (by first | assumption | exact ⟨by omega, by omega, by omega, by omega⟩))
                intro x20_900 ex20_900 rx20_900
                first | (have fx20_900 : x20_900 = 13 + v7 := by rw [ex20_900]; exact w32_id (by omega)) | skip
                refine ⟨by omega, ?_⟩
                refine ⟨by omega, ?_⟩
                intro x23_901 ex23_901 rx23_901
                have rbx23_901 : -2147483648 ≤ x23_901 ∧ x23_901 ≤ 2147483647 := rx23_901
                have nbx23_901 : BN (b) x20_900 x23_901 := by rw [ex23_901]; exact (bm_n (Or.inl rfl)).mp (hM19_899.bx _ _)
                first | (have bx23_901 : -1 ≤ x23_901 ∧ x23_901 ≤ 29 := nbx23_901.1 (by omega)) | (have bx23_901 : -1 ≤ x23_901 ∧ x23_901 ≤ 29 := nbx23_901.2.1 (by omega)) | skip
                intro x24_902 ex24_902 rx24_902
                first | (have fx24_902 : x24_902 = v5 + x23_901 := by rw [ex24_902]; exact w32_id (by omega)) | skip
                intro x25_903 ex25_903 rx25_903
                first | (have fx25_903 : x25_903 = v6 + p4 := by rw [ex25_903]; exact w32_id (by omega)) | skip
                exact ih _ _ _ _ (hM19_899.mono (by first | exact Int.le_refl _ | omega)) (by omega) (by first | assumption | exact (by omega)) (by first | assumption | exact (by omega)) (by omega)
              · intro x26_905 ex26_905 rx26_905
                first | (have fx26_905 : x26_905 = 13 + v7 := by rw [ex26_905]; exact w32_id (by omega)) | skip
                refine ⟨by omega, ?_⟩
                refine ⟨by omega, ?_⟩
                intro x29_906 ex29_906 rx29_906
                have rbx29_906 : -2147483648 ≤ x29_906 ∧ x29_906 ≤ 2147483647 := rx29_906
                have nbx29_906 : BN (b) x26_905 x29_906 := by rw [ex29_906]; exact (bm_n (Or.inl rfl)).mp (hI.bx _ _)
                first | (have bx29_906 : -1 ≤ x29_906 ∧ x29_906 ≤ 29 := nbx29_906.1 (by omega)) | (have bx29_906 : -1 ≤ x29_906 ∧ x29_906 ≤ 29 := nbx29_906.2.1 (by omega)) | skip
                unfold qX12_sheet_J148
                refine ⟨by omega, ?_⟩
                refine ⟨by omega, ?_⟩
                refine ⟨(by first | assumption | exact (by omega)), ?_⟩
                intro M19_907 h_M19_907
                have hM19_907 : IM (b) M19_907 := by rw [h_M19_907]; exact hI.up (isN.nu (Or.inl rfl) _) ((bm_n (Or.inl rfl)).mpr (by first | assumption | exact ⟨by omega, by omega, by omega, by omega⟩))
                intro x20_908 ex20_908 rx20_908
                first | (have fx20_908 : x20_908 = 13 + v7 := by rw [ex20_908]; exact w32_id (by omega)) | skip
                refine ⟨by omega, ?_⟩
                refine ⟨by omega, ?_⟩
                intro x23_909 ex23_909 rx23_909
                have rbx23_909 : -2147483648 ≤ x23_909 ∧ x23_909 ≤ 2147483647 := rx23_909
                have nbx23_909 : BN (b) x20_908 x23_909 := by rw [ex23_909]; exact (bm_n (Or.inl rfl)).mp (hM19_907.bx _ _)
                first | (have bx23_909 : -1 ≤ x23_909 ∧ x23_909 ≤ 29 := nbx23_909.1 (by omega)) | (have bx23_909 : -1 ≤ x23_909 ∧ x23_909 ≤ 29 := nbx23_909.2.1 (by omega)) | skip
                intro x24_910 ex24_910 rx24_910
                first | (have fx24_910 : x24_910 = v5 + x23_909 := by rw [ex24_910]; exact w32_id (by omega)) | skip
                intro x25_911 ex25_911 rx25_911
                first | (have fx25_911 : x25_911 = v6 + p4 := by rw [ex25_911]; exact w32_id (by omega)) | skip
                exact ih _ _ _ _ (hM19_907.mono (by first | exact Int.le_refl _ | omega)) (by omega) (by first | assumption | exact (by omega)) (by first | assumption | exact (by omega)) (by omega)
            · unfold qX12_sheet_J91
              unfold qX12_sheet_J110
              intro x12_913 ex12_913 rx12_913
              first | (have fx12_913 : x12_913 = 13 + v7 := by rw [ex12_913]; exact w32_id (by omega)) | skip
              refine ⟨(by first | assumption | exact (by omega)), ?_⟩
              refine sX12_isEnded (p1 := v7) hI (Or.inl rfl) (by omega) ?_
              intro x14_914 q915 q916
              refine ⟨fun c => ?_, fun c => ?_⟩
              · unfold qX12_sheet_J148
                refine ⟨by omega, ?_⟩
                refine ⟨by omega, ?_⟩
                refine ⟨(by first | assumption | exact (by omega)), ?_⟩
                intro M19_918 h_M19_918
                have hM19_918 : IM (b) M19_918 := by rw [h_M19_918]; exact hI.up (isN.nu (Or.inl rfl) _) ((bm_n (Or.inl rfl)).mpr (by first | assumption | exact ⟨by omega, by omega, by omega, by omega⟩))
                intro x20_919 ex20_919 rx20_919
                first | (have fx20_919 : x20_919 = 13 + v7 := by rw [ex20_919]; exact w32_id (by omega)) | skip
                refine ⟨by omega, ?_⟩
                refine ⟨by omega, ?_⟩
                intro x23_920 ex23_920 rx23_920
                have rbx23_920 : -2147483648 ≤ x23_920 ∧ x23_920 ≤ 2147483647 := rx23_920
                have nbx23_920 : BN (b) x20_919 x23_920 := by rw [ex23_920]; exact (bm_n (Or.inl rfl)).mp (hM19_918.bx _ _)
                first | (have bx23_920 : -1 ≤ x23_920 ∧ x23_920 ≤ 29 := nbx23_920.1 (by omega)) | (have bx23_920 : -1 ≤ x23_920 ∧ x23_920 ≤ 29 := nbx23_920.2.1 (by omega)) | skip
                intro x24_921 ex24_921 rx24_921
                first | (have fx24_921 : x24_921 = v5 + x23_920 := by rw [ex24_921]; exact w32_id (by omega)) | skip
                intro x25_922 ex25_922 rx25_922
                first | (have fx25_922 : x25_922 = v6 + p4 := by rw [ex25_922]; exact w32_id (by omega)) | skip
                exact ih _ _ _ _ (hM19_918.mono (by first | exact Int.le_refl _ | omega)) (by omega) (by first | assumption | exact (by omega)) (by first | assumption | exact (by omega)) (by omega)
              · intro x26_924 ex26_924 rx26_924
                first | (have fx26_924 : x26_924 = 13 + v7 := by rw [ex26_924]; exact w32_id (by omega)) | skip
                refine ⟨by omega, ?_⟩
                refine ⟨by omega, ?_⟩
                intro x29_925 ex29_925 rx29_925
                have rbx29_925 : -2147483648 ≤ x29_925 ∧ x29_925 ≤ 2147483647 := rx29_925
                have nbx29_925 : BN (b) x26_924 x29_925 := by rw [ex29_925]; exact (bm_n (Or.inl rfl)).mp (hI.bx _ _)
                first | (have bx29_925 : -1 ≤ x29_925 ∧ x29_925 ≤ 29 := nbx29_925.1 (by omega)) | (have bx29_925 : -1 ≤ x29_925 ∧ x29_925 ≤ 29 := nbx29_925.2.1 (by omega)) | skip
                unfold qX12_sheet_J148
                refine ⟨by omega, ?_⟩
                refine ⟨by omega, ?_⟩
                refine ⟨(by first | assumption | exact (by omega)), ?_⟩
                intro M19_926 h_M19_926
                have hM19_926 : IM (b) M19_926 := by rw [h_M19_926]; exact hI.up (isN.nu (Or.inl rfl) _) ((bm_n (Or.inl rfl)).mpr (by first | assumption | exact ⟨by omega, by omega, by omega, by omega⟩))
                intro x20_927 ex20_927 rx20_927
                first | (have fx20_927 : x20_927 = 13 + v7 := by rw [ex20_927]; exact w32_id (by omega)) | skip
                refine ⟨by omega, ?_⟩
                refine ⟨by omega, ?_⟩
                intro x23_928 ex23_928 rx23_928
                have rbx23_928 : -2147483648 ≤ x23_928 ∧ x23_928 ≤ 2147483647 := rx23_928
                have nbx23_928 : BN (b) x20_927 x23_928 := by rw [ex23_928]; exact (bm_n (Or.inl rfl)).mp (hM19_926.bx _ _)
                first | (have bx23_928 : -1 ≤ x23_928 ∧ x23_928 ≤ 29 := nbx23_928.1 (by omega)) | (have bx23_928 : -1 ≤ x23_928 ∧ x23_928 ≤ 29 := nbx23_928.2.1 (by omega)) | skip
                intro x24_929 ex24_929 rx24_929
                first | (have fx24_929 : x24_929 = v5 + x23_928 := by rw [ex24_929]; exact w32_id (by omega)) | skip
                intro x25_930 ex25_930 rx25_930
                first | (have fx25_930 : x25_930 = v6 + p4 := by rw [ex25_930]; exact w32_id (by omega)) | skip
                exact ih _ _ _ _ (hM19_926.mono (by first | exact Int.le_refl _ | omega)) (by omega) (by first | assumption | exact (by omega)) (by first | assumption | exact (by omega)) (by omega)
      · intro x38_932 ex38_932 rx38_932
        unfold qX12_sheet_J78
        refine ⟨fun c => ?_, fun c => ?_⟩
        · unfold qX12_sheet_J91
          unfold qX12_sheet_J110
          intro x12_934 ex12_934 rx12_934
          first | (have fx12_934 : x12_934 = 13 + v7 := by rw [ex12_934]; exact w32_id (by omega)) | skip
          refine ⟨(by first | assumption | exact (by omega)), ?_⟩
          refine sX12_isEnded (p1 := v7) hI (Or.inl rfl) (by omega) ?_
          intro x14_935 q936 q937
          refine ⟨fun c => ?_, fun c => ?_⟩
          · unfold qX12_sheet_J148
            refine ⟨by omega, ?_⟩
            refine ⟨by omega, ?_⟩
            refine ⟨(by first | assumption | exact (by omega)), ?_⟩
            intro M19_939 h_M19_939
            have hM19_939 : IM (b) M19_939 := by rw [h_M19_939]; exact hI.up (isN.nu (Or.inl rfl) _) ((bm_n (Or.inl rfl)).mpr (by first | assumption | exact ⟨by omega, by omega, by omega, by omega⟩))
            intro x20_940 ex20_940 rx20_940
            first | (have fx20_940 : x20_940 = 13 + v7 := by rw [ex20_940]; exact w32_id (by omega)) | skip
            refine ⟨by omega, ?_⟩
            refine ⟨by omega, ?_⟩
            intro x23_941 ex23_941 rx23_941
            have rbx23_941 : -2147483648 ≤ x23_941 ∧ x23_941 ≤ 2147483647 := rx23_941
            have nbx23_941 : BN (b) x20_940 x23_941 := by rw [ex23_941]; exact (bm_n (Or.inl rfl)).mp (hM19_939.bx _ _)
            first | (have bx23_941 : -1 ≤ x23_941 ∧ x23_941 ≤ 29 := nbx23_941.1 (by omega)) | (have bx23_941 : -1 ≤ x23_941 ∧ x23_941 ≤ 29 := nbx23_941.2.1 (by omega)) | skip
            intro x24_942 ex24_942 rx24_942
            first | (have fx24_942 : x24_942 = v5 + x23_941 := by rw [ex24_942]; exact w32_id (by omega)) | skip
            intro x25_943 ex25_943 rx25_943
            first | (have fx25_943 : x25_943 = v6 + p4 := by rw [ex25_943]; exact w32_id (by omega)) | skip
            exact ih _ _ _ _ (hM19_939.mono (by first | exact Int.le_refl _ | omega)) (by omega) (by first | assumption | exact (by omega)) (by first | assumption | exact (by omega)) (by omega)
          · intro x26_945 ex26_945 rx26_945
            first | (have fx26_945 : x26_945 = 13 + v7 := by rw [ex26_945]; exact w32_id (by omega)) | skip
            refine ⟨by omega, ?_⟩
            refine ⟨by omega, ?_⟩
            intro x29_946 ex29_946 rx29_946
            have rbx29_946 : -2147483648 ≤ x29_946 ∧ x29_946 ≤ 2147483647 := rx29_946
            have nbx29_946 : BN (b) x26_945 x29_946 := by rw [ex29_946]; exact (bm_n (Or.inl rfl)).mp (hI.bx _ _)
            first | (have bx29_946 : -1 ≤ x29_946 ∧ x29_946 ≤ 29 := nbx29_946.1 (by omega)) | (have bx29_946 : -1 ≤ x29_946 ∧ x29_946 ≤ 29 := nbx29_946.2.1 (by omega)) | skip
            unfold qX12_sheet_J148
            refine ⟨by omega, ?_⟩
            refine ⟨by omega, ?_⟩
            refine ⟨(by first | assumption | exact (by omega)), ?_⟩
            intro M19_947 h_M19_947
            have hM19_947 : IM (b) M19_947 := by rw [h_M19_947]; exact hI.up (isN.nu (Or.inl rfl) _) ((bm_n (Or.inl rfl)).mpr (by first | assumption | exact ⟨by omega, by omega, by omega, by omega⟩))
            intro x20_948 ex20_948 rx20_948
            first | (have fx20_948 : x20_948 = 13 + v7 := by rw [ex20_948]; exact w32_id (by omega)) | skip
            refine ⟨by omega, ?_⟩
            refine ⟨by omega, ?_⟩
            intro x23_949 ex23_949 rx23_949
            have rbx23_949 : -2147483648 ≤ x23_949 ∧ x23_949 ≤ 2147483647 := rx23_949
            have nbx23_949 : BN (b) x20_948 x23_949 := by rw [ex23_949]; exact (bm_n (Or.inl rfl)).mp (hM19_947.bx _ _)
            first | (have bx23_949 : -1 ≤ x23_949 ∧ x23_949 ≤ 29 := nbx23_949.1 (by omega)) | (have bx23_949 : -1 ≤ x23_949 ∧ x23_949 ≤ 29 := nbx23_949.2.1 (by omega)) | skip
            intro x24_950 ex24_950 rx24_950
            first | (have fx24_950 : x24_950 = v5 + x23_949 := by rw [ex24_950]; exact w32_id (by omega)) | skip
            intro x25_951 ex25_951 rx25_951
            first | (have fx25_951 : x25_951 = v6 + p4 := by rw [ex25_951]; exact w32_id (by omega)) | skip
            exact ih _ _ _ _ (hM19_947.mono (by first | exact Int.le_refl _ | omega)) (by omega) (by first | assumption | exact (by omega)) (by first | assumption | exact (by omega)) (by omega)
        · refine ⟨(by first | assumption | exact (by omega)), ?_⟩
          refine ⟨fun c => ?_, fun c => ?_⟩
          · refine sX12_gate  hI  ?_
            intro x32_954 p955 q956
            intro x33_957 ex33_957 rx33_957
            first | (have fx33_957 : x33_957 = x32_954 - 1 := by rw [ex33_957]; exact w32_id (by omega)) | skip
            refine ⟨(by first | assumption | exact (by omega)), ?_⟩
            intro x35_958 ex35_958 rx35_958
            intro x36_959 ex36_959 rx36_959
            unfold qX12_sheet_J110
            intro x12_960 ex12_960 rx12_960
            first | (have fx12_960 : x12_960 = 13 + v7 := by rw [ex12_960]; exact w32_id (by omega)) | skip
            refine ⟨(by first | assumption | exact (by omega)), ?_⟩
            refine sX12_isEnded (p1 := v7) hI (Or.inl rfl) (by omega) ?_
            intro x14_961 q962 q963
            refine ⟨fun c => ?_, fun c => ?_⟩
            · unfold qX12_sheet_J148
              refine ⟨by omega, ?_⟩
              refine ⟨by omega, ?_⟩
              refine ⟨(by first | assumption | exact (by omega)), ?_⟩
              intro M19_965 h_M19_965
              have hM19_965 : IM (b) M19_965 := by rw [h_M19_965]; exact hI.up (isN.nu (Or.inl rfl) _) ((bm_n (Or.inl rfl)).mpr (by first | assumption | exact ⟨by omega, by omega, by omega, by omega⟩))
              intro x20_966 ex20_966 rx20_966
              first | (have fx20_966 : x20_966 = 13 + v7 := by rw [ex20_966]; exact w32_id (by omega)) | skip
              refine ⟨by omega, ?_⟩
              refine ⟨by omega, ?_⟩
              intro x23_967 ex23_967 rx23_967
              have rbx23_967 : -2147483648 ≤ x23_967 ∧ x23_967 ≤ 2147483647 := rx23_967
              have nbx23_967 : BN (b) x20_966 x23_967 := by rw [ex23_967]; exact (bm_n (Or.inl rfl)).mp (hM19_965.bx _ _)
              first | (have bx23_967 : -1 ≤ x23_967 ∧ x23_967 ≤ 29 := nbx23_967.1 (by omega)) | (have bx23_967 : -1 ≤ x23_967 ∧ x23_967 ≤ 29 := nbx23_967.2.1 (by omega)) | skip
              intro x24_968 ex24_968 rx24_968
              first | (have fx24_968 : x24_968 = v5 + x23_967 := by rw [ex24_968]; exact w32_id (by omega)) | skip
              intro x25_969 ex25_969 rx25_969
              first | (have fx25_969 : x25_969 = v6 + p4 := by rw [ex25_969]; exact w32_id (by omega)) | skip
              exact ih _ _ _ _ (hM19_965.mono (by first | exact Int.le_refl _ | omega)) (by omega) (by first | assumption | exact (by omega)) (by first | assumption | exact (by omega)) (by omega)
            · intro x26_971 ex26_971 rx26_971
              first | (have fx26_971 : x26_971 = 13 + v7 := by rw [ex26_971]; exact w32_id (by omega)) | skip
              refine ⟨by omega, ?_⟩
              refine ⟨by omega, ?_⟩
              intro x29_972 ex29_972 rx29_972
              have rbx29_972 : -2147483648 ≤ x29_972 ∧ x29_972 ≤ 2147483647 := rx29_972
              have nbx29_972 : BN (b) x26_971 x29_972 := by rw [ex29_972]; exact (bm_n (Or.inl rfl)).mp (hI.bx _ _)
              first | (have bx29_972 : -1 ≤ x29_972 ∧ x29_972 ≤ 29 := nbx29_972.1 (by omega)) | (have bx29_972 : -1 ≤ x29_972 ∧ x29_972 ≤ 29 := nbx29_972.2.1 (by omega)) | skip
              unfold qX12_sheet_J148
              refine ⟨by omega, ?_⟩
              refine ⟨by omega, ?_⟩
              refine ⟨(by first | assumption | exact (by omega)), ?_⟩
              intro M19_973 h_M19_973
              have hM19_973 : IM (b) M19_973 := by rw [h_M19_973]; exact hI.up (isN.nu (Or.inl rfl) _) ((bm_n (Or.inl rfl)).mpr (by first | assumption | exact ⟨by omega, by omega, by omega, by omega⟩))
              intro x20_974 ex20_974 rx20_974
              first | (have fx20_974 : x20_974 = 13 + v7 := by rw [ex20_974]; exact w32_id (by omega)) | skip
              refine ⟨by omega, ?_⟩
              refine ⟨by omega, ?_⟩
              intro x23_975 ex23_975 rx23_975
              have rbx23_975 : -2147483648 ≤ x23_975 ∧ x23_975 ≤ 2147483647 := rx23_975
              have nbx23_975 : BN (b) x20_974 x23_975 := by rw [ex23_975]; exact (bm_n (Or.inl rfl)).mp (hM19_973.bx _ _)
              first | (have bx23_975 : -1 ≤ x23_975 ∧ x23_975 ≤ 29 := nbx23_975.1 (by omega)) | (have bx23_975 : -1 ≤ x23_975 ∧ x23_975 ≤ 29 := nbx23_975.2.1 (by omega)) | skip
              intro x24_976 ex24_976 rx24_976
              first | (have fx24_976 : x24_976 = v5 + x23_975 := by rw [ex24_976]; exact w32_id (by omega)) | skip
              intro x25_977 ex25_977 rx25_977
              first | (have fx25_977 : x25_977 = v6 + p4 := by rw [ex25_977]; exact w32_id (by omega)) | skip
              exact ih _ _ _ _ (hM19_973.mono (by first | exact Int.le_refl _ | omega)) (by omega) (by first | assumption | exact (by omega)) (by first | assumption | exact (by omega)) (by omega)
          · unfold qX12_sheet_J91
            unfold qX12_sheet_J110
            intro x12_979 ex12_979 rx12_979
            first | (have fx12_979 : x12_979 = 13 + v7 := by rw [ex12_979]; exact w32_id (by omega)) | skip
            refine ⟨(by first | assumption | exact (by omega)), ?_⟩
            refine sX12_isEnded (p1 := v7) hI (Or.inl rfl) (by omega) ?_
            intro x14_980 q981 q982
            refine ⟨fun c => ?_, fun c => ?_⟩
            · unfold qX12_sheet_J148
              refine ⟨by omega, ?_⟩
              refine ⟨by omega, ?_⟩
              refine ⟨(by first | assumption | exact (by omega)), ?_⟩
              intro M19_984 h_M19_984
              have hM19_984 : IM (b) M19_984 := by rw [h_M19_984]; exact hI.up (isN.nu (Or.inl rfl) _) ((bm_n (Or.inl rfl)).mpr (by first | assumption | exact ⟨by omega, by omega, by omega, by omega⟩))
              intro x20_985 ex20_985 rx20_985
              first | (have fx20_985 : x20_985 = 13 + v7 := by rw [ex20_985]; exact w32_id (by omega)) | skip
              refine ⟨by omega, ?_⟩
              refine ⟨by omega, ?_⟩
              intro x23_986 ex23_986 rx23_986
              have rbx23_986 : -2147483648 ≤ x23_986 ∧ x23_986 ≤ 2147483647 := rx23_986
              have nbx23_986 : BN (b) x20_985 x23_986 := by rw [ex23_986]; exact (bm_n (Or.inl rfl)).mp (hM19_984.bx _ _)
              first | (have bx23_986 : -1 ≤ x23_986 ∧ x23_986 ≤ 29 := nbx23_986.1 (by omega)) | (have bx23_986 : -1 ≤ x23_986 ∧ x23_986 ≤ 29 := nbx23_986.2.1 (by omega)) | skip
              intro x24_987 ex24_987 rx24_987
              first | (have fx24_987 : x24_987 = v5 + x23_986 := by rw [ex24_987]; exact w32_id (by omega)) | skip
              intro x25_988 ex25_988 rx25_988
              first | (have fx25_988 : x25_988 = v6 + p4 := by rw [ex25_988]; exact w32_id (by omega)) | skip
              exact ih _ _ _ _ (hM19_984.mono (by first | exact Int.le_refl _ | omega)) (by omega) (by first | assumption | exact (by omega)) (by first | assumption | exact (by omega)) (by omega)
            · intro x26_990 ex26_990 rx26_990
              first | (have fx26_990 : x26_990 = 13 + v7 := by rw [ex26_990]; exact w32_id (by omega)) | skip
              refine ⟨by omega, ?_⟩
              refine ⟨by omega, ?_⟩
              intro x29_991 ex29_991 rx29_991
              have rbx29_991 : -2147483648 ≤ x29_991 ∧ x29_991 ≤ 2147483647 := rx29_991
              have nbx29_991 : BN (b) x26_990 x29_991 := by rw [ex29_991]; exact (bm_n (Or.inl rfl)).mp (hI.bx _ _)
              first | (have bx29_991 : -1 ≤ x29_991 ∧ x29_991 ≤ 29 := nbx29_991.1 (by omega)) | (have bx29_991 : -1 ≤ x29_991 ∧ x29_991 ≤ 29 := nbx29_991.2.1 (by omega)) | skip
              unfold qX12_sheet_J148
              refine ⟨by omega, ?_⟩
              refine ⟨by omega, ?_⟩
              refine ⟨(by first | assumption | exact (by omega)), ?_⟩
              intro M19_992 h_M19_992
              have hM19_992 : IM (b) M19_992 := by rw [h_M19_992]; exact hI.up (isN.nu (Or.inl rfl) _) ((bm_n (Or.inl rfl)).mpr (by first | assumption | exact ⟨by omega, by omega, by omega, by omega⟩))
              intro x20_993 ex20_993 rx20_993
              first | (have fx20_993 : x20_993 = 13 + v7 := by rw [ex20_993]; exact w32_id (by omega)) | skip
              refine ⟨by omega, ?_⟩
              refine ⟨by omega, ?_⟩
              intro x23_994 ex23_994 rx23_994
              have rbx23_994 : -2147483648 ≤ x23_994 ∧ x23_994 ≤ 2147483647 := rx23_994
              have nbx23_994 : BN (b) x20_993 x23_994 := by rw [ex23_994]; exact (bm_n (Or.inl rfl)).mp (hM19_992.bx _ _)
              first | (have bx23_994 : -1 ≤ x23_994 ∧ x23_994 ≤ 29 := nbx23_994.1 (by omega)) | (have bx23_994 : -1 ≤ x23_994 ∧ x23_994 ≤ 29 := nbx23_994.2.1 (by omega)) | skip
              intro x24_995 ex24_995 rx24_995
              first | (have fx24_995 : x24_995 = v5 + x23_994 := by rw [ex24_995]; exact w32_id (by omega)) | skip
              intro x25_996 ex25_996 rx25_996
              first | (have fx25_996 : x25_996 = v6 + p4 := by rw [ex25_996]; exact w32_id (by omega)) | skip
              exact ih _ _ _ _ (hM19_992.mono (by first | exact Int.le_refl _ | omega)) (by omega) (by first | assumption | exact (by omega)) (by first | assumption | exact (by omega)) (by omega)
theorem sX12_sheet {p1 : Int} {p2 : Int} {p3 : Int} {p4 : Int} {b : Int} {M : Mem} {Q : Int → Mem → Prop} (hI : IM b M) (hp : -2147483648 ≤ p3 ∧ p3 ≤ 2147483647) (hQ : ∀ z : Int, ∀ M' : Mem, IM b M' → Q z M') : qX12_sheet p1 p2 p3 p4 M Q := by
  unfold qX12_sheet
  have hbn := hI.nn
  intro M1_997 h_M1_997
  have hM1_997 : IM (b) M1_997 := by rw [h_M1_997]; exact hI.up (by omega) (by simp [BM])
  refine sX12_in (p0 := p1) (p2 := 0) (p4 := 3) hM1_997  ?_
  intro x2_998 p999 q1000 q1001
  refine ⟨fun c => ?_, fun c => ?_⟩
  · exact hQ _ _ (hM1_997.mono (by first | exact Int.le_refl _ | omega))
  · refine ⟨fun c => ?_, fun c => ?_⟩
    · refine ⟨fun c => ?_, fun c => ?_⟩
      · unfold qX12_sheet_J37
        refine ⟨9, ?_⟩
        refine sX12_sheet_L46 (b := b) (p1 := p1) (p2 := p2) (p3 := p3) (p4 := p4) hp ?_ ?_ _ _ _ _ _ (hM1_997.mono (by first | exact Int.le_refl _ | omega)) (by omega) (by first | assumption | exact (by omega)) (by first | assumption | exact (by omega)) (by omega)
        · exact hQ
        · intro v5_1006 M_1007 hM_1007 r1008
          refine ⟨fun c => ?_, fun c => ?_⟩
          · refine ⟨(by first | assumption | exact (by omega)), ?_⟩
            exact hQ _ _ (hM_1007.mono (by first | exact Int.le_refl _ | omega))
          · exact hQ _ _ (hM_1007.mono (by first | exact Int.le_refl _ | omega))
      · refine ⟨fun c => ?_, fun c => ?_⟩
        · unfold qX12_sheet_J37
          refine ⟨9, ?_⟩
          refine sX12_sheet_L46 (b := b) (p1 := p1) (p2 := p2) (p3 := p3) (p4 := p4) hp ?_ ?_ _ _ _ _ _ (hM1_997.mono (by first | exact Int.le_refl _ | omega)) (by omega) (by first | assumption | exact (by omega)) (by first | assumption | exact (by omega)) (by omega)
          · exact hQ
          · intro v5_1013 M_1014 hM_1014 r1015
            refine ⟨fun c => ?_, fun c => ?_⟩
            · refine ⟨(by first | assumption | exact (by omega)), ?_⟩
              exact hQ _ _ (hM_1014.mono (by first | exact Int.le_refl _ | omega))
            · exact hQ _ _ (hM_1014.mono (by first | exact Int.le_refl _ | omega))
        · exact hQ _ _ (hM1_997.mono (by first | exact Int.le_refl _ | omega))
    · exact hQ _ _ (hM1_997.mono (by first | exact Int.le_refl _ | omega))
theorem sX12_undo_L26   {Q : Int → Mem → Prop} {b : Int} (hQ : ∀ z : Int, ∀ M' : Mem, IM b M' → Q z M') : ∀ (n : Nat) (v1 : Int) (M : Mem), IM (b) M → (0 ≤ v1 ∧ v1 ≤ 38) → 38 - v1 < (n : Int) → qX12_undo_L26 Q n v1 M := by
  intro n
  induction n with
  | zero => intro v1 M hI hv hm; exact absurd hm (by omega)
  | succ n ih =>
    intro v1 M hI hv hm
    rw [qX12_undo_L26]
    have hbn := hI.nn
    refine ⟨(by first | assumption | exact (by omega)), ?_⟩
    refine ⟨fun c => ?_, fun c => ?_⟩
    · intro x9_1021 ex9_1021 rx9_1021
      have bx9_1021 : 0 ≤ x9_1021 ∧ x9_1021 ≤ 15 := by rw [ex9_1021]; exact bm_c1_28.mp (hI.bx _ _)
      exact hQ _ _ (hI.mono (by first | exact Int.le_refl _ | omega))
    · intro x10_1023 ex10_1023 rx10_1023
      have bx10_1023 : 0 ≤ x10_1023 ∧ x10_1023 ≤ 15 := by rw [ex10_1023]; exact bm_c1_28.mp (hI.bx _ _)
      refine ⟨by omega, ?_⟩
      refine ⟨by omega, ?_⟩
      intro x13_1024 ex13_1024 rx13_1024
      have nbx13_1024 : BN (b) v1 x13_1024 := by rw [ex13_1024]; have q := bm_c15.mp (hI.bx 15 (38 * x10_1023 + v1)); rwa [show (38 * x10_1023 + v1) % 38 = v1 from by omega] at q
      refine ⟨by omega, ?_⟩
      refine ⟨by omega, ?_⟩
      intro M16_1025 h_M16_1025
      have hM16_1025 : IM (b) M16_1025 := by rw [h_M16_1025]; exact hI.up (isN.nu (Or.inl rfl) _) ((bm_n (Or.inl rfl)).mpr (by first | assumption | exact ⟨by omega, by omega, by omega, by omega⟩))
      exact ih _ _ (hM16_1025.mono (by first | exact Int.le_refl _ | omega)) (by omega) (by omega)
theorem sX12_undo  {b : Int} {M : Mem} {Q : Int → Mem → Prop} (hI : IM b M) (hQ : ∀ z : Int, ∀ M' : Mem, IM b M' → Q z M') : qX12_undo M Q := by
  unfold qX12_undo
  have hbn := hI.nn
  intro M1_1026 h_M1_1026
  have hM1_1026 : IM (b) M1_1026 := by rw [h_M1_1026]; exact hI.up (by omega) (by simp [BM])
  intro x2_1027 ex2_1027 rx2_1027
  have bx2_1027 : 0 ≤ x2_1027 ∧ x2_1027 ≤ 15 := by rw [ex2_1027]; exact bm_c1_28.mp (hM1_1026.bx _ _)
  have fx2_1027 : x2_1027 = M 1 28 := by rw [ex2_1027, h_M1_1026, up2_j (by decide)]
  refine ⟨fun c => ?_, fun c => ?_⟩
  · intro x4_1029 ex4_1029 rx4_1029
    have bx4_1029 : 0 ≤ x4_1029 ∧ x4_1029 ≤ 15 := by rw [ex4_1029]; exact bm_c1_28.mp (hM1_1026.bx _ _)
    have fx4_1029 : x4_1029 = M 1 28 := by rw [ex4_1029, h_M1_1026, up2_j (by decide)]
    refine ⟨(by first | assumption | exact (by omega)), ?_⟩
    intro M6_1030 h_M6_1030
    have hM6_1030 : IM (b) M6_1030 := by rw [h_M6_1030]; exact hM1_1026.up (by omega) (bm_c1_28.mpr (by omega))
    refine ⟨39, ?_⟩
    refine sX12_undo_L26 (b := b)  ?_ _ _ _ (hM6_1030.mono (by first | exact Int.le_refl _ | omega)) (by omega) (by omega)
    · exact hQ
  · exact hQ _ _ (hM1_1026.mono (by first | exact Int.le_refl _ | omega))
theorem sX12_adds_L21 {p1 b : Int} {X49 : Mem → Prop} {Q : Int → Mem → Prop} (hX : ∀ M' : Mem, IM b (up2 M' 1 28 15) → M' 1 28 = 16 → X49 M') : ∀ (n : Nat) (v2 : Int) (M : Mem), IM b (up2 M 1 28 15) → M 1 28 = 16 → (0 ≤ v2 ∧ v2 ≤ 570) → 570 - v2 < (n : Int) → qX12_adds_L21 p1 X49 Q n v2 M := by
  intro n
  induction n with
  | zero => intro v2 M hI h16 hv hm; exact absurd hm (by omega)
  | succ n ih =>
    intro v2 M hI h16 hv hm
    rw [qX12_adds_L21]
    refine ⟨(by omega), ⟨fun c => hX _ hI h16, fun c => ?_⟩⟩
    refine ⟨by omega, by omega, ?_⟩
    intro x10 e10 _
    refine ⟨by omega, by omega, ?_⟩
    intro M13 h13
    refine ih _ _ ?_ ?_ (by omega) (by omega)
    · have q : up2 M13 1 28 15 = up2 (up2 M 1 28 15) 15 v2 x10 := by
        rw [h13]
        funext k j
        simp only [up2_a]
        by_cases c1 : k = 1
        · subst c1; simp
        · simp [c1]
      rw [q]
      refine hI.up (by omega) (bm_c15.mpr ?_)
      have r := bm_c15.mp (hI.bx 15 (v2 + 38))
      rw [up2_n (by decide), ← e10, show (v2 + 38) % 38 = v2 % 38 from by omega] at r
      exact r
    · rw [h13, up2_n (by decide)]; exact h16
theorem sX12_adds {p1 : Int} {b : Int} {M : Mem} {Q : Int → Mem → Prop} (hI : IM b M) (hQ : ∀ z : Int, ∀ M' : Mem, IM b M' → Q z M') : qX12_adds p1 M Q := by
  unfold qX12_adds
  intro x1 e1 _
  have b1 : 0 ≤ x1 ∧ x1 ≤ 15 := by rw [e1]; exact bm_c1_28.mp (hI.bx _ _)
  refine ⟨(by omega), ?_⟩
  intro M3 h3 x4 e4 _
  have f4 : x4 = x1 + 1 := by rw [e4, h3, up2_s]
  refine ⟨fun c => hQ _ _ ?_, fun c => ?_⟩
  · rw [h3]; exact hI.up (by omega) (bm_c1_28.mpr (by omega))
  · refine ⟨571, sX12_adds_L21 (b := b) ?_ _ _ _ ?_ ?_ (by omega) (by omega)⟩
    · intro M' h' h16 x15 e15 _
      refine ⟨(by omega), ?_⟩
      intro M17 h17
      refine hQ _ _ ?_
      rw [h17, show x15 - 1 = 15 from by omega]
      exact h'
    · have q : up2 M3 1 28 15 = up2 M 1 28 15 := by
        rw [h3]
        funext k j
        simp only [up2_a]
        by_cases c1 : k = 1
        · subst c1; by_cases c2 : j = 28 <;> simp [c2]
        · simp [c1]
      rw [q]
      exact hI.up (by omega) (bm_c1_28.mpr (by omega))
    · rw [h3, up2_s]; omega
theorem sX12_enters {p1 : Int} {b : Int} {M : Mem} {Q : Mem → Prop} (hI : IM b M) (hp : M 1 1 ≤ 23) (hQ : ∀ M' : Mem, IM b M' → (M' 1 1 = M 1 1 + 1) → Q M') : qX12_enters p1 M Q := by
  unfold qX12_enters
  have hbn := hI.nn
  have u1032 : 0 ≤ M 1 1 ∧ M 1 1 ≤ 24 := bm_c1_1.mp (hI.bx _ _)
  intro x1_1033 ex1_1033 rx1_1033
  have bx1_1033 : 0 ≤ x1_1033 ∧ x1_1033 ≤ 24 := by rw [ex1_1033]; exact bm_c1_1.mp (hI.bx _ _)
  refine ⟨by omega, ?_⟩
  refine ⟨by omega, ?_⟩
  intro M4_1034 h_M4_1034
  have hM4_1034 : IM (b) M4_1034 := by rw [h_M4_1034]; exact hI.up (by omega) (by simp [BM])
  intro x5_1035 ex5_1035 rx5_1035
  have bx5_1035 : 0 ≤ x5_1035 ∧ x5_1035 ≤ 24 := by rw [ex5_1035]; exact bm_c1_1.mp (hM4_1034.bx _ _)
  have fx5_1035 : x5_1035 = M 1 1 := by rw [ex5_1035, h_M4_1034, up2_n (by decide)]
  refine ⟨(by first | assumption | exact (by omega)), ?_⟩
  intro M7_1036 h_M7_1036
  have hM7_1036 : IM (b) M7_1036 := by rw [h_M7_1036]; exact hM4_1034.up (by omega) (bm_c1_1.mpr (by omega))
  have u1037 : 0 ≤ M7_1036 1 1 ∧ M7_1036 1 1 ≤ 24 := bm_c1_1.mp (hM7_1036.bx _ _)
  have t1038 : M7_1036 1 1 = x5_1035 + 1 := by rw [h_M7_1036, up2_s]
  exact hQ _ (hM7_1036.mono (by first | exact Int.le_refl _ | omega)) (by omega)
theorem sX12_goal_L27 {k1 : Nat} {p2 : Int} {p3 : Int}  {Q : Int → Mem → Prop} {b : Int} {M0 : Mem} (hk1 : isN k1) (hQ : ∀ z : Int, (0 ≤ z ∧ z ≤ 29) → Q z M0) : ∀ (n : Nat) (v4 v5 v6 v7 v8 : Int), IM (b) M0 → (0 ≤ v4 ∧ v4 ≤ 29 ∧ 0 ≤ v5 ∧ v5 ≤ 29 ∧ 1 ≤ v8 ∧ v8 ≤ 30 ∧ 0 ≤ p3 ∧ p3 ≤ 3) → iR v6 → iR v7 → 30 - v8 < (n : Int) → qX12_goal_L27 k1 p2 p3 Q n v4 v5 v6 v7 v8 M0 := by
  intro n
  induction n with
  | zero => intro v4 v5 v6 v7 v8 hI hv hrv6 hrv7 hm; exact absurd hm (by omega)
  | succ n ih =>
    intro v4 v5 v6 v7 v8 hI hv hrv6 hrv7 hm
    rw [qX12_goal_L27]
    have hbn := hI.nn
    have ek1 : k1 = 5 ∨ k1 = 6 := hk1
    refine sX12_gate  hI  ?_
    intro x7_1039 p1040 q1041
    refine ⟨(by first | assumption | exact (by omega)), ?_⟩
    intro x9_1042 ex9_1042 rx9_1042
    refine ⟨(by first | assumption | exact (by omega)), ?_⟩
    refine ⟨fun c => ?_, fun c => ?_⟩
    · refine ⟨(by first | assumption | exact (by omega)), ?_⟩
      exact hQ _ (by omega)
    · refine ⟨(by first | assumption | exact (by omega)), ?_⟩
      refine ⟨fun c => ?_, fun c => ?_⟩
      · unfold qX12_goal_J58
        unfold qX12_goal_J63
        refine sX12_gate  hI  ?_
        intro x15_1046 p1047 q1048
        refine ⟨(by first | assumption | exact (by omega)), ?_⟩
        refine ⟨fun c => ?_, fun c => ?_⟩
        · unfold qX12_goal_J84
          unfold qX12_goal_J89
          refine ⟨(by first | assumption | exact (by omega)), ?_⟩
          refine ⟨fun c => ?_, fun c => ?_⟩
          · unfold qX12_goal_J111
            unfold qX12_goal_J113
            refine ⟨(by first | assumption | exact (by omega)), ?_⟩
            refine ⟨fun c => ?_, fun c => ?_⟩
            · exact ih _ _ _ _ _ (hI.mono (by first | exact Int.le_refl _ | omega)) (by omega) (by first | assumption | exact (by omega)) (by first | assumption | exact (by omega)) (by omega)
            · refine ⟨(by first | assumption | exact (by omega)), ?_⟩
              refine ⟨fun c => ?_, fun c => ?_⟩
              · exact ih _ _ _ _ _ (hI.mono (by first | exact Int.le_refl _ | omega)) (by omega) (by first | assumption | exact (by omega)) (by first | assumption | exact (by omega)) (by omega)
              · exact ih _ _ _ _ _ (hI.mono (by first | exact Int.le_refl _ | omega)) (by omega) (by first | assumption | exact (by omega)) (by first | assumption | exact (by omega)) (by omega)
          · refine ⟨(by first | assumption | exact (by omega)), ?_⟩
            refine ⟨fun c => ?_, fun c => ?_⟩
            · unfold qX12_goal_J106
              unfold qX12_goal_J113
              refine ⟨(by first | assumption | exact (by omega)), ?_⟩
              refine ⟨fun c => ?_, fun c => ?_⟩
              · exact ih _ _ _ _ _ (hI.mono (by first | exact Int.le_refl _ | omega)) (by omega) (by first | assumption | exact (by omega)) (by first | assumption | exact (by omega)) (by omega)
              · refine ⟨(by first | assumption | exact (by omega)), ?_⟩
                refine ⟨fun c => ?_, fun c => ?_⟩
                · exact ih _ _ _ _ _ (hI.mono (by first | exact Int.le_refl _ | omega)) (by omega) (by first | assumption | exact (by omega)) (by first | assumption | exact (by omega)) (by omega)
                · exact ih _ _ _ _ _ (hI.mono (by first | exact Int.le_refl _ | omega)) (by omega) (by first | assumption | exact (by omega)) (by first | assumption | exact (by omega)) (by omega)
            · refine ⟨(by first | assumption | exact (by omega)), ?_⟩
              refine ⟨fun c => ?_, fun c => ?_⟩
              · unfold qX12_goal_J111
                unfold qX12_goal_J113
                refine ⟨(by first | assumption | exact (by omega)), ?_⟩
                refine ⟨fun c => ?_, fun c => ?_⟩
                · exact ih _ _ _ _ _ (hI.mono (by first | exact Int.le_refl _ | omega)) (by omega) (by first | assumption | exact (by omega)) (by first | assumption | exact (by omega)) (by omega)
                · refine ⟨(by first | assumption | exact (by omega)), ?_⟩
                  refine ⟨fun c => ?_, fun c => ?_⟩
                  · exact ih _ _ _ _ _ (hI.mono (by first | exact Int.le_refl _ | omega)) (by omega) (by first | assumption | exact (by omega)) (by first | assumption | exact (by omega)) (by omega)
                  · exact ih _ _ _ _ _ (hI.mono (by first | exact Int.le_refl _ | omega)) (by omega) (by first | assumption | exact (by omega)) (by first | assumption | exact (by omega)) (by omega)
              · unfold qX12_goal_J106
                unfold qX12_goal_J113
                refine ⟨(by first | assumption | exact (by omega)), ?_⟩
                refine ⟨fun c => ?_, fun c => ?_⟩
                · exact ih _ _ _ _ _ (hI.mono (by first | exact Int.le_refl _ | omega)) (by omega) (by first | assumption | exact (by omega)) (by first | assumption | exact (by omega)) (by omega)
                · refine ⟨(by first | assumption | exact (by omega)), ?_⟩
                  refine ⟨fun c => ?_, fun c => ?_⟩
                  · exact ih _ _ _ _ _ (hI.mono (by first | exact Int.le_refl _ | omega)) (by omega) (by first | assumption | exact (by omega)) (by first | assumption | exact (by omega)) (by omega)
                  · exact ih _ _ _ _ _ (hI.mono (by first | exact Int.le_refl _ | omega)) (by omega) (by first | assumption | exact (by omega)) (by first | assumption | exact (by omega)) (by omega)
        · refine sX12_onCell (p2 := v8) hI hk1 ?_
          intro x28_1073 p1074 q1075
          refine ⟨fun c => ?_, fun c => ?_⟩
          · unfold qX12_goal_J89
            refine ⟨(by first | assumption | exact (by omega)), ?_⟩
            refine ⟨fun c => ?_, fun c => ?_⟩
            · unfold qX12_goal_J111
              unfold qX12_goal_J113
              refine ⟨(by first | assumption | exact (by omega)), ?_⟩
              refine ⟨fun c => ?_, fun c => ?_⟩
              · exact ih _ _ _ _ _ (hI.mono (by first | exact Int.le_refl _ | omega)) (by omega) (by first | assumption | exact (by omega)) (by first | assumption | exact (by omega)) (by omega)
              · refine ⟨(by first | assumption | exact (by omega)), ?_⟩
                refine ⟨fun c => ?_, fun c => ?_⟩
                · exact ih _ _ _ _ _ (hI.mono (by first | exact Int.le_refl _ | omega)) (by omega) (by first | assumption | exact (by omega)) (by first | assumption | exact (by omega)) (by omega)
                · exact ih _ _ _ _ _ (hI.mono (by first | exact Int.le_refl _ | omega)) (by omega) (by first | assumption | exact (by omega)) (by first | assumption | exact (by omega)) (by omega)
            · refine ⟨(by first | assumption | exact (by omega)), ?_⟩
              refine ⟨fun c => ?_, fun c => ?_⟩
              · unfold qX12_goal_J106
                unfold qX12_goal_J113
                refine ⟨(by first | assumption | exact (by omega)), ?_⟩
                refine ⟨fun c => ?_, fun c => ?_⟩
                · exact ih _ _ _ _ _ (hI.mono (by first | exact Int.le_refl _ | omega)) (by omega) (by first | assumption | exact (by omega)) (by first | assumption | exact (by omega)) (by omega)
                · refine ⟨(by first | assumption | exact (by omega)), ?_⟩
                  refine ⟨fun c => ?_, fun c => ?_⟩
                  · exact ih _ _ _ _ _ (hI.mono (by first | exact Int.le_refl _ | omega)) (by omega) (by first | assumption | exact (by omega)) (by first | assumption | exact (by omega)) (by omega)
                  · exact ih _ _ _ _ _ (hI.mono (by first | exact Int.le_refl _ | omega)) (by omega) (by first | assumption | exact (by omega)) (by first | assumption | exact (by omega)) (by omega)
              · refine ⟨(by first | assumption | exact (by omega)), ?_⟩
                refine ⟨fun c => ?_, fun c => ?_⟩
                · unfold qX12_goal_J111
                  unfold qX12_goal_J113
                  refine ⟨(by first | assumption | exact (by omega)), ?_⟩
                  refine ⟨fun c => ?_, fun c => ?_⟩
                  · exact ih _ _ _ _ _ (hI.mono (by first | exact Int.le_refl _ | omega)) (by omega) (by first | assumption | exact (by omega)) (by first | assumption | exact (by omega)) (by omega)
                  · refine ⟨(by first | assumption | exact (by omega)), ?_⟩
                    refine ⟨fun c => ?_, fun c => ?_⟩
                    · exact ih _ _ _ _ _ (hI.mono (by first | exact Int.le_refl _ | omega)) (by omega) (by first | assumption | exact (by omega)) (by first | assumption | exact (by omega)) (by omega)
                    · exact ih _ _ _ _ _ (hI.mono (by first | exact Int.le_refl _ | omega)) (by omega) (by first | assumption | exact (by omega)) (by first | assumption | exact (by omega)) (by omega)
                · unfold qX12_goal_J106
                  unfold qX12_goal_J113
                  refine ⟨(by first | assumption | exact (by omega)), ?_⟩
                  refine ⟨fun c => ?_, fun c => ?_⟩
                  · exact ih _ _ _ _ _ (hI.mono (by first | exact Int.le_refl _ | omega)) (by omega) (by first | assumption | exact (by omega)) (by first | assumption | exact (by omega)) (by omega)
                  · refine ⟨(by first | assumption | exact (by omega)), ?_⟩
                    refine ⟨fun c => ?_, fun c => ?_⟩
                    · exact ih _ _ _ _ _ (hI.mono (by first | exact Int.le_refl _ | omega)) (by omega) (by first | assumption | exact (by omega)) (by first | assumption | exact (by omega)) (by omega)
                    · exact ih _ _ _ _ _ (hI.mono (by first | exact Int.le_refl _ | omega)) (by omega) (by first | assumption | exact (by omega)) (by first | assumption | exact (by omega)) (by omega)
          · unfold qX12_goal_J84
            unfold qX12_goal_J89
            refine ⟨(by first | assumption | exact (by omega)), ?_⟩
            refine ⟨fun c => ?_, fun c => ?_⟩
            · unfold qX12_goal_J111
              unfold qX12_goal_J113
              refine ⟨(by first | assumption | exact (by omega)), ?_⟩
              refine ⟨fun c => ?_, fun c => ?_⟩
              · exact ih _ _ _ _ _ (hI.mono (by first | exact Int.le_refl _ | omega)) (by omega) (by first | assumption | exact (by omega)) (by first | assumption | exact (by omega)) (by omega)
              · refine ⟨(by first | assumption | exact (by omega)), ?_⟩
                refine ⟨fun c => ?_, fun c => ?_⟩
                · exact ih _ _ _ _ _ (hI.mono (by first | exact Int.le_refl _ | omega)) (by omega) (by first | assumption | exact (by omega)) (by first | assumption | exact (by omega)) (by omega)
                · exact ih _ _ _ _ _ (hI.mono (by first | exact Int.le_refl _ | omega)) (by omega) (by first | assumption | exact (by omega)) (by first | assumption | exact (by omega)) (by omega)
            · refine ⟨(by first | assumption | exact (by omega)), ?_⟩
              refine ⟨fun c => ?_, fun c => ?_⟩
              · unfold qX12_goal_J106
                unfold qX12_goal_J113
                refine ⟨(by first | assumption | exact (by omega)), ?_⟩
                refine ⟨fun c => ?_, fun c => ?_⟩
                · exact ih _ _ _ _ _ (hI.mono (by first | exact Int.le_refl _ | omega)) (by omega) (by first | assumption | exact (by omega)) (by first | assumption | exact (by omega)) (by omega)
                · refine ⟨(by first | assumption | exact (by omega)), ?_⟩
                  refine ⟨fun c => ?_, fun c => ?_⟩
                  · exact ih _ _ _ _ _ (hI.mono (by first | exact Int.le_refl _ | omega)) (by omega) (by first | assumption | exact (by omega)) (by first | assumption | exact (by omega)) (by omega)
                  · exact ih _ _ _ _ _ (hI.mono (by first | exact Int.le_refl _ | omega)) (by omega) (by first | assumption | exact (by omega)) (by first | assumption | exact (by omega)) (by omega)
              · refine ⟨(by first | assumption | exact (by omega)), ?_⟩
                refine ⟨fun c => ?_, fun c => ?_⟩
                · unfold qX12_goal_J111
                  unfold qX12_goal_J113
                  refine ⟨(by first | assumption | exact (by omega)), ?_⟩
                  refine ⟨fun c => ?_, fun c => ?_⟩
                  · exact ih _ _ _ _ _ (hI.mono (by first | exact Int.le_refl _ | omega)) (by omega) (by first | assumption | exact (by omega)) (by first | assumption | exact (by omega)) (by omega)
                  · refine ⟨(by first | assumption | exact (by omega)), ?_⟩
                    refine ⟨fun c => ?_, fun c => ?_⟩
                    · exact ih _ _ _ _ _ (hI.mono (by first | exact Int.le_refl _ | omega)) (by omega) (by first | assumption | exact (by omega)) (by first | assumption | exact (by omega)) (by omega)
                    · exact ih _ _ _ _ _ (hI.mono (by first | exact Int.le_refl _ | omega)) (by omega) (by first | assumption | exact (by omega)) (by first | assumption | exact (by omega)) (by omega)
                · unfold qX12_goal_J106
                  unfold qX12_goal_J113
                  refine ⟨(by first | assumption | exact (by omega)), ?_⟩
                  refine ⟨fun c => ?_, fun c => ?_⟩
                  · exact ih _ _ _ _ _ (hI.mono (by first | exact Int.le_refl _ | omega)) (by omega) (by first | assumption | exact (by omega)) (by first | assumption | exact (by omega)) (by omega)
                  · refine ⟨(by first | assumption | exact (by omega)), ?_⟩
                    refine ⟨fun c => ?_, fun c => ?_⟩
                    · exact ih _ _ _ _ _ (hI.mono (by first | exact Int.le_refl _ | omega)) (by omega) (by first | assumption | exact (by omega)) (by first | assumption | exact (by omega)) (by omega)
                    · exact ih _ _ _ _ _ (hI.mono (by first | exact Int.le_refl _ | omega)) (by omega) (by first | assumption | exact (by omega)) (by first | assumption | exact (by omega)) (by omega)
      · refine ⟨by omega, ?_⟩
        refine ⟨by omega, ?_⟩
        intro x32_1123 ex32_1123 rx32_1123
        have bx32_1123 : -2147483648 ≤ x32_1123 ∧ x32_1123 ≤ 2147483647 := rx32_1123
        refine ⟨fun c => ?_, fun c => ?_⟩
        · unfold qX12_goal_J63
          refine sX12_gate  hI  ?_
          intro x15_1125 p1126 q1127
          refine ⟨(by first | assumption | exact (by omega)), ?_⟩
          refine ⟨fun c => ?_, fun c => ?_⟩
          · unfold qX12_goal_J84
            unfold qX12_goal_J89
            refine ⟨(by first | assumption | exact (by omega)), ?_⟩
            refine ⟨fun c => ?_, fun c => ?_⟩
            · unfold qX12_goal_J111
              unfold qX12_goal_J113
              refine ⟨(by first | assumption | exact (by omega)), ?_⟩
              refine ⟨fun c => ?_, fun c => ?_⟩
              · exact ih _ _ _ _ _ (hI.mono (by first | exact Int.le_refl _ | omega)) (by omega) (by first | assumption | exact (by omega)) (by first | assumption | exact (by omega)) (by omega)
              · refine ⟨(by first | assumption | exact (by omega)), ?_⟩
                refine ⟨fun c => ?_, fun c => ?_⟩
                · exact ih _ _ _ _ _ (hI.mono (by first | exact Int.le_refl _ | omega)) (by omega) (by first | assumption | exact (by omega)) (by first | assumption | exact (by omega)) (by omega)
                · exact ih _ _ _ _ _ (hI.mono (by first | exact Int.le_refl _ | omega)) (by omega) (by first | assumption | exact (by omega)) (by first | assumption | exact (by omega)) (by omega)
            · refine ⟨(by first | assumption | exact (by omega)), ?_⟩
              refine ⟨fun c => ?_, fun c => ?_⟩
              · unfold qX12_goal_J106
                unfold qX12_goal_J113
                refine ⟨(by first | assumption | exact (by omega)), ?_⟩
                refine ⟨fun c => ?_, fun c => ?_⟩
                · exact ih _ _ _ _ _ (hI.mono (by first | exact Int.le_refl _ | omega)) (by omega) (by first | assumption | exact (by omega)) (by first | assumption | exact (by omega)) (by omega)
                · refine ⟨(by first | assumption | exact (by omega)), ?_⟩
                  refine ⟨fun c => ?_, fun c => ?_⟩
                  · exact ih _ _ _ _ _ (hI.mono (by first | exact Int.le_refl _ | omega)) (by omega) (by first | assumption | exact (by omega)) (by first | assumption | exact (by omega)) (by omega)
                  · exact ih _ _ _ _ _ (hI.mono (by first | exact Int.le_refl _ | omega)) (by omega) (by first | assumption | exact (by omega)) (by first | assumption | exact (by omega)) (by omega)
              · refine ⟨(by first | assumption | exact (by omega)), ?_⟩
                refine ⟨fun c => ?_, fun c => ?_⟩
                · unfold qX12_goal_J111
                  unfold qX12_goal_J113
                  refine ⟨(by first | assumption | exact (by omega)), ?_⟩
                  refine ⟨fun c => ?_, fun c => ?_⟩
                  · exact ih _ _ _ _ _ (hI.mono (by first | exact Int.le_refl _ | omega)) (by omega) (by first | assumption | exact (by omega)) (by first | assumption | exact (by omega)) (by omega)
                  · refine ⟨(by first | assumption | exact (by omega)), ?_⟩
                    refine ⟨fun c => ?_, fun c => ?_⟩
                    · exact ih _ _ _ _ _ (hI.mono (by first | exact Int.le_refl _ | omega)) (by omega) (by first | assumption | exact (by omega)) (by first | assumption | exact (by omega)) (by omega)
                    · exact ih _ _ _ _ _ (hI.mono (by first | exact Int.le_refl _ | omega)) (by omega) (by first | assumption | exact (by omega)) (by first | assumption | exact (by omega)) (by omega)
                · unfold qX12_goal_J106
                  unfold qX12_goal_J113
                  refine ⟨(by first | assumption | exact (by omega)), ?_⟩
                  refine ⟨fun c => ?_, fun c => ?_⟩
                  · exact ih _ _ _ _ _ (hI.mono (by first | exact Int.le_refl _ | omega)) (by omega) (by first | assumption | exact (by omega)) (by first | assumption | exact (by omega)) (by omega)
                  · refine ⟨(by first | assumption | exact (by omega)), ?_⟩
                    refine ⟨fun c => ?_, fun c => ?_⟩
                    · exact ih _ _ _ _ _ (hI.mono (by first | exact Int.le_refl _ | omega)) (by omega) (by first | assumption | exact (by omega)) (by first | assumption | exact (by omega)) (by omega)
                    · exact ih _ _ _ _ _ (hI.mono (by first | exact Int.le_refl _ | omega)) (by omega) (by first | assumption | exact (by omega)) (by first | assumption | exact (by omega)) (by omega)
          · refine sX12_onCell (p2 := v8) hI hk1 ?_
            intro x28_1152 p1153 q1154
            refine ⟨fun c => ?_, fun c => ?_⟩
            · unfold qX12_goal_J89
              refine ⟨(by first | assumption | exact (by omega)), ?_⟩
              refine ⟨fun c => ?_, fun c => ?_⟩
              · unfold qX12_goal_J111
                unfold qX12_goal_J113
                refine ⟨(by first | assumption | exact (by omega)), ?_⟩
                refine ⟨fun c => ?_, fun c => ?_⟩
                · exact ih _ _ _ _ _ (hI.mono (by first | exact Int.le_refl _ | omega)) (by omega) (by first | assumption | exact (by omega)) (by first | assumption | exact (by omega)) (by omega)
                · refine ⟨(by first | assumption | exact (by omega)), ?_⟩
                  refine ⟨fun c => ?_, fun c => ?_⟩
                  · exact ih _ _ _ _ _ (hI.mono (by first | exact Int.le_refl _ | omega)) (by omega) (by first | assumption | exact (by omega)) (by first | assumption | exact (by omega)) (by omega)
                  · exact ih _ _ _ _ _ (hI.mono (by first | exact Int.le_refl _ | omega)) (by omega) (by first | assumption | exact (by omega)) (by first | assumption | exact (by omega)) (by omega)
              · refine ⟨(by first | assumption | exact (by omega)), ?_⟩
                refine ⟨fun c => ?_, fun c => ?_⟩
                · unfold qX12_goal_J106
                  unfold qX12_goal_J113
                  refine ⟨(by first | assumption | exact (by omega)), ?_⟩
                  refine ⟨fun c => ?_, fun c => ?_⟩
                  · exact ih _ _ _ _ _ (hI.mono (by first | exact Int.le_refl _ | omega)) (by omega) (by first | assumption | exact (by omega)) (by first | assumption | exact (by omega)) (by omega)
                  · refine ⟨(by first | assumption | exact (by omega)), ?_⟩
                    refine ⟨fun c => ?_, fun c => ?_⟩
                    · exact ih _ _ _ _ _ (hI.mono (by first | exact Int.le_refl _ | omega)) (by omega) (by first | assumption | exact (by omega)) (by first | assumption | exact (by omega)) (by omega)
                    · exact ih _ _ _ _ _ (hI.mono (by first | exact Int.le_refl _ | omega)) (by omega) (by first | assumption | exact (by omega)) (by first | assumption | exact (by omega)) (by omega)
                · refine ⟨(by first | assumption | exact (by omega)), ?_⟩
                  refine ⟨fun c => ?_, fun c => ?_⟩
                  · unfold qX12_goal_J111
                    unfold qX12_goal_J113
                    refine ⟨(by first | assumption | exact (by omega)), ?_⟩
                    refine ⟨fun c => ?_, fun c => ?_⟩
                    · exact ih _ _ _ _ _ (hI.mono (by first | exact Int.le_refl _ | omega)) (by omega) (by first | assumption | exact (by omega)) (by first | assumption | exact (by omega)) (by omega)
                    · refine ⟨(by first | assumption | exact (by omega)), ?_⟩
                      refine ⟨fun c => ?_, fun c => ?_⟩
                      · exact ih _ _ _ _ _ (hI.mono (by first | exact Int.le_refl _ | omega)) (by omega) (by first | assumption | exact (by omega)) (by first | assumption | exact (by omega)) (by omega)
                      · exact ih _ _ _ _ _ (hI.mono (by first | exact Int.le_refl _ | omega)) (by omega) (by first | assumption | exact (by omega)) (by first | assumption | exact (by omega)) (by omega)
                  · unfold qX12_goal_J106
                    unfold qX12_goal_J113
                    refine ⟨(by first | assumption | exact (by omega)), ?_⟩
                    refine ⟨fun c => ?_, fun c => ?_⟩
                    · exact ih _ _ _ _ _ (hI.mono (by first | exact Int.le_refl _ | omega)) (by omega) (by first | assumption | exact (by omega)) (by first | assumption | exact (by omega)) (by omega)
                    · refine ⟨(by first | assumption | exact (by omega)), ?_⟩
                      refine ⟨fun c => ?_, fun c => ?_⟩
                      · exact ih _ _ _ _ _ (hI.mono (by first | exact Int.le_refl _ | omega)) (by omega) (by first | assumption | exact (by omega)) (by first | assumption | exact (by omega)) (by omega)
                      · exact ih _ _ _ _ _ (hI.mono (by first | exact Int.le_refl _ | omega)) (by omega) (by first | assumption | exact (by omega)) (by first | assumption | exact (by omega)) (by omega)
            · unfold qX12_goal_J84
              unfold qX12_goal_J89
              refine ⟨(by first | assumption | exact (by omega)), ?_⟩
              refine ⟨fun c => ?_, fun c => ?_⟩
              · unfold qX12_goal_J111
                unfold qX12_goal_J113
                refine ⟨(by first | assumption | exact (by omega)), ?_⟩
                refine ⟨fun c => ?_, fun c => ?_⟩
                · exact ih _ _ _ _ _ (hI.mono (by first | exact Int.le_refl _ | omega)) (by omega) (by first | assumption | exact (by omega)) (by first | assumption | exact (by omega)) (by omega)
                · refine ⟨(by first | assumption | exact (by omega)), ?_⟩
                  refine ⟨fun c => ?_, fun c => ?_⟩
                  · exact ih _ _ _ _ _ (hI.mono (by first | exact Int.le_refl _ | omega)) (by omega) (by first | assumption | exact (by omega)) (by first | assumption | exact (by omega)) (by omega)
                  · exact ih _ _ _ _ _ (hI.mono (by first | exact Int.le_refl _ | omega)) (by omega) (by first | assumption | exact (by omega)) (by first | assumption | exact (by omega)) (by omega)
              · refine ⟨(by first | assumption | exact (by omega)), ?_⟩
                refine ⟨fun c => ?_, fun c => ?_⟩
                · unfold qX12_goal_J106
                  unfold qX12_goal_J113
                  refine ⟨(by first | assumption | exact (by omega)), ?_⟩
                  refine ⟨fun c => ?_, fun c => ?_⟩
                  · exact ih _ _ _ _ _ (hI.mono (by first | exact Int.le_refl _ | omega)) (by omega) (by first | assumption | exact (by omega)) (by first | assumption | exact (by omega)) (by omega)
                  · refine ⟨(by first | assumption | exact (by omega)), ?_⟩
                    refine ⟨fun c => ?_, fun c => ?_⟩
                    · exact ih _ _ _ _ _ (hI.mono (by first | exact Int.le_refl _ | omega)) (by omega) (by first | assumption | exact (by omega)) (by first | assumption | exact (by omega)) (by omega)
                    · exact ih _ _ _ _ _ (hI.mono (by first | exact Int.le_refl _ | omega)) (by omega) (by first | assumption | exact (by omega)) (by first | assumption | exact (by omega)) (by omega)
                · refine ⟨(by first | assumption | exact (by omega)), ?_⟩
                  refine ⟨fun c => ?_, fun c => ?_⟩
                  · unfold qX12_goal_J111
                    unfold qX12_goal_J113
                    refine ⟨(by first | assumption | exact (by omega)), ?_⟩
                    refine ⟨fun c => ?_, fun c => ?_⟩
                    · exact ih _ _ _ _ _ (hI.mono (by first | exact Int.le_refl _ | omega)) (by omega) (by first | assumption | exact (by omega)) (by first | assumption | exact (by omega)) (by omega)
                    · refine ⟨(by first | assumption | exact (by omega)), ?_⟩
                      refine ⟨fun c => ?_, fun c => ?_⟩
                      · exact ih _ _ _ _ _ (hI.mono (by first | exact Int.le_refl _ | omega)) (by omega) (by first | assumption | exact (by omega)) (by first | assumption | exact (by omega)) (by omega)
                      · exact ih _ _ _ _ _ (hI.mono (by first | exact Int.le_refl _ | omega)) (by omega) (by first | assumption | exact (by omega)) (by first | assumption | exact (by omega)) (by omega)
                  · unfold qX12_goal_J106
                    unfold qX12_goal_J113
                    refine ⟨(by first | assumption | exact (by omega)), ?_⟩
                    refine ⟨fun c => ?_, fun c => ?_⟩
                    · exact ih _ _ _ _ _ (hI.mono (by first | exact Int.le_refl _ | omega)) (by omega) (by first | assumption | exact (by omega)) (by first | assumption | exact (by omega)) (by omega)
                    · refine ⟨(by first | assumption | exact (by omega)), ?_⟩
                      refine ⟨fun c => ?_, fun c => ?_⟩
                      · exact ih _ _ _ _ _ (hI.mono (by first | exact Int.le_refl _ | omega)) (by omega) (by first | assumption | exact (by omega)) (by first | assumption | exact (by omega)) (by omega)
                      · exact ih _ _ _ _ _ (hI.mono (by first | exact Int.le_refl _ | omega)) (by omega) (by first | assumption | exact (by omega)) (by first | assumption | exact (by omega)) (by omega)
        · unfold qX12_goal_J58
          unfold qX12_goal_J63
          refine sX12_gate  hI  ?_
          intro x15_1202 p1203 q1204
          refine ⟨(by first | assumption | exact (by omega)), ?_⟩
          refine ⟨fun c => ?_, fun c => ?_⟩
          · unfold qX12_goal_J84
            unfold qX12_goal_J89
            refine ⟨(by first | assumption | exact (by omega)), ?_⟩
            refine ⟨fun c => ?_, fun c => ?_⟩
            · unfold qX12_goal_J111
              unfold qX12_goal_J113
              refine ⟨(by first | assumption | exact (by omega)), ?_⟩
              refine ⟨fun c => ?_, fun c => ?_⟩
              · exact ih _ _ _ _ _ (hI.mono (by first | exact Int.le_refl _ | omega)) (by omega) (by first | assumption | exact (by omega)) (by first | assumption | exact (by omega)) (by omega)
              · refine ⟨(by first | assumption | exact (by omega)), ?_⟩
                refine ⟨fun c => ?_, fun c => ?_⟩
                · exact ih _ _ _ _ _ (hI.mono (by first | exact Int.le_refl _ | omega)) (by omega) (by first | assumption | exact (by omega)) (by first | assumption | exact (by omega)) (by omega)
                · exact ih _ _ _ _ _ (hI.mono (by first | exact Int.le_refl _ | omega)) (by omega) (by first | assumption | exact (by omega)) (by first | assumption | exact (by omega)) (by omega)
            · refine ⟨(by first | assumption | exact (by omega)), ?_⟩
              refine ⟨fun c => ?_, fun c => ?_⟩
              · unfold qX12_goal_J106
                unfold qX12_goal_J113
                refine ⟨(by first | assumption | exact (by omega)), ?_⟩
                refine ⟨fun c => ?_, fun c => ?_⟩
                · exact ih _ _ _ _ _ (hI.mono (by first | exact Int.le_refl _ | omega)) (by omega) (by first | assumption | exact (by omega)) (by first | assumption | exact (by omega)) (by omega)
                · refine ⟨(by first | assumption | exact (by omega)), ?_⟩
                  refine ⟨fun c => ?_, fun c => ?_⟩
                  · exact ih _ _ _ _ _ (hI.mono (by first | exact Int.le_refl _ | omega)) (by omega) (by first | assumption | exact (by omega)) (by first | assumption | exact (by omega)) (by omega)
                  · exact ih _ _ _ _ _ (hI.mono (by first | exact Int.le_refl _ | omega)) (by omega) (by first | assumption | exact (by omega)) (by first | assumption | exact (by omega)) (by omega)
              · refine ⟨(by first | assumption | exact (by omega)), ?_⟩
                refine ⟨fun c => ?_, fun c => ?_⟩
                · unfold qX12_goal_J111
                  unfold qX12_goal_J113
                  refine ⟨(by first | assumption | exact (by omega)), ?_⟩
                  refine ⟨fun c => ?_, fun c => ?_⟩
                  · exact ih _ _ _ _ _ (hI.mono (by first | exact Int.le_refl _ | omega)) (by omega) (by first | assumption | exact (by omega)) (by first | assumption | exact (by omega)) (by omega)
                  · refine ⟨(by first | assumption | exact (by omega)), ?_⟩
                    refine ⟨fun c => ?_, fun c => ?_⟩
                    · exact ih _ _ _ _ _ (hI.mono (by first | exact Int.le_refl _ | omega)) (by omega) (by first | assumption | exact (by omega)) (by first | assumption | exact (by omega)) (by omega)
                    · exact ih _ _ _ _ _ (hI.mono (by first | exact Int.le_refl _ | omega)) (by omega) (by first | assumption | exact (by omega)) (by first | assumption | exact (by omega)) (by omega)
                · unfold qX12_goal_J106
                  unfold qX12_goal_J113
                  refine ⟨(by first | assumption | exact (by omega)), ?_⟩
                  refine ⟨fun c => ?_, fun c => ?_⟩
                  · exact ih _ _ _ _ _ (hI.mono (by first | exact Int.le_refl _ | omega)) (by omega) (by first | assumption | exact (by omega)) (by first | assumption | exact (by omega)) (by omega)
                  · refine ⟨(by first | assumption | exact (by omega)), ?_⟩
                    refine ⟨fun c => ?_, fun c => ?_⟩
                    · exact ih _ _ _ _ _ (hI.mono (by first | exact Int.le_refl _ | omega)) (by omega) (by first | assumption | exact (by omega)) (by first | assumption | exact (by omega)) (by omega)
                    · exact ih _ _ _ _ _ (hI.mono (by first | exact Int.le_refl _ | omega)) (by omega) (by first | assumption | exact (by omega)) (by first | assumption | exact (by omega)) (by omega)
          · refine sX12_onCell (p2 := v8) hI hk1 ?_
            intro x28_1229 p1230 q1231
            refine ⟨fun c => ?_, fun c => ?_⟩
            · unfold qX12_goal_J89
              refine ⟨(by first | assumption | exact (by omega)), ?_⟩
              refine ⟨fun c => ?_, fun c => ?_⟩
              · unfold qX12_goal_J111
                unfold qX12_goal_J113
                refine ⟨(by first | assumption | exact (by omega)), ?_⟩
                refine ⟨fun c => ?_, fun c => ?_⟩
                · exact ih _ _ _ _ _ (hI.mono (by first | exact Int.le_refl _ | omega)) (by omega) (by first | assumption | exact (by omega)) (by first | assumption | exact (by omega)) (by omega)
                · refine ⟨(by first | assumption | exact (by omega)), ?_⟩
                  refine ⟨fun c => ?_, fun c => ?_⟩
                  · exact ih _ _ _ _ _ (hI.mono (by first | exact Int.le_refl _ | omega)) (by omega) (by first | assumption | exact (by omega)) (by first | assumption | exact (by omega)) (by omega)
                  · exact ih _ _ _ _ _ (hI.mono (by first | exact Int.le_refl _ | omega)) (by omega) (by first | assumption | exact (by omega)) (by first | assumption | exact (by omega)) (by omega)
              · refine ⟨(by first | assumption | exact (by omega)), ?_⟩
                refine ⟨fun c => ?_, fun c => ?_⟩
                · unfold qX12_goal_J106
                  unfold qX12_goal_J113
                  refine ⟨(by first | assumption | exact (by omega)), ?_⟩
                  refine ⟨fun c => ?_, fun c => ?_⟩
                  · exact ih _ _ _ _ _ (hI.mono (by first | exact Int.le_refl _ | omega)) (by omega) (by first | assumption | exact (by omega)) (by first | assumption | exact (by omega)) (by omega)
                  · refine ⟨(by first | assumption | exact (by omega)), ?_⟩
                    refine ⟨fun c => ?_, fun c => ?_⟩
                    · exact ih _ _ _ _ _ (hI.mono (by first | exact Int.le_refl _ | omega)) (by omega) (by first | assumption | exact (by omega)) (by first | assumption | exact (by omega)) (by omega)
                    · exact ih _ _ _ _ _ (hI.mono (by first | exact Int.le_refl _ | omega)) (by omega) (by first | assumption | exact (by omega)) (by first | assumption | exact (by omega)) (by omega)
                · refine ⟨(by first | assumption | exact (by omega)), ?_⟩
                  refine ⟨fun c => ?_, fun c => ?_⟩
                  · unfold qX12_goal_J111
                    unfold qX12_goal_J113
                    refine ⟨(by first | assumption | exact (by omega)), ?_⟩
                    refine ⟨fun c => ?_, fun c => ?_⟩
                    · exact ih _ _ _ _ _ (hI.mono (by first | exact Int.le_refl _ | omega)) (by omega) (by first | assumption | exact (by omega)) (by first | assumption | exact (by omega)) (by omega)
                    · refine ⟨(by first | assumption | exact (by omega)), ?_⟩
                      refine ⟨fun c => ?_, fun c => ?_⟩
                      · exact ih _ _ _ _ _ (hI.mono (by first | exact Int.le_refl _ | omega)) (by omega) (by first | assumption | exact (by omega)) (by first | assumption | exact (by omega)) (by omega)
                      · exact ih _ _ _ _ _ (hI.mono (by first | exact Int.le_refl _ | omega)) (by omega) (by first | assumption | exact (by omega)) (by first | assumption | exact (by omega)) (by omega)
                  · unfold qX12_goal_J106
                    unfold qX12_goal_J113
                    refine ⟨(by first | assumption | exact (by omega)), ?_⟩
                    refine ⟨fun c => ?_, fun c => ?_⟩
                    · exact ih _ _ _ _ _ (hI.mono (by first | exact Int.le_refl _ | omega)) (by omega) (by first | assumption | exact (by omega)) (by first | assumption | exact (by omega)) (by omega)
                    · refine ⟨(by first | assumption | exact (by omega)), ?_⟩
                      refine ⟨fun c => ?_, fun c => ?_⟩
                      · exact ih _ _ _ _ _ (hI.mono (by first | exact Int.le_refl _ | omega)) (by omega) (by first | assumption | exact (by omega)) (by first | assumption | exact (by omega)) (by omega)
                      · exact ih _ _ _ _ _ (hI.mono (by first | exact Int.le_refl _ | omega)) (by omega) (by first | assumption | exact (by omega)) (by first | assumption | exact (by omega)) (by omega)
            · unfold qX12_goal_J84
              unfold qX12_goal_J89
              refine ⟨(by first | assumption | exact (by omega)), ?_⟩
              refine ⟨fun c => ?_, fun c => ?_⟩
              · unfold qX12_goal_J111
                unfold qX12_goal_J113
                refine ⟨(by first | assumption | exact (by omega)), ?_⟩
                refine ⟨fun c => ?_, fun c => ?_⟩
                · exact ih _ _ _ _ _ (hI.mono (by first | exact Int.le_refl _ | omega)) (by omega) (by first | assumption | exact (by omega)) (by first | assumption | exact (by omega)) (by omega)
                · refine ⟨(by first | assumption | exact (by omega)), ?_⟩
                  refine ⟨fun c => ?_, fun c => ?_⟩
                  · exact ih _ _ _ _ _ (hI.mono (by first | exact Int.le_refl _ | omega)) (by omega) (by first | assumption | exact (by omega)) (by first | assumption | exact (by omega)) (by omega)
                  · exact ih _ _ _ _ _ (hI.mono (by first | exact Int.le_refl _ | omega)) (by omega) (by first | assumption | exact (by omega)) (by first | assumption | exact (by omega)) (by omega)
              · refine ⟨(by first | assumption | exact (by omega)), ?_⟩
                refine ⟨fun c => ?_, fun c => ?_⟩
                · unfold qX12_goal_J106
                  unfold qX12_goal_J113
                  refine ⟨(by first | assumption | exact (by omega)), ?_⟩
                  refine ⟨fun c => ?_, fun c => ?_⟩
                  · exact ih _ _ _ _ _ (hI.mono (by first | exact Int.le_refl _ | omega)) (by omega) (by first | assumption | exact (by omega)) (by first | assumption | exact (by omega)) (by omega)
                  · refine ⟨(by first | assumption | exact (by omega)), ?_⟩
                    refine ⟨fun c => ?_, fun c => ?_⟩
                    · exact ih _ _ _ _ _ (hI.mono (by first | exact Int.le_refl _ | omega)) (by omega) (by first | assumption | exact (by omega)) (by first | assumption | exact (by omega)) (by omega)
                    · exact ih _ _ _ _ _ (hI.mono (by first | exact Int.le_refl _ | omega)) (by omega) (by first | assumption | exact (by omega)) (by first | assumption | exact (by omega)) (by omega)
                · refine ⟨(by first | assumption | exact (by omega)), ?_⟩
                  refine ⟨fun c => ?_, fun c => ?_⟩
                  · unfold qX12_goal_J111
                    unfold qX12_goal_J113
                    refine ⟨(by first | assumption | exact (by omega)), ?_⟩
                    refine ⟨fun c => ?_, fun c => ?_⟩
                    · exact ih _ _ _ _ _ (hI.mono (by first | exact Int.le_refl _ | omega)) (by omega) (by first | assumption | exact (by omega)) (by first | assumption | exact (by omega)) (by omega)
                    · refine ⟨(by first | assumption | exact (by omega)), ?_⟩
                      refine ⟨fun c => ?_, fun c => ?_⟩
                      · exact ih _ _ _ _ _ (hI.mono (by first | exact Int.le_refl _ | omega)) (by omega) (by first | assumption | exact (by omega)) (by first | assumption | exact (by omega)) (by omega)
                      · exact ih _ _ _ _ _ (hI.mono (by first | exact Int.le_refl _ | omega)) (by omega) (by first | assumption | exact (by omega)) (by first | assumption | exact (by omega)) (by omega)
                  · unfold qX12_goal_J106
                    unfold qX12_goal_J113
                    refine ⟨(by first | assumption | exact (by omega)), ?_⟩
                    refine ⟨fun c => ?_, fun c => ?_⟩
                    · exact ih _ _ _ _ _ (hI.mono (by first | exact Int.le_refl _ | omega)) (by omega) (by first | assumption | exact (by omega)) (by first | assumption | exact (by omega)) (by omega)
                    · refine ⟨(by first | assumption | exact (by omega)), ?_⟩
                      refine ⟨fun c => ?_, fun c => ?_⟩
                      · exact ih _ _ _ _ _ (hI.mono (by first | exact Int.le_refl _ | omega)) (by omega) (by first | assumption | exact (by omega)) (by first | assumption | exact (by omega)) (by omega)
                      · exact ih _ _ _ _ _ (hI.mono (by first | exact Int.le_refl _ | omega)) (by omega) (by first | assumption | exact (by omega)) (by first | assumption | exact (by omega)) (by omega)
theorem sX12_goal {k1 : Nat} {p2 : Int} {p3 : Int} {b : Int} {M : Mem} {Q : Int → Mem → Prop} (hI : IM b M) (hk1 : isN k1) (hp : 0 ≤ p2 ∧ p2 ≤ 5 ∧ 0 ≤ M k1 p2 ∧ 0 ≤ p3 ∧ p3 ≤ 3) (hQ : ∀ z : Int, (0 ≤ z ∧ z ≤ 29) → Q z M) : qX12_goal k1 p2 p3 M Q := by
  unfold qX12_goal
  have hbn := hI.nn
  have ek1 : k1 = 5 ∨ k1 = 6 := hk1
  refine ⟨by omega, ?_⟩
  refine ⟨by omega, ?_⟩
  intro x3_1278 ex3_1278 rx3_1278
  have rbx3_1278 : -2147483648 ≤ x3_1278 ∧ x3_1278 ≤ 2147483647 := rx3_1278
  have nbx3_1278 : BN (b) p2 x3_1278 := by rw [ex3_1278]; exact (bm_n hk1).mp (hI.bx _ _)
  first | (have bx3_1278 : -1 ≤ x3_1278 ∧ x3_1278 ≤ 29 := nbx3_1278.1 (by omega)) | (have bx3_1278 : -1 ≤ x3_1278 ∧ x3_1278 ≤ 29 := nbx3_1278.2.1 (by omega)) | skip
  refine ⟨by omega, ?_⟩
  refine ⟨by omega, ?_⟩
  intro x6_1279 ex6_1279 rx6_1279
  have bx6_1279 : -2147483648 ≤ x6_1279 ∧ x6_1279 ≤ 2147483647 := rx6_1279
  have cgx6_1279 : x6_1279 = M 2 (M k1 p2) := by rw [ex6_1279, ← ex3_1278]
  refine ⟨31, ?_⟩
  refine sX12_goal_L27 (b := b) (p2 := p2) (p3 := p3) (M0 := M) hk1 ?_ _ _ _ _ _ _ (hI.mono (by first | exact Int.le_refl _ | omega)) (by omega) (by first | assumption | exact (by omega)) (by first | assumption | exact (by omega)) (by omega)
  · exact hQ
theorem sX12_hearseGoes {k1 : Nat} {p2 : Int} {b : Int} {M : Mem} {Q : Mem → Prop} (hI : IM b M) (hk1 : isN k1) (hp : 0 ≤ p2 ∧ p2 ≤ 5 ∧ 0 ≤ M k1 p2) (hQ : ∀ M' : Mem, IM b M' → FrJ (fun k j => (k = k1 ∧ (j = p2 ∨ j = 6 + p2 ∨ j = 12)) ∨ k = 14 ∨ k = 13 ∨ (k = 1 ∧ j = 30) ∨ k = 16) M M' → Q M') : qX12_hearseGoes k1 p2 M Q := by
  unfold qX12_hearseGoes
  have hbn := hI.nn
  have ek1 : k1 = 5 ∨ k1 = 6 := hk1
  refine sX12_paceOf (p2 := p2) hI hk1 (by omega) ?_
  intro x1_1280 M1_1281 hM1_1281 gM1_1281 p1282 q1283
  have hFM1_1281 : FrJ (fun k j => (k = k1 ∧ (j = p2 ∨ j = 6 + p2 ∨ j = 12)) ∨ k = 14 ∨ k = 13 ∨ (k = 1 ∧ j = 30) ∨ k = 16) M M1_1281 := (FrJ.rf).tr (gM1_1281.mono (by intro k j h; omega))
  first | (have t1284 : M1_1281 k1 p2 = M k1 p2 := gM1_1281 k1 p2 (by omega)) | skip
  first | (have t1285 : M1_1281 k1 p2 = M k1 p2 := gM1_1281 k1 p2 (by omega)) | skip
  refine sX12_goal (p2 := p2) (p3 := x1_1280) hM1_1281 hk1 (by omega) ?_
  intro x2_1286 p1287 q1288
  refine ⟨by omega, ?_⟩
  refine ⟨by omega, ?_⟩
  intro x5_1289 ex5_1289 rx5_1289
  have rbx5_1289 : -2147483648 ≤ x5_1289 ∧ x5_1289 ≤ 2147483647 := rx5_1289
  have nbx5_1289 : BN (b) p2 x5_1289 := by rw [ex5_1289]; exact (bm_n hk1).mp (hM1_1281.bx _ _)
  first | (have bx5_1289 : -1 ≤ x5_1289 ∧ x5_1289 ≤ 29 := nbx5_1289.1 (by omega)) | (have bx5_1289 : -1 ≤ x5_1289 ∧ x5_1289 ≤ 29 := nbx5_1289.2.1 (by omega)) | skip
  refine ⟨fun c => ?_, fun c => ?_⟩
  · refine sX12_gate  hM1_1281  ?_
    intro x7_1291 p1292 q1293
    refine ⟨fun c => ?_, fun c => ?_⟩
    · intro M9_1295 h_M9_1295
      have hM9_1295 : IM (b) M9_1295 := by rw [h_M9_1295]; exact hM1_1281.up (isN.nu hk1 _) ((bm_n hk1).mpr (by first | assumption | exact ⟨by omega, by omega, by omega, by omega⟩))
      have hFM9_1295 : FrJ (fun k j => (k = k1 ∧ (j = p2 ∨ j = 6 + p2 ∨ j = 12)) ∨ k = 14 ∨ k = 13 ∨ (k = 1 ∧ j = 30) ∨ k = 16) M M9_1295 := by rw [h_M9_1295]; exact (hFM1_1281).up (by omega)
      exact hQ _ (hM9_1295.mono (by first | exact Int.le_refl _ | omega)) hFM9_1295
    · intro x10_1297 ex10_1297 rx10_1297
      have bx10_1297 : -2147483648 ≤ x10_1297 ∧ x10_1297 ≤ 2147483647 := rx10_1297
      intro x11_1298 ex11_1298 rx11_1298
      first | (have fx11_1298 : x11_1298 = x10_1297 + 1 := by rw [ex11_1298]; exact w32_id (by omega)) | skip
      intro M12_1299 h_M12_1299
      have hM12_1299 : IM (b) M12_1299 := by rw [h_M12_1299]; exact hM1_1281.up (isN.nu hk1 _) ((bm_n hk1).mpr (by first | assumption | exact ⟨by omega, by omega, by omega, by omega⟩))
      have hFM12_1299 : FrJ (fun k j => (k = k1 ∧ (j = p2 ∨ j = 6 + p2 ∨ j = 12)) ∨ k = 14 ∨ k = 13 ∨ (k = 1 ∧ j = 30) ∨ k = 16) M M12_1299 := by rw [h_M12_1299]; exact (hFM1_1281).up (by omega)
      intro x13_1300 ex13_1300 rx13_1300
      have bx13_1300 : -2147483648 ≤ x13_1300 ∧ x13_1300 ≤ 2147483647 := rx13_1300
      have fx13_1300 : x13_1300 = x11_1298 := by rw [ex13_1300, h_M12_1299, up2_s]
      refine ⟨by omega, ?_⟩
      refine ⟨by omega, ?_⟩
      intro M16_1301 h_M16_1301
      have hM16_1301 : IM (b) M16_1301 := by rw [h_M16_1301]; exact hM12_1299.up (isN.nu hk1 _) ((bm_n hk1).mpr (by first | assumption | exact ⟨by omega, by omega, by omega, by omega⟩))
      have hFM16_1301 : FrJ (fun k j => (k = k1 ∧ (j = p2 ∨ j = 6 + p2 ∨ j = 12)) ∨ k = 14 ∨ k = 13 ∨ (k = 1 ∧ j = 30) ∨ k = 16) M M16_1301 := by rw [h_M16_1301]; exact (hFM12_1299).up (by omega)
      intro M17_1302 h_M17_1302
      have hM17_1302 : IM (b) M17_1302 := by rw [h_M17_1302]; exact hM16_1301.up (isN.nu hk1 _) ((bm_n hk1).mpr (by first | assumption | exact ⟨by omega, by omega, by omega, by omega⟩))
      have hFM17_1302 : FrJ (fun k j => (k = k1 ∧ (j = p2 ∨ j = 6 + p2 ∨ j = 12)) ∨ k = 14 ∨ k = 13 ∨ (k = 1 ∧ j = 30) ∨ k = 16) M M17_1302 := by rw [h_M17_1302]; exact (hFM16_1301).up (by omega)
      exact hQ _ (hM17_1302.mono (by first | exact Int.le_refl _ | omega)) hFM17_1302
  · intro x18_1304 ex18_1304 rx18_1304
    have bx18_1304 : -2147483648 ≤ x18_1304 ∧ x18_1304 ≤ 2147483647 := rx18_1304
    intro x19_1305 ex19_1305 rx19_1305
    first | (have fx19_1305 : x19_1305 = x18_1304 + 1 := by rw [ex19_1305]; exact w32_id (by omega)) | skip
    intro M20_1306 h_M20_1306
    have hM20_1306 : IM (b) M20_1306 := by rw [h_M20_1306]; exact hM1_1281.up (by omega) (by simp [BM])
    have hFM20_1306 : FrJ (fun k j => (k = k1 ∧ (j = p2 ∨ j = 6 + p2 ∨ j = 12)) ∨ k = 14 ∨ k = 13 ∨ (k = 1 ∧ j = 30) ∨ k = 16) M M20_1306 := by rw [h_M20_1306]; exact (hFM1_1281).up (by omega)
    refine ⟨by omega, ?_⟩
    refine ⟨by omega, ?_⟩
    intro x23_1307 ex23_1307 rx23_1307
    have bx23_1307 : -2147483648 ≤ x23_1307 ∧ x23_1307 ≤ 2147483647 := rx23_1307
    have fx23_1307 : x23_1307 = M1_1281 16 x2_1286 := by rw [ex23_1307, h_M20_1306, up2_n (by decide)]
    intro x24_1308 ex24_1308 rx24_1308
    first | (have fx24_1308 : x24_1308 = x23_1307 + 1 := by rw [ex24_1308]; exact w32_id (by omega)) | skip
    intro M25_1309 h_M25_1309
    have hM25_1309 : IM (b) M25_1309 := by rw [h_M25_1309]; exact hM20_1306.up (by omega) (by simp [BM])
    have hFM25_1309 : FrJ (fun k j => (k = k1 ∧ (j = p2 ∨ j = 6 + p2 ∨ j = 12)) ∨ k = 14 ∨ k = 13 ∨ (k = 1 ∧ j = 30) ∨ k = 16) M M25_1309 := by rw [h_M25_1309]; exact (hFM20_1306).up (by omega)
    exact hQ _ (hM25_1309.mono (by first | exact Int.le_refl _ | omega)) hFM25_1309
/-- the line of the hearses on the street: on it, none twice -/
def LN (k1 : Nat) (M : Mem) : Prop := (∀ i, 0 ≤ i → i < M 1 35 → 0 ≤ M k1 (M 18 i)) ∧ ∀ i j, 0 ≤ i → i < j → j < M 1 35 → M 18 i ≠ M 18 j
def tOn (f : Int → Int) (v h : Int) : Int := if v < f h then 1 else 0
theorem tOn_b (f : Int → Int) (v h : Int) : 0 ≤ tOn f v h ∧ tOn f v h ≤ 1 ∧ tOn f v h ≤ tOn f (v - 1) h := by
  unfold tOn
  refine ⟨by split <;> decide, by split <;> decide, ?_⟩
  split
  · rw [if_pos (by omega)]; exact Int.le_refl _
  · split <;> decide
def sOn (f : Int → Int) (v : Int) : Int := tOn f v 0 + tOn f v 1 + tOn f v 2 + tOn f v 3 + tOn f v 4 + tOn f v 5
theorem sOn_hit {f : Int → Int} {v h : Int} (h0 : 0 ≤ h ∧ h ≤ 5) (hv : f h = v) : sOn f v + 1 ≤ sOn f (v - 1) ∧ sOn f v ≤ 5 := by
  have a0 := tOn_b f v 0
  have a1 := tOn_b f v 1
  have a2 := tOn_b f v 2
  have a3 := tOn_b f v 3
  have a4 := tOn_b f v 4
  have a5 := tOn_b f v 5
  have z1 : tOn f v h = 0 := by unfold tOn; rw [if_neg (by omega)]
  have z2 : tOn f (v - 1) h = 1 := by unfold tOn; rw [if_pos (by omega)]
  unfold sOn
  have : h = 0 ∨ h = 1 ∨ h = 2 ∨ h = 3 ∨ h = 4 ∨ h = 5 := by omega
  rcases this with rfl | rfl | rfl | rfl | rfl | rfl <;> omega
theorem sOn_mono (f : Int → Int) (v : Int) : sOn f v ≤ sOn f (v - 1) := by
  have a0 := tOn_b f v 0
  have a1 := tOn_b f v 1
  have a2 := tOn_b f v 2
  have a3 := tOn_b f v 3
  have a4 := tOn_b f v 4
  have a5 := tOn_b f v 5
  unfold sOn
  omega
theorem sX12_laysLine_L12 {k1 : Nat} {Q : Mem → Prop} {b : Int} (hk1 : isN k1) (hQ : ∀ M' : Mem, IM b M' → LN k1 M' → Q M') : ∀ (n : Nat) (v2 : Int) (M : Mem), IM b M → (-1 ≤ v2 ∧ v2 ≤ 29) → M 1 35 ≤ sOn (M k1) v2 → (∀ i, 0 ≤ i → i < M 1 35 → v2 < M k1 (M 18 i)) → (∀ i j, 0 ≤ i → i < j → j < M 1 35 → M 18 i ≠ M 18 j) → v2 + 1 < (n : Int) → qX12_laysLine_L12 k1 Q n v2 M := by
  intro n
  induction n with
  | zero => intro v2 M hI hv h1 h2 h3 hm; exact absurd hm (by omega)
  | succ n ih =>
    intro v2 M hI hv h1 h2 h3 hm
    have hk5 : k1 = 5 ∨ k1 = 6 := hk1
    rw [qX12_laysLine_L12]
    refine ⟨(by omega), ⟨fun c => hQ _ hI ⟨fun i a q => by have := h2 i a q; omega, h3⟩, fun c => ?_⟩⟩
    refine sX12_onCell (p2 := v2) hI hk1 ?_
    intro x5 p5 _
    refine ⟨fun c2 => ?_, fun c2 => ?_⟩
    · exact ih (v2 + -1) M hI (by omega) (by have := sOn_mono (M k1) v2; rw [show v2 + -1 = v2 - 1 from by omega]; omega) (fun i a q => by have := h2 i a q; omega) h3 (by omega)
    · have hc := (p5.2.2 (by omega)).1
      have hh := sOn_hit (f := M k1) (v := v2) (h := x5) (by omega) hc
      intro x7 e7 _
      have b7 : 0 ≤ x7 ∧ x7 ≤ 6 := by rw [e7]; exact bm_c1_35.mp (hI.bx _ _)
      refine ⟨by omega, by omega, ?_⟩
      intro M10 h10
      have i10 : IM b M10 := by rw [h10]; exact hI.up (by omega) (bm_c18.mpr (by omega))
      intro x11 e11 _
      have f11 : x11 = x7 := by rw [e11, h10, up2_n (by decide), e7]
      refine ⟨(by omega), ?_⟩
      intro M13 h13
      have i13 : IM b M13 := by rw [h13]; exact i10.up (by omega) (bm_c1_35.mpr (by omega))
      have g1 : M13 1 35 = x7 + 1 := by rw [h13, up2_s, f11]
      have g2 : M13 k1 = M k1 := by rw [h13, up2_n (by omega), h10, up2_n (by omega)]
      have g3 : ∀ i, i ≠ x7 → M13 18 i = M 18 i := fun i hi => by rw [h13, up2_n (by decide), h10, up2_j hi]
      have g4 : M13 18 x7 = x5 := by rw [h13, up2_n (by decide), h10, up2_s]
      refine ih (v2 + -1) M13 i13 (by omega) ?_ ?_ ?_ (by omega)
      · rw [g1, g2, show v2 + -1 = v2 - 1 from by omega]; omega
      · intro i a q
        rw [g1] at q
        rw [g2]
        by_cases ci : i = x7
        · rw [ci, g4]; omega
        · rw [g3 i ci]
          have := h2 i a (by omega)
          omega
      · intro i j a q r
        rw [g1] at r
        by_cases cj : j = x7
        · rw [cj, g4, g3 i (by omega)]
          have := h2 i a (by omega)
          intro he
          rw [he] at this
          omega
        · rw [g3 j cj, g3 i (by omega)]
          exact h3 i j a q (by omega)
theorem sX12_laysLineF {k1 : Nat} {b : Int} {M : Mem} {Q : Mem → Prop} (hI : IM b M) (hk1 : isN k1) (hQ : ∀ M' : Mem, IM b M' → LN k1 M' → Q M') : qX12_laysLine k1 M Q := by
  have hk5 : k1 = 5 ∨ k1 = 6 := hk1
  unfold qX12_laysLine
  intro M1 h1
  have i1 : IM b M1 := by rw [h1]; exact hI.up (by omega) (bm_c1_35.mpr (by decide))
  have g1 : M1 1 35 = 0 := by rw [h1, up2_s]
  refine sX12_gate i1 ?_
  intro x2 p2 _
  refine ⟨31, sX12_laysLine_L12 hk1 hQ _ _ _ i1 (by omega) ?_ (fun i a q => by omega) (fun i j a q r => by omega) (by omega)⟩
  rw [g1]
  have a0 := tOn_b (M1 k1) (x2 - 1) 0
  have a1 := tOn_b (M1 k1) (x2 - 1) 1
  have a2 := tOn_b (M1 k1) (x2 - 1) 2
  have a3 := tOn_b (M1 k1) (x2 - 1) 3
  have a4 := tOn_b (M1 k1) (x2 - 1) 4
  have a5 := tOn_b (M1 k1) (x2 - 1) 5
  unfold sOn
  omega
theorem sX12_laysLine {k1 : Nat} {b : Int} {M : Mem} {Q : Mem → Prop} (hI : IM b M) (hk1 : isN k1) (hQ : ∀ M' : Mem, IM b M' → Q M') : qX12_laysLine k1 M Q := sX12_laysLineF hI hk1 (fun M' h _ => hQ M' h)
theorem sX12_mournerGoes {k1 : Nat} {p2 : Int} {b : Int} {M : Mem} {Q : Mem → Prop} (hI : IM b M) (hk1 : isN k1) (hp : 0 ≤ p2 ∧ p2 ≤ 7) (hQ : ∀ M' : Mem, IM b M' → Q M') : qX12_mournerGoes k1 p2 M Q := by
  unfold qX12_mournerGoes
  have hbn := hI.nn
  have ek1 : k1 = 5 ∨ k1 = 6 := hk1
  refine ⟨by omega, ?_⟩
  refine ⟨by omega, ?_⟩
  intro x3_1310 ex3_1310 rx3_1310
  have rbx3_1310 : -2147483648 ≤ x3_1310 ∧ x3_1310 ≤ 2147483647 := rx3_1310
  first | (have bx3_1310 : -1 ≤ x3_1310 ∧ x3_1310 ≤ 5 := by rw [ex3_1310]; exact ((bm_n hk1).mp (hI.bx _ _)).2.2.1 (by omega)) | skip
  refine ⟨fun c => ?_, fun c => ?_⟩
  · unfold qX12_mournerGoes_J27
    refine ⟨by omega, ?_⟩
    refine ⟨by omega, ?_⟩
    intro x7_1312 ex7_1312 rx7_1312
    have rbx7_1312 : -2147483648 ≤ x7_1312 ∧ x7_1312 ≤ 2147483647 := rx7_1312
    first | (have bx7_1312 : -1 ≤ x7_1312 ∧ x7_1312 ≤ 29 := by rw [ex7_1312]; exact ((bm_n hk1).mp (hI.bx _ _)).2.1 (by omega)) | skip
    refine sX12_nearest (p2 := x7_1312) hI hk1 (by omega) ?_
    intro x8_1313 p1314 q1315
    refine ⟨fun c => ?_, fun c => ?_⟩
    · unfold qX12_mournerGoes_J105
      refine ⟨(by first | assumption | exact (by omega)), ?_⟩
      refine ⟨fun c => ?_, fun c => ?_⟩
      · exact hQ _ (hI.mono (by first | exact Int.le_refl _ | omega))
      · refine ⟨by omega, ?_⟩
        refine ⟨by omega, ?_⟩
        intro x14_1319 ex14_1319 rx14_1319
        have rbx14_1319 : -2147483648 ≤ x14_1319 ∧ x14_1319 ≤ 2147483647 := rx14_1319
        have nbx14_1319 : BN (b) x3_1310 x14_1319 := by rw [ex14_1319]; exact (bm_n hk1).mp (hI.bx _ _)
        first | (have bx14_1319 : -1 ≤ x14_1319 ∧ x14_1319 ≤ 29 := nbx14_1319.1 (by omega)) | (have bx14_1319 : -1 ≤ x14_1319 ∧ x14_1319 ≤ 29 := nbx14_1319.2.1 (by omega)) | skip
        have cgx14_1319 : x14_1319 = M k1 (M k1 (21 + p2)) := by rw [ex14_1319, ← ex3_1310]
        refine ⟨(by first | assumption | exact (by omega)), ?_⟩
        refine ⟨fun c => ?_, fun c => ?_⟩
        · intro x17_1321 ex17_1321 rx17_1321
          have rbx17_1321 : -2147483648 ≤ x17_1321 ∧ x17_1321 ≤ 2147483647 := rx17_1321
          have nbx17_1321 : BN (b) x3_1310 x17_1321 := by rw [ex17_1321]; exact (bm_n hk1).mp (hI.bx _ _)
          first | (have bx17_1321 : -1 ≤ x17_1321 ∧ x17_1321 ≤ 29 := nbx17_1321.1 (by omega)) | (have bx17_1321 : -1 ≤ x17_1321 ∧ x17_1321 ≤ 29 := nbx17_1321.2.1 (by omega)) | skip
          have cgx17_1321 : x17_1321 = M k1 (M k1 (21 + p2)) := by rw [ex17_1321, ← ex3_1310]
          refine ⟨(by first | assumption | exact (by omega)), ?_⟩
          intro x19_1322 ex19_1322 rx19_1322
          unfold qX12_mournerGoes_J145
          refine ⟨by omega, ?_⟩
          refine ⟨by omega, ?_⟩
          refine ⟨(by first | assumption | exact (by omega)), ?_⟩
          intro M23_1323 h_M23_1323
          have hM23_1323 : IM (b) M23_1323 := by rw [h_M23_1323]; exact hI.up (isN.nu hk1 _) ((bm_n hk1).mpr (by first | assumption | exact ⟨by omega, by omega, by omega, by omega⟩))
          exact hQ _ (hM23_1323.mono (by first | exact Int.le_refl _ | omega))
        · intro x24_1325 ex24_1325 rx24_1325
          have rbx24_1325 : -2147483648 ≤ x24_1325 ∧ x24_1325 ≤ 2147483647 := rx24_1325
          have nbx24_1325 : BN (b) x3_1310 x24_1325 := by rw [ex24_1325]; exact (bm_n hk1).mp (hI.bx _ _)
          first | (have bx24_1325 : -1 ≤ x24_1325 ∧ x24_1325 ≤ 29 := nbx24_1325.1 (by omega)) | (have bx24_1325 : -1 ≤ x24_1325 ∧ x24_1325 ≤ 29 := nbx24_1325.2.1 (by omega)) | skip
          have cgx24_1325 : x24_1325 = M k1 (M k1 (21 + p2)) := by rw [ex24_1325, ← ex3_1310]
          refine ⟨(by first | assumption | exact (by omega)), ?_⟩
          intro x26_1326 ex26_1326 rx26_1326
          unfold qX12_mournerGoes_J145
          refine ⟨by omega, ?_⟩
          refine ⟨by omega, ?_⟩
          refine ⟨(by first | assumption | exact (by omega)), ?_⟩
          intro M23_1327 h_M23_1327
          have hM23_1327 : IM (b) M23_1327 := by rw [h_M23_1327]; exact hI.up (isN.nu hk1 _) ((bm_n hk1).mpr (by first | assumption | exact ⟨by omega, by omega, by omega, by omega⟩))
          exact hQ _ (hM23_1327.mono (by first | exact Int.le_refl _ | omega))
    · refine ⟨(by first | assumption | exact (by omega)), ?_⟩
      refine ⟨fun c => ?_, fun c => ?_⟩
      · unfold qX12_mournerGoes_J75
        refine ⟨by omega, ?_⟩
        refine ⟨by omega, ?_⟩
        refine ⟨(by first | assumption | exact (by omega)), ?_⟩
        intro M32_1330 h_M32_1330
        have hM32_1330 : IM (b) M32_1330 := by rw [h_M32_1330]; exact hI.up (isN.nu hk1 _) ((bm_n hk1).mpr (by first | assumption | exact ⟨by omega, by omega, by omega, by omega⟩))
        intro x33_1331 ex33_1331 rx33_1331
        have bx33_1331 : -2147483648 ≤ x33_1331 ∧ x33_1331 ≤ 2147483647 := rx33_1331
        have fx33_1331 : x33_1331 = M 1 31 := by rw [ex33_1331, h_M32_1330, up2_n (by omega)]
        intro x34_1332 ex34_1332 rx34_1332
        first | (have fx34_1332 : x34_1332 = x33_1331 + 1 := by rw [ex34_1332]; exact w32_id (by omega)) | skip
        intro M35_1333 h_M35_1333
        have hM35_1333 : IM (b) M35_1333 := by rw [h_M35_1333]; exact hM32_1330.up (by omega) (by simp [BM])
        refine ⟨by omega, ?_⟩
        refine ⟨by omega, ?_⟩
        intro x38_1334 ex38_1334 rx38_1334
        have bx38_1334 : -2147483648 ≤ x38_1334 ∧ x38_1334 ≤ 2147483647 := rx38_1334
        have fx38_1334 : x38_1334 = M 17 p2 := by rw [ex38_1334, h_M35_1333, up2_n (by decide), h_M32_1330, up2_n (by omega)]
        intro x39_1335 ex39_1335 rx39_1335
        first | (have fx39_1335 : x39_1335 = x38_1334 + 1 := by rw [ex39_1335]; exact w32_id (by omega)) | skip
        intro M40_1336 h_M40_1336
        have hM40_1336 : IM (b) M40_1336 := by rw [h_M40_1336]; exact hM35_1333.up (by omega) (by simp [BM])
        unfold qX12_mournerGoes_J105
        refine ⟨(by first | assumption | exact (by omega)), ?_⟩
        refine ⟨fun c => ?_, fun c => ?_⟩
        · exact hQ _ (hM40_1336.mono (by first | exact Int.le_refl _ | omega))
        · refine ⟨by omega, ?_⟩
          refine ⟨by omega, ?_⟩
          intro x14_1339 ex14_1339 rx14_1339
          have rbx14_1339 : -2147483648 ≤ x14_1339 ∧ x14_1339 ≤ 2147483647 := rx14_1339
          have nbx14_1339 : BN (b) x8_1313 x14_1339 := by rw [ex14_1339]; exact (bm_n hk1).mp (hM40_1336.bx _ _)
          first | (have bx14_1339 : -1 ≤ x14_1339 ∧ x14_1339 ≤ 29 := nbx14_1339.1 (by omega)) | (have bx14_1339 : -1 ≤ x14_1339 ∧ x14_1339 ≤ 29 := nbx14_1339.2.1 (by omega)) | skip
          have fx14_1339 : x14_1339 = M32_1330 k1 x8_1313 := by rw [ex14_1339, h_M40_1336, up2_n (by omega), h_M35_1333, up2_n (by omega)]
          refine ⟨(by first | assumption | exact (by omega)), ?_⟩
          refine ⟨fun c => ?_, fun c => ?_⟩
          · intro x17_1341 ex17_1341 rx17_1341
            have rbx17_1341 : -2147483648 ≤ x17_1341 ∧ x17_1341 ≤ 2147483647 := rx17_1341
            have nbx17_1341 : BN (b) x8_1313 x17_1341 := by rw [ex17_1341]; exact (bm_n hk1).mp (hM40_1336.bx _ _)
            first | (have bx17_1341 : -1 ≤ x17_1341 ∧ x17_1341 ≤ 29 := nbx17_1341.1 (by omega)) | (have bx17_1341 : -1 ≤ x17_1341 ∧ x17_1341 ≤ 29 := nbx17_1341.2.1 (by omega)) | skip
            have fx17_1341 : x17_1341 = M32_1330 k1 x8_1313 := by rw [ex17_1341, h_M40_1336, up2_n (by omega), h_M35_1333, up2_n (by omega)]
            refine ⟨(by first | assumption | exact (by omega)), ?_⟩
            intro x19_1342 ex19_1342 rx19_1342
            unfold qX12_mournerGoes_J145
            refine ⟨by omega, ?_⟩
            refine ⟨by omega, ?_⟩
            refine ⟨(by first | assumption | exact (by omega)), ?_⟩
            intro M23_1343 h_M23_1343
            have hM23_1343 : IM (b) M23_1343 := by rw [h_M23_1343]; exact hM40_1336.up (isN.nu hk1 _) ((bm_n hk1).mpr (by first | assumption | exact ⟨by omega, by omega, by omega, by omega⟩))
            exact hQ _ (hM23_1343.mono (by first | exact Int.le_refl _ | omega))
          · intro x24_1345 ex24_1345 rx24_1345
            have rbx24_1345 : -2147483648 ≤ x24_1345 ∧ x24_1345 ≤ 2147483647 := rx24_1345
            have nbx24_1345 : BN (b) x8_1313 x24_1345 := by rw [ex24_1345]; exact (bm_n hk1).mp (hM40_1336.bx _ _)
            first | (have bx24_1345 : -1 ≤ x24_1345 ∧ x24_1345 ≤ 29 := nbx24_1345.1 (by omega)) | (have bx24_1345 : -1 ≤ x24_1345 ∧ x24_1345 ≤ 29 := nbx24_1345.2.1 (by omega)) | skip
            have fx24_1345 : x24_1345 = M32_1330 k1 x8_1313 := by rw [ex24_1345, h_M40_1336, up2_n (by omega), h_M35_1333, up2_n (by omega)]
            refine ⟨(by first | assumption | exact (by omega)), ?_⟩
            intro x26_1346 ex26_1346 rx26_1346
            unfold qX12_mournerGoes_J145
            refine ⟨by omega, ?_⟩
            refine ⟨by omega, ?_⟩
            refine ⟨(by first | assumption | exact (by omega)), ?_⟩
            intro M23_1347 h_M23_1347
            have hM23_1347 : IM (b) M23_1347 := by rw [h_M23_1347]; exact hM40_1336.up (isN.nu hk1 _) ((bm_n hk1).mpr (by first | assumption | exact ⟨by omega, by omega, by omega, by omega⟩))
            exact hQ _ (hM23_1347.mono (by first | exact Int.le_refl _ | omega))
      · refine ⟨by omega, ?_⟩
        refine ⟨by omega, ?_⟩
        intro x43_1349 ex43_1349 rx43_1349
        have rbx43_1349 : -2147483648 ≤ x43_1349 ∧ x43_1349 ≤ 2147483647 := rx43_1349
        have nbx43_1349 : BN (b) x8_1313 x43_1349 := by rw [ex43_1349]; exact (bm_n hk1).mp (hI.bx _ _)
        first | (have bx43_1349 : -1 ≤ x43_1349 ∧ x43_1349 ≤ 29 := nbx43_1349.1 (by omega)) | (have bx43_1349 : -1 ≤ x43_1349 ∧ x43_1349 ≤ 29 := nbx43_1349.2.1 (by omega)) | skip
        refine ⟨(by first | assumption | exact (by omega)), ?_⟩
        intro x45_1350 px45_1350 nx45_1350
        have bx45_1350 : 0 ≤ x45_1350 ∧ (x43_1349 - x7_1312 = x45_1350 ∨ x43_1349 - x7_1312 = -x45_1350) := by omega
        refine ⟨by omega, ?_⟩
        refine ⟨by omega, ?_⟩
        intro x48_1351 ex48_1351 rx48_1351
        have rbx48_1351 : -2147483648 ≤ x48_1351 ∧ x48_1351 ≤ 2147483647 := rx48_1351
        have nbx48_1351 : BN (b) x3_1310 x48_1351 := by rw [ex48_1351]; exact (bm_n hk1).mp (hI.bx _ _)
        first | (have bx48_1351 : -1 ≤ x48_1351 ∧ x48_1351 ≤ 29 := nbx48_1351.1 (by omega)) | (have bx48_1351 : -1 ≤ x48_1351 ∧ x48_1351 ≤ 29 := nbx48_1351.2.1 (by omega)) | skip
        have cgx48_1351 : x48_1351 = M k1 (M k1 (21 + p2)) := by rw [ex48_1351, ← ex3_1310]
        refine ⟨(by first | assumption | exact (by omega)), ?_⟩
        intro x50_1352 px50_1352 nx50_1352
        have bx50_1352 : 0 ≤ x50_1352 ∧ (x48_1351 - x7_1312 = x50_1352 ∨ x48_1351 - x7_1312 = -x50_1352) := by omega
        refine ⟨(by first | assumption | exact (by omega)), ?_⟩
        refine ⟨(by first | assumption | exact (by omega)), ?_⟩
        refine ⟨fun c => ?_, fun c => ?_⟩
        · unfold qX12_mournerGoes_J105
          refine ⟨(by first | assumption | exact (by omega)), ?_⟩
          refine ⟨fun c => ?_, fun c => ?_⟩
          · exact hQ _ (hI.mono (by first | exact Int.le_refl _ | omega))
          · refine ⟨by omega, ?_⟩
            refine ⟨by omega, ?_⟩
            intro x14_1356 ex14_1356 rx14_1356
            have rbx14_1356 : -2147483648 ≤ x14_1356 ∧ x14_1356 ≤ 2147483647 := rx14_1356
            have nbx14_1356 : BN (b) x3_1310 x14_1356 := by rw [ex14_1356]; exact (bm_n hk1).mp (hI.bx _ _)
            first | (have bx14_1356 : -1 ≤ x14_1356 ∧ x14_1356 ≤ 29 := nbx14_1356.1 (by omega)) | (have bx14_1356 : -1 ≤ x14_1356 ∧ x14_1356 ≤ 29 := nbx14_1356.2.1 (by omega)) | skip
            have cgx14_1356 : x14_1356 = M k1 (M k1 (21 + p2)) := by rw [ex14_1356, ← ex3_1310]
            refine ⟨(by first | assumption | exact (by omega)), ?_⟩
            refine ⟨fun c => ?_, fun c => ?_⟩
            · intro x17_1358 ex17_1358 rx17_1358
              have rbx17_1358 : -2147483648 ≤ x17_1358 ∧ x17_1358 ≤ 2147483647 := rx17_1358
              have nbx17_1358 : BN (b) x3_1310 x17_1358 := by rw [ex17_1358]; exact (bm_n hk1).mp (hI.bx _ _)
              first | (have bx17_1358 : -1 ≤ x17_1358 ∧ x17_1358 ≤ 29 := nbx17_1358.1 (by omega)) | (have bx17_1358 : -1 ≤ x17_1358 ∧ x17_1358 ≤ 29 := nbx17_1358.2.1 (by omega)) | skip
              have cgx17_1358 : x17_1358 = M k1 (M k1 (21 + p2)) := by rw [ex17_1358, ← ex3_1310]
              refine ⟨(by first | assumption | exact (by omega)), ?_⟩
              intro x19_1359 ex19_1359 rx19_1359
              unfold qX12_mournerGoes_J145
              refine ⟨by omega, ?_⟩
              refine ⟨by omega, ?_⟩
              refine ⟨(by first | assumption | exact (by omega)), ?_⟩
              intro M23_1360 h_M23_1360
              have hM23_1360 : IM (b) M23_1360 := by rw [h_M23_1360]; exact hI.up (isN.nu hk1 _) ((bm_n hk1).mpr (by first | assumption | exact ⟨by omega, by omega, by omega, by omega⟩))
              exact hQ _ (hM23_1360.mono (by first | exact Int.le_refl _ | omega))
            · intro x24_1362 ex24_1362 rx24_1362
              have rbx24_1362 : -2147483648 ≤ x24_1362 ∧ x24_1362 ≤ 2147483647 := rx24_1362
              have nbx24_1362 : BN (b) x3_1310 x24_1362 := by rw [ex24_1362]; exact (bm_n hk1).mp (hI.bx _ _)
              first | (have bx24_1362 : -1 ≤ x24_1362 ∧ x24_1362 ≤ 29 := nbx24_1362.1 (by omega)) | (have bx24_1362 : -1 ≤ x24_1362 ∧ x24_1362 ≤ 29 := nbx24_1362.2.1 (by omega)) | skip
              have cgx24_1362 : x24_1362 = M k1 (M k1 (21 + p2)) := by rw [ex24_1362, ← ex3_1310]
              refine ⟨(by first | assumption | exact (by omega)), ?_⟩
              intro x26_1363 ex26_1363 rx26_1363
              unfold qX12_mournerGoes_J145
              refine ⟨by omega, ?_⟩
              refine ⟨by omega, ?_⟩
              refine ⟨(by first | assumption | exact (by omega)), ?_⟩
              intro M23_1364 h_M23_1364
              have hM23_1364 : IM (b) M23_1364 := by rw [h_M23_1364]; exact hI.up (isN.nu hk1 _) ((bm_n hk1).mpr (by first | assumption | exact ⟨by omega, by omega, by omega, by omega⟩))
              exact hQ _ (hM23_1364.mono (by first | exact Int.le_refl _ | omega))
        · unfold qX12_mournerGoes_J75
          refine ⟨by omega, ?_⟩
          refine ⟨by omega, ?_⟩
          refine ⟨(by first | assumption | exact (by omega)), ?_⟩
          intro M32_1366 h_M32_1366
          have hM32_1366 : IM (b) M32_1366 := by rw [h_M32_1366]; exact hI.up (isN.nu hk1 _) ((bm_n hk1).mpr (by first | assumption | exact ⟨by omega, by omega, by omega, by omega⟩))
          intro x33_1367 ex33_1367 rx33_1367
          have bx33_1367 : -2147483648 ≤ x33_1367 ∧ x33_1367 ≤ 2147483647 := rx33_1367
          have fx33_1367 : x33_1367 = M 1 31 := by rw [ex33_1367, h_M32_1366, up2_n (by omega)]
          intro x34_1368 ex34_1368 rx34_1368
          first | (have fx34_1368 : x34_1368 = x33_1367 + 1 := by rw [ex34_1368]; exact w32_id (by omega)) | skip
          intro M35_1369 h_M35_1369
          have hM35_1369 : IM (b) M35_1369 := by rw [h_M35_1369]; exact hM32_1366.up (by omega) (by simp [BM])
          refine ⟨by omega, ?_⟩
          refine ⟨by omega, ?_⟩
          intro x38_1370 ex38_1370 rx38_1370
          have bx38_1370 : -2147483648 ≤ x38_1370 ∧ x38_1370 ≤ 2147483647 := rx38_1370
          have fx38_1370 : x38_1370 = M 17 p2 := by rw [ex38_1370, h_M35_1369, up2_n (by decide), h_M32_1366, up2_n (by omega)]
          intro x39_1371 ex39_1371 rx39_1371
          first | (have fx39_1371 : x39_1371 = x38_1370 + 1 := by rw [ex39_1371]; exact w32_id (by omega)) | skip
          intro M40_1372 h_M40_1372
          have hM40_1372 : IM (b) M40_1372 := by rw [h_M40_1372]; exact hM35_1369.up (by omega) (by simp [BM])
          unfold qX12_mournerGoes_J105
          refine ⟨(by first | assumption | exact (by omega)), ?_⟩
          refine ⟨fun c => ?_, fun c => ?_⟩
          · exact hQ _ (hM40_1372.mono (by first | exact Int.le_refl _ | omega))
          · refine ⟨by omega, ?_⟩
            refine ⟨by omega, ?_⟩
            intro x14_1375 ex14_1375 rx14_1375
            have rbx14_1375 : -2147483648 ≤ x14_1375 ∧ x14_1375 ≤ 2147483647 := rx14_1375
            have nbx14_1375 : BN (b) x8_1313 x14_1375 := by rw [ex14_1375]; exact (bm_n hk1).mp (hM40_1372.bx _ _)
            first | (have bx14_1375 : -1 ≤ x14_1375 ∧ x14_1375 ≤ 29 := nbx14_1375.1 (by omega)) | (have bx14_1375 : -1 ≤ x14_1375 ∧ x14_1375 ≤ 29 := nbx14_1375.2.1 (by omega)) | skip
            have fx14_1375 : x14_1375 = M32_1366 k1 x8_1313 := by rw [ex14_1375, h_M40_1372, up2_n (by omega), h_M35_1369, up2_n (by omega)]
            refine ⟨(by first | assumption | exact (by omega)), ?_⟩
            refine ⟨fun c => ?_, fun c => ?_⟩
            · intro x17_1377 ex17_1377 rx17_1377
              have rbx17_1377 : -2147483648 ≤ x17_1377 ∧ x17_1377 ≤ 2147483647 := rx17_1377
              have nbx17_1377 : BN (b) x8_1313 x17_1377 := by rw [ex17_1377]; exact (bm_n hk1).mp (hM40_1372.bx _ _)
              first | (have bx17_1377 : -1 ≤ x17_1377 ∧ x17_1377 ≤ 29 := nbx17_1377.1 (by omega)) | (have bx17_1377 : -1 ≤ x17_1377 ∧ x17_1377 ≤ 29 := nbx17_1377.2.1 (by omega)) | skip
              have fx17_1377 : x17_1377 = M32_1366 k1 x8_1313 := by rw [ex17_1377, h_M40_1372, up2_n (by omega), h_M35_1369, up2_n (by omega)]
              refine ⟨(by first | assumption | exact (by omega)), ?_⟩
              intro x19_1378 ex19_1378 rx19_1378
              unfold qX12_mournerGoes_J145
              refine ⟨by omega, ?_⟩
              refine ⟨by omega, ?_⟩
              refine ⟨(by first | assumption | exact (by omega)), ?_⟩
              intro M23_1379 h_M23_1379
              have hM23_1379 : IM (b) M23_1379 := by rw [h_M23_1379]; exact hM40_1372.up (isN.nu hk1 _) ((bm_n hk1).mpr (by first | assumption | exact ⟨by omega, by omega, by omega, by omega⟩))
              exact hQ _ (hM23_1379.mono (by first | exact Int.le_refl _ | omega))
            · intro x24_1381 ex24_1381 rx24_1381
              have rbx24_1381 : -2147483648 ≤ x24_1381 ∧ x24_1381 ≤ 2147483647 := rx24_1381
              have nbx24_1381 : BN (b) x8_1313 x24_1381 := by rw [ex24_1381]; exact (bm_n hk1).mp (hM40_1372.bx _ _)
              first | (have bx24_1381 : -1 ≤ x24_1381 ∧ x24_1381 ≤ 29 := nbx24_1381.1 (by omega)) | (have bx24_1381 : -1 ≤ x24_1381 ∧ x24_1381 ≤ 29 := nbx24_1381.2.1 (by omega)) | skip
              have fx24_1381 : x24_1381 = M32_1366 k1 x8_1313 := by rw [ex24_1381, h_M40_1372, up2_n (by omega), h_M35_1369, up2_n (by omega)]
              refine ⟨(by first | assumption | exact (by omega)), ?_⟩
              intro x26_1382 ex26_1382 rx26_1382
              unfold qX12_mournerGoes_J145
              refine ⟨by omega, ?_⟩
              refine ⟨by omega, ?_⟩
              refine ⟨(by first | assumption | exact (by omega)), ?_⟩
              intro M23_1383 h_M23_1383
              have hM23_1383 : IM (b) M23_1383 := by rw [h_M23_1383]; exact hM40_1372.up (isN.nu hk1 _) ((bm_n hk1).mpr (by first | assumption | exact ⟨by omega, by omega, by omega, by omega⟩))
              exact hQ _ (hM23_1383.mono (by first | exact Int.le_refl _ | omega))
  · refine sX12_isOn (p1 := x3_1310) hI hk1 (by omega) ?_
    intro x54_1385 p1386 q1387 q1388
    refine ⟨fun c => ?_, fun c => ?_⟩
    · unfold qX12_mournerGoes_J27
      refine ⟨by omega, ?_⟩
      refine ⟨by omega, ?_⟩
      intro x7_1390 ex7_1390 rx7_1390
      have rbx7_1390 : -2147483648 ≤ x7_1390 ∧ x7_1390 ≤ 2147483647 := rx7_1390
      first | (have bx7_1390 : -1 ≤ x7_1390 ∧ x7_1390 ≤ 29 := by rw [ex7_1390]; exact ((bm_n hk1).mp (hI.bx _ _)).2.1 (by omega)) | skip
      refine sX12_nearest (p2 := x7_1390) hI hk1 (by omega) ?_
      intro x8_1391 p1392 q1393
      refine ⟨fun c => ?_, fun c => ?_⟩
      · unfold qX12_mournerGoes_J105
        refine ⟨(by first | assumption | exact (by omega)), ?_⟩
        refine ⟨fun c => ?_, fun c => ?_⟩
        · exact hQ _ (hI.mono (by first | exact Int.le_refl _ | omega))
        · refine ⟨by omega, ?_⟩
          refine ⟨by omega, ?_⟩
          intro x14_1397 ex14_1397 rx14_1397
          have rbx14_1397 : -2147483648 ≤ x14_1397 ∧ x14_1397 ≤ 2147483647 := rx14_1397
          have nbx14_1397 : BN (b) x3_1310 x14_1397 := by rw [ex14_1397]; exact (bm_n hk1).mp (hI.bx _ _)
          first | (have bx14_1397 : -1 ≤ x14_1397 ∧ x14_1397 ≤ 29 := nbx14_1397.1 (by omega)) | (have bx14_1397 : -1 ≤ x14_1397 ∧ x14_1397 ≤ 29 := nbx14_1397.2.1 (by omega)) | skip
          have cgx14_1397 : x14_1397 = M k1 (M k1 (21 + p2)) := by rw [ex14_1397, ← ex3_1310]
          refine ⟨(by first | assumption | exact (by omega)), ?_⟩
          refine ⟨fun c => ?_, fun c => ?_⟩
          · intro x17_1399 ex17_1399 rx17_1399
            have rbx17_1399 : -2147483648 ≤ x17_1399 ∧ x17_1399 ≤ 2147483647 := rx17_1399
            have nbx17_1399 : BN (b) x3_1310 x17_1399 := by rw [ex17_1399]; exact (bm_n hk1).mp (hI.bx _ _)
            first | (have bx17_1399 : -1 ≤ x17_1399 ∧ x17_1399 ≤ 29 := nbx17_1399.1 (by omega)) | (have bx17_1399 : -1 ≤ x17_1399 ∧ x17_1399 ≤ 29 := nbx17_1399.2.1 (by omega)) | skip
            have cgx17_1399 : x17_1399 = M k1 (M k1 (21 + p2)) := by rw [ex17_1399, ← ex3_1310]
            refine ⟨(by first | assumption | exact (by omega)), ?_⟩
            intro x19_1400 ex19_1400 rx19_1400
            unfold qX12_mournerGoes_J145
            refine ⟨by omega, ?_⟩
            refine ⟨by omega, ?_⟩
            refine ⟨(by first | assumption | exact (by omega)), ?_⟩
            intro M23_1401 h_M23_1401
            have hM23_1401 : IM (b) M23_1401 := by rw [h_M23_1401]; exact hI.up (isN.nu hk1 _) ((bm_n hk1).mpr (by first | assumption | exact ⟨by omega, by omega, by omega, by omega⟩))
            exact hQ _ (hM23_1401.mono (by first | exact Int.le_refl _ | omega))
          · intro x24_1403 ex24_1403 rx24_1403
            have rbx24_1403 : -2147483648 ≤ x24_1403 ∧ x24_1403 ≤ 2147483647 := rx24_1403
            have nbx24_1403 : BN (b) x3_1310 x24_1403 := by rw [ex24_1403]; exact (bm_n hk1).mp (hI.bx _ _)
            first | (have bx24_1403 : -1 ≤ x24_1403 ∧ x24_1403 ≤ 29 := nbx24_1403.1 (by omega)) | (have bx24_1403 : -1 ≤ x24_1403 ∧ x24_1403 ≤ 29 := nbx24_1403.2.1 (by omega)) | skip
            have cgx24_1403 : x24_1403 = M k1 (M k1 (21 + p2)) := by rw [ex24_1403, ← ex3_1310]
            refine ⟨(by first | assumption | exact (by omega)), ?_⟩
            intro x26_1404 ex26_1404 rx26_1404
            unfold qX12_mournerGoes_J145
            refine ⟨by omega, ?_⟩
            refine ⟨by omega, ?_⟩
            refine ⟨(by first | assumption | exact (by omega)), ?_⟩
            intro M23_1405 h_M23_1405
            have hM23_1405 : IM (b) M23_1405 := by rw [h_M23_1405]; exact hI.up (isN.nu hk1 _) ((bm_n hk1).mpr (by first | assumption | exact ⟨by omega, by omega, by omega, by omega⟩))
            exact hQ _ (hM23_1405.mono (by first | exact Int.le_refl _ | omega))
      · refine ⟨(by first | assumption | exact (by omega)), ?_⟩
        refine ⟨fun c => ?_, fun c => ?_⟩
        · unfold qX12_mournerGoes_J75
          refine ⟨by omega, ?_⟩
          refine ⟨by omega, ?_⟩
          refine ⟨(by first | assumption | exact (by omega)), ?_⟩
          intro M32_1408 h_M32_1408
          have hM32_1408 : IM (b) M32_1408 := by rw [h_M32_1408]; exact hI.up (isN.nu hk1 _) ((bm_n hk1).mpr (by first | assumption | exact ⟨by omega, by omega, by omega, by omega⟩))
          intro x33_1409 ex33_1409 rx33_1409
          have bx33_1409 : -2147483648 ≤ x33_1409 ∧ x33_1409 ≤ 2147483647 := rx33_1409
          have fx33_1409 : x33_1409 = M 1 31 := by rw [ex33_1409, h_M32_1408, up2_n (by omega)]
          intro x34_1410 ex34_1410 rx34_1410
          first | (have fx34_1410 : x34_1410 = x33_1409 + 1 := by rw [ex34_1410]; exact w32_id (by omega)) | skip
          intro M35_1411 h_M35_1411
          have hM35_1411 : IM (b) M35_1411 := by rw [h_M35_1411]; exact hM32_1408.up (by omega) (by simp [BM])
          refine ⟨by omega, ?_⟩
          refine ⟨by omega, ?_⟩
          intro x38_1412 ex38_1412 rx38_1412
          have bx38_1412 : -2147483648 ≤ x38_1412 ∧ x38_1412 ≤ 2147483647 := rx38_1412
          have fx38_1412 : x38_1412 = M 17 p2 := by rw [ex38_1412, h_M35_1411, up2_n (by decide), h_M32_1408, up2_n (by omega)]
          intro x39_1413 ex39_1413 rx39_1413
          first | (have fx39_1413 : x39_1413 = x38_1412 + 1 := by rw [ex39_1413]; exact w32_id (by omega)) | skip
          intro M40_1414 h_M40_1414
          have hM40_1414 : IM (b) M40_1414 := by rw [h_M40_1414]; exact hM35_1411.up (by omega) (by simp [BM])
          unfold qX12_mournerGoes_J105
          refine ⟨(by first | assumption | exact (by omega)), ?_⟩
          refine ⟨fun c => ?_, fun c => ?_⟩
          · exact hQ _ (hM40_1414.mono (by first | exact Int.le_refl _ | omega))
          · refine ⟨by omega, ?_⟩
            refine ⟨by omega, ?_⟩
            intro x14_1417 ex14_1417 rx14_1417
            have rbx14_1417 : -2147483648 ≤ x14_1417 ∧ x14_1417 ≤ 2147483647 := rx14_1417
            have nbx14_1417 : BN (b) x8_1391 x14_1417 := by rw [ex14_1417]; exact (bm_n hk1).mp (hM40_1414.bx _ _)
            first | (have bx14_1417 : -1 ≤ x14_1417 ∧ x14_1417 ≤ 29 := nbx14_1417.1 (by omega)) | (have bx14_1417 : -1 ≤ x14_1417 ∧ x14_1417 ≤ 29 := nbx14_1417.2.1 (by omega)) | skip
            have fx14_1417 : x14_1417 = M32_1408 k1 x8_1391 := by rw [ex14_1417, h_M40_1414, up2_n (by omega), h_M35_1411, up2_n (by omega)]
            refine ⟨(by first | assumption | exact (by omega)), ?_⟩
            refine ⟨fun c => ?_, fun c => ?_⟩
            · intro x17_1419 ex17_1419 rx17_1419
              have rbx17_1419 : -2147483648 ≤ x17_1419 ∧ x17_1419 ≤ 2147483647 := rx17_1419
              have nbx17_1419 : BN (b) x8_1391 x17_1419 := by rw [ex17_1419]; exact (bm_n hk1).mp (hM40_1414.bx _ _)
              first | (have bx17_1419 : -1 ≤ x17_1419 ∧ x17_1419 ≤ 29 := nbx17_1419.1 (by omega)) | (have bx17_1419 : -1 ≤ x17_1419 ∧ x17_1419 ≤ 29 := nbx17_1419.2.1 (by omega)) | skip
              have fx17_1419 : x17_1419 = M32_1408 k1 x8_1391 := by rw [ex17_1419, h_M40_1414, up2_n (by omega), h_M35_1411, up2_n (by omega)]
              refine ⟨(by first | assumption | exact (by omega)), ?_⟩
              intro x19_1420 ex19_1420 rx19_1420
              unfold qX12_mournerGoes_J145
              refine ⟨by omega, ?_⟩
              refine ⟨by omega, ?_⟩
              refine ⟨(by first | assumption | exact (by omega)), ?_⟩
              intro M23_1421 h_M23_1421
              have hM23_1421 : IM (b) M23_1421 := by rw [h_M23_1421]; exact hM40_1414.up (isN.nu hk1 _) ((bm_n hk1).mpr (by first | assumption | exact ⟨by omega, by omega, by omega, by omega⟩))
              exact hQ _ (hM23_1421.mono (by first | exact Int.le_refl _ | omega))
            · intro x24_1423 ex24_1423 rx24_1423
              have rbx24_1423 : -2147483648 ≤ x24_1423 ∧ x24_1423 ≤ 2147483647 := rx24_1423
              have nbx24_1423 : BN (b) x8_1391 x24_1423 := by rw [ex24_1423]; exact (bm_n hk1).mp (hM40_1414.bx _ _)
              first | (have bx24_1423 : -1 ≤ x24_1423 ∧ x24_1423 ≤ 29 := nbx24_1423.1 (by omega)) | (have bx24_1423 : -1 ≤ x24_1423 ∧ x24_1423 ≤ 29 := nbx24_1423.2.1 (by omega)) | skip
              have fx24_1423 : x24_1423 = M32_1408 k1 x8_1391 := by rw [ex24_1423, h_M40_1414, up2_n (by omega), h_M35_1411, up2_n (by omega)]
              refine ⟨(by first | assumption | exact (by omega)), ?_⟩
              intro x26_1424 ex26_1424 rx26_1424
              unfold qX12_mournerGoes_J145
              refine ⟨by omega, ?_⟩
              refine ⟨by omega, ?_⟩
              refine ⟨(by first | assumption | exact (by omega)), ?_⟩
              intro M23_1425 h_M23_1425
              have hM23_1425 : IM (b) M23_1425 := by rw [h_M23_1425]; exact hM40_1414.up (isN.nu hk1 _) ((bm_n hk1).mpr (by first | assumption | exact ⟨by omega, by omega, by omega, by omega⟩))
              exact hQ _ (hM23_1425.mono (by first | exact Int.le_refl _ | omega))
        · refine ⟨by omega, ?_⟩
          refine ⟨by omega, ?_⟩
          intro x43_1427 ex43_1427 rx43_1427
          have rbx43_1427 : -2147483648 ≤ x43_1427 ∧ x43_1427 ≤ 2147483647 := rx43_1427
          have nbx43_1427 : BN (b) x8_1391 x43_1427 := by rw [ex43_1427]; exact (bm_n hk1).mp (hI.bx _ _)
          first | (have bx43_1427 : -1 ≤ x43_1427 ∧ x43_1427 ≤ 29 := nbx43_1427.1 (by omega)) | (have bx43_1427 : -1 ≤ x43_1427 ∧ x43_1427 ≤ 29 := nbx43_1427.2.1 (by omega)) | skip
          refine ⟨(by first | assumption | exact (by omega)), ?_⟩
          intro x45_1428 px45_1428 nx45_1428
          have bx45_1428 : 0 ≤ x45_1428 ∧ (x43_1427 - x7_1390 = x45_1428 ∨ x43_1427 - x7_1390 = -x45_1428) := by omega
          refine ⟨by omega, ?_⟩
          refine ⟨by omega, ?_⟩
          intro x48_1429 ex48_1429 rx48_1429
          have rbx48_1429 : -2147483648 ≤ x48_1429 ∧ x48_1429 ≤ 2147483647 := rx48_1429
          have nbx48_1429 : BN (b) x3_1310 x48_1429 := by rw [ex48_1429]; exact (bm_n hk1).mp (hI.bx _ _)
          first | (have bx48_1429 : -1 ≤ x48_1429 ∧ x48_1429 ≤ 29 := nbx48_1429.1 (by omega)) | (have bx48_1429 : -1 ≤ x48_1429 ∧ x48_1429 ≤ 29 := nbx48_1429.2.1 (by omega)) | skip
          have cgx48_1429 : x48_1429 = M k1 (M k1 (21 + p2)) := by rw [ex48_1429, ← ex3_1310]
          refine ⟨(by first | assumption | exact (by omega)), ?_⟩
          intro x50_1430 px50_1430 nx50_1430
          have bx50_1430 : 0 ≤ x50_1430 ∧ (x48_1429 - x7_1390 = x50_1430 ∨ x48_1429 - x7_1390 = -x50_1430) := by omega
          refine ⟨(by first | assumption | exact (by omega)), ?_⟩
          refine ⟨(by first | assumption | exact (by omega)), ?_⟩
          refine ⟨fun c => ?_, fun c => ?_⟩
          · unfold qX12_mournerGoes_J105
            refine ⟨(by first | assumption | exact (by omega)), ?_⟩
            refine ⟨fun c => ?_, fun c => ?_⟩
            · exact hQ _ (hI.mono (by first | exact Int.le_refl _ | omega))
            · refine ⟨by omega, ?_⟩
              refine ⟨by omega, ?_⟩
              intro x14_1434 ex14_1434 rx14_1434
              have rbx14_1434 : -2147483648 ≤ x14_1434 ∧ x14_1434 ≤ 2147483647 := rx14_1434
              have nbx14_1434 : BN (b) x3_1310 x14_1434 := by rw [ex14_1434]; exact (bm_n hk1).mp (hI.bx _ _)
              first | (have bx14_1434 : -1 ≤ x14_1434 ∧ x14_1434 ≤ 29 := nbx14_1434.1 (by omega)) | (have bx14_1434 : -1 ≤ x14_1434 ∧ x14_1434 ≤ 29 := nbx14_1434.2.1 (by omega)) | skip
              have cgx14_1434 : x14_1434 = M k1 (M k1 (21 + p2)) := by rw [ex14_1434, ← ex3_1310]
              refine ⟨(by first | assumption | exact (by omega)), ?_⟩
              refine ⟨fun c => ?_, fun c => ?_⟩
              · intro x17_1436 ex17_1436 rx17_1436
                have rbx17_1436 : -2147483648 ≤ x17_1436 ∧ x17_1436 ≤ 2147483647 := rx17_1436
                have nbx17_1436 : BN (b) x3_1310 x17_1436 := by rw [ex17_1436]; exact (bm_n hk1).mp (hI.bx _ _)
                first | (have bx17_1436 : -1 ≤ x17_1436 ∧ x17_1436 ≤ 29 := nbx17_1436.1 (by omega)) | (have bx17_1436 : -1 ≤ x17_1436 ∧ x17_1436 ≤ 29 := nbx17_1436.2.1 (by omega)) | skip
                have cgx17_1436 : x17_1436 = M k1 (M k1 (21 + p2)) := by rw [ex17_1436, ← ex3_1310]
                refine ⟨(by first | assumption | exact (by omega)), ?_⟩
                intro x19_1437 ex19_1437 rx19_1437
                unfold qX12_mournerGoes_J145
                refine ⟨by omega, ?_⟩
                refine ⟨by omega, ?_⟩
                refine ⟨(by first | assumption | exact (by omega)), ?_⟩
                intro M23_1438 h_M23_1438
                have hM23_1438 : IM (b) M23_1438 := by rw [h_M23_1438]; exact hI.up (isN.nu hk1 _) ((bm_n hk1).mpr (by first | assumption | exact ⟨by omega, by omega, by omega, by omega⟩))
                exact hQ _ (hM23_1438.mono (by first | exact Int.le_refl _ | omega))
              · intro x24_1440 ex24_1440 rx24_1440
                have rbx24_1440 : -2147483648 ≤ x24_1440 ∧ x24_1440 ≤ 2147483647 := rx24_1440
                have nbx24_1440 : BN (b) x3_1310 x24_1440 := by rw [ex24_1440]; exact (bm_n hk1).mp (hI.bx _ _)
                first | (have bx24_1440 : -1 ≤ x24_1440 ∧ x24_1440 ≤ 29 := nbx24_1440.1 (by omega)) | (have bx24_1440 : -1 ≤ x24_1440 ∧ x24_1440 ≤ 29 := nbx24_1440.2.1 (by omega)) | skip
                have cgx24_1440 : x24_1440 = M k1 (M k1 (21 + p2)) := by rw [ex24_1440, ← ex3_1310]
                refine ⟨(by first | assumption | exact (by omega)), ?_⟩
                intro x26_1441 ex26_1441 rx26_1441
                unfold qX12_mournerGoes_J145
                refine ⟨by omega, ?_⟩
                refine ⟨by omega, ?_⟩
                refine ⟨(by first | assumption | exact (by omega)), ?_⟩
                intro M23_1442 h_M23_1442
                have hM23_1442 : IM (b) M23_1442 := by rw [h_M23_1442]; exact hI.up (isN.nu hk1 _) ((bm_n hk1).mpr (by first | assumption | exact ⟨by omega, by omega, by omega, by omega⟩))
                exact hQ _ (hM23_1442.mono (by first | exact Int.le_refl _ | omega))
          · unfold qX12_mournerGoes_J75
            refine ⟨by omega, ?_⟩
            refine ⟨by omega, ?_⟩
            refine ⟨(by first | assumption | exact (by omega)), ?_⟩
            intro M32_1444 h_M32_1444
            have hM32_1444 : IM (b) M32_1444 := by rw [h_M32_1444]; exact hI.up (isN.nu hk1 _) ((bm_n hk1).mpr (by first | assumption | exact ⟨by omega, by omega, by omega, by omega⟩))
            intro x33_1445 ex33_1445 rx33_1445
            have bx33_1445 : -2147483648 ≤ x33_1445 ∧ x33_1445 ≤ 2147483647 := rx33_1445
            have fx33_1445 : x33_1445 = M 1 31 := by rw [ex33_1445, h_M32_1444, up2_n (by omega)]
            intro x34_1446 ex34_1446 rx34_1446
            first | (have fx34_1446 : x34_1446 = x33_1445 + 1 := by rw [ex34_1446]; exact w32_id (by omega)) | skip
            intro M35_1447 h_M35_1447
            have hM35_1447 : IM (b) M35_1447 := by rw [h_M35_1447]; exact hM32_1444.up (by omega) (by simp [BM])
            refine ⟨by omega, ?_⟩
            refine ⟨by omega, ?_⟩
            intro x38_1448 ex38_1448 rx38_1448
            have bx38_1448 : -2147483648 ≤ x38_1448 ∧ x38_1448 ≤ 2147483647 := rx38_1448
            have fx38_1448 : x38_1448 = M 17 p2 := by rw [ex38_1448, h_M35_1447, up2_n (by decide), h_M32_1444, up2_n (by omega)]
            intro x39_1449 ex39_1449 rx39_1449
            first | (have fx39_1449 : x39_1449 = x38_1448 + 1 := by rw [ex39_1449]; exact w32_id (by omega)) | skip
            intro M40_1450 h_M40_1450
            have hM40_1450 : IM (b) M40_1450 := by rw [h_M40_1450]; exact hM35_1447.up (by omega) (by simp [BM])
            unfold qX12_mournerGoes_J105
            refine ⟨(by first | assumption | exact (by omega)), ?_⟩
            refine ⟨fun c => ?_, fun c => ?_⟩
            · exact hQ _ (hM40_1450.mono (by first | exact Int.le_refl _ | omega))
            · refine ⟨by omega, ?_⟩
              refine ⟨by omega, ?_⟩
              intro x14_1453 ex14_1453 rx14_1453
              have rbx14_1453 : -2147483648 ≤ x14_1453 ∧ x14_1453 ≤ 2147483647 := rx14_1453
              have nbx14_1453 : BN (b) x8_1391 x14_1453 := by rw [ex14_1453]; exact (bm_n hk1).mp (hM40_1450.bx _ _)
              first | (have bx14_1453 : -1 ≤ x14_1453 ∧ x14_1453 ≤ 29 := nbx14_1453.1 (by omega)) | (have bx14_1453 : -1 ≤ x14_1453 ∧ x14_1453 ≤ 29 := nbx14_1453.2.1 (by omega)) | skip
              have fx14_1453 : x14_1453 = M32_1444 k1 x8_1391 := by rw [ex14_1453, h_M40_1450, up2_n (by omega), h_M35_1447, up2_n (by omega)]
              refine ⟨(by first | assumption | exact (by omega)), ?_⟩
              refine ⟨fun c => ?_, fun c => ?_⟩
              · intro x17_1455 ex17_1455 rx17_1455
                have rbx17_1455 : -2147483648 ≤ x17_1455 ∧ x17_1455 ≤ 2147483647 := rx17_1455
                have nbx17_1455 : BN (b) x8_1391 x17_1455 := by rw [ex17_1455]; exact (bm_n hk1).mp (hM40_1450.bx _ _)
                first | (have bx17_1455 : -1 ≤ x17_1455 ∧ x17_1455 ≤ 29 := nbx17_1455.1 (by omega)) | (have bx17_1455 : -1 ≤ x17_1455 ∧ x17_1455 ≤ 29 := nbx17_1455.2.1 (by omega)) | skip
                have fx17_1455 : x17_1455 = M32_1444 k1 x8_1391 := by rw [ex17_1455, h_M40_1450, up2_n (by omega), h_M35_1447, up2_n (by omega)]
                refine ⟨(by first | assumption | exact (by omega)), ?_⟩
                intro x19_1456 ex19_1456 rx19_1456
                unfold qX12_mournerGoes_J145
                refine ⟨by omega, ?_⟩
                refine ⟨by omega, ?_⟩
                refine ⟨(by first | assumption | exact (by omega)), ?_⟩
                intro M23_1457 h_M23_1457
                have hM23_1457 : IM (b) M23_1457 := by rw [h_M23_1457]; exact hM40_1450.up (isN.nu hk1 _) ((bm_n hk1).mpr (by first | assumption | exact ⟨by omega, by omega, by omega, by omega⟩))
                exact hQ _ (hM23_1457.mono (by first | exact Int.le_refl _ | omega))
              · intro x24_1459 ex24_1459 rx24_1459
                have rbx24_1459 : -2147483648 ≤ x24_1459 ∧ x24_1459 ≤ 2147483647 := rx24_1459
                have nbx24_1459 : BN (b) x8_1391 x24_1459 := by rw [ex24_1459]; exact (bm_n hk1).mp (hM40_1450.bx _ _)
                first | (have bx24_1459 : -1 ≤ x24_1459 ∧ x24_1459 ≤ 29 := nbx24_1459.1 (by omega)) | (have bx24_1459 : -1 ≤ x24_1459 ∧ x24_1459 ≤ 29 := nbx24_1459.2.1 (by omega)) | skip
                have fx24_1459 : x24_1459 = M32_1444 k1 x8_1391 := by rw [ex24_1459, h_M40_1450, up2_n (by omega), h_M35_1447, up2_n (by omega)]
                refine ⟨(by first | assumption | exact (by omega)), ?_⟩
                intro x26_1460 ex26_1460 rx26_1460
                unfold qX12_mournerGoes_J145
                refine ⟨by omega, ?_⟩
                refine ⟨by omega, ?_⟩
                refine ⟨(by first | assumption | exact (by omega)), ?_⟩
                intro M23_1461 h_M23_1461
                have hM23_1461 : IM (b) M23_1461 := by rw [h_M23_1461]; exact hM40_1450.up (isN.nu hk1 _) ((bm_n hk1).mpr (by first | assumption | exact ⟨by omega, by omega, by omega, by omega⟩))
                exact hQ _ (hM23_1461.mono (by first | exact Int.le_refl _ | omega))
    · refine ⟨by omega, ?_⟩
      refine ⟨by omega, ?_⟩
      intro M58_1463 h_M58_1463
      have hM58_1463 : IM (b) M58_1463 := by rw [h_M58_1463]; exact hI.up (isN.nu hk1 _) ((bm_n hk1).mpr (by first | assumption | exact ⟨by omega, by omega, by omega, by omega⟩))
      exact hQ _ (hM58_1463.mono (by first | exact Int.le_refl _ | omega))
theorem sX12_stepGoes_L34 {k1 : Nat} {X62 : Mem → Prop} {Q : Mem → Prop} {b : Int} (hb : b + 1 ≤ 2000000000) (hk1 : isN k1) (hQ : ∀ M' : Mem, IM (b + 1) M' → Q M') (hX62 : ∀ M' : Mem, IM (b) M' → X62 M') : ∀ (n : Nat) (v2 : Int) (M : Mem), IM (b) M → (0 ≤ v2 ∧ v2 ≤ 8) → 8 - v2 < (n : Int) → qX12_stepGoes_L34 k1 X62 Q n v2 M := by
  intro n
  induction n with
  | zero => intro v2 M hI hv hm; exact absurd hm (by omega)
  | succ n ih =>
    intro v2 M hI hv hm
    rw [qX12_stepGoes_L34]
    have hbn := hI.nn
    have ek1 : k1 = 5 ∨ k1 = 6 := hk1
    intro x10_1464 ex10_1464 rx10_1464
    have bx10_1464 : 0 ≤ x10_1464 ∧ x10_1464 ≤ 8 := by rw [ex10_1464]; exact bm_c1_5.mp (hI.bx _ _)
    refine ⟨(by first | assumption | exact (by omega)), ?_⟩
    refine ⟨fun c => ?_, fun c => ?_⟩
    · exact hX62 _ (hI.mono (by first | exact Int.le_refl _ | omega))
    · refine sX12_isEnded (p1 := v2) hI hk1 (by omega) ?_
      intro x13_1467 q1468 q1469
      refine ⟨fun c => ?_, fun c => ?_⟩
      · exact ih _ _ (hI.mono (by first | exact Int.le_refl _ | omega)) (by omega) (by omega)
      · refine sX12_mournerGoes (p2 := v2) hI hk1 (by omega) ?_
        intro M15_1472 hM15_1472
        exact ih _ _ (hM15_1472.mono (by first | exact Int.le_refl _ | omega)) (by omega) (by omega)
theorem sX12_stepGoes_L7 {k1 : Nat} {X32 : Mem → Prop} {Q : Mem → Prop} {b : Int} (hk1 : isN k1) (hX : ∀ M' : Mem, IM b M' → X32 M') : ∀ (n : Nat) (v2 : Int) (M : Mem), IM b M → (0 ≤ v2 ∧ v2 ≤ 6) → (∀ i, v2 ≤ i → i < M 1 35 → 0 ≤ M k1 (M 18 i)) → (∀ i j, 0 ≤ i → i < j → j < M 1 35 → M 18 i ≠ M 18 j) → 6 - v2 < (n : Int) → qX12_stepGoes_L7 k1 X32 Q n v2 M := by
  intro n
  induction n with
  | zero => intro v2 M hI hv h2 h3 hm; exact absurd hm (by omega)
  | succ n ih =>
    intro v2 M hI hv h2 h3 hm
    have hk5 : k1 = 5 ∨ k1 = 6 := hk1
    rw [qX12_stepGoes_L7]
    intro x2 e2 _
    have b2 : 0 ≤ x2 ∧ x2 ≤ 6 := by rw [e2]; exact bm_c1_35.mp (hI.bx _ _)
    refine ⟨(by omega), ⟨fun c => hX _ hI, fun c => ?_⟩⟩
    refine ⟨by omega, by omega, ?_⟩
    intro x7 e7 _
    have b7 : 0 ≤ x7 ∧ x7 ≤ 5 := by rw [e7]; exact bm_c18.mp (hI.bx _ _)
    have ho := h2 v2 (by omega) (by omega)
    rw [← e7] at ho
    refine sX12_hearseGoes (p2 := x7) hI hk1 ⟨by omega, by omega, ho⟩ ?_
    intro M8 h8 g8
    have g1 : M8 1 35 = M 1 35 := g8 1 35 (by omega)
    have g2 : ∀ i, M8 18 i = M 18 i := fun i => g8 18 i (by omega)
    refine ih _ _ h8 (by omega) ?_ ?_ (by omega)
    · intro i a q
      rw [g1] at q
      have hb := bm_c18.mp (hI.bx 18 i)
      have hd := h3 v2 i (by omega) (by omega) q
      rw [g2, g8 k1 (M 18 i) (by omega)]
      exact h2 i (by omega) q
    · intro i j a q r
      rw [g1] at r
      rw [g2, g2]
      exact h3 i j a q r
theorem sX12_stepGoes {k1 : Nat} {b : Int} {M : Mem} {Q : Mem → Prop} (hI : IM b M) (hb : b + 1 ≤ 2000000000) (hk1 : isN k1) (hQ : ∀ M' : Mem, IM (b + 1) M' → Q M') : qX12_stepGoes k1 M Q := by
  have hk5 : k1 = 5 ∨ k1 = 6 := hk1
  unfold qX12_stepGoes
  refine sX12_laysLineF hI hk1 ?_
  intro M1 h1 l1
  refine ⟨7, sX12_stepGoes_L7 (b := b) hk1 ?_ _ _ _ h1 (by omega) l1.1 l1.2 (by omega)⟩
  intro M2 h2
  refine ⟨9, sX12_stepGoes_L34 (b := b) hb hk1 hQ ?_ _ _ _ h2 (by omega) (by omega)⟩
  intro M3 h3 x17 e17 _
  have b17 : 0 ≤ x17 ∧ x17 ≤ b := by rw [e17]; exact ((bm_n hk1).mp (h3.bx _ _)).2.2.2 rfl
  refine ⟨(by omega), ?_⟩
  intro M19 h19
  refine hQ _ ?_
  rw [h19]
  exact (h3.mono (by first | exact Int.le_refl _ | omega)).up (isN.nu hk1 _) ((bm_n hk1).mpr ⟨by omega, by omega, by omega, by omega⟩)
theorem sX12_goesOn_L12 {k1 : Nat} {p2 : Int} {X31 : Mem → Prop} {Q : Mem → Prop} {b : Int} (hb : b + 200 ≤ 2000000000) (hk1 : isN k1) (hp : p2 ≤ 200) (hQ : ∀ M' : Mem, IM (b + 200) M' → Q M') (hX31 : ∀ M' : Mem, IM (b) M' → X31 M') : ∀ (n : Nat) (v3 : Int) (M : Mem), IM (b) M → (0 ≤ v3 ∧ v3 ≤ 30) → 30 - v3 < (n : Int) → qX12_goesOn_L12 k1 p2 X31 Q n v3 M := by
  intro n
  induction n with
  | zero => intro v3 M hI hv hm; exact absurd hm (by omega)
  | succ n ih =>
    intro v3 M hI hv hm
    rw [qX12_goesOn_L12]
    have hbn := hI.nn
    have ek1 : k1 = 5 ∨ k1 = 6 := hk1
    refine ⟨(by first | assumption | exact (by omega)), ?_⟩
    refine ⟨fun c => ?_, fun c => ?_⟩
    · exact hX31 _ (hI.mono (by first | exact Int.le_refl _ | omega))
    · refine ⟨by omega, ?_⟩
      refine ⟨by omega, ?_⟩
      intro M7_1475 h_M7_1475
      have hM7_1475 : IM (b) M7_1475 := by rw [h_M7_1475]; exact hI.up (by omega) (by simp [BM])
      exact ih _ _ (hM7_1475.mono (by first | exact Int.le_refl _ | omega)) (by omega) (by omega)
theorem sX12_goesOn_L33 {k1 : Nat} {p2 : Int} {X52 : Mem → Prop} {Q : Mem → Prop} {b : Int} (hb : b + 200 ≤ 2000000000) (hk1 : isN k1) (hp : p2 ≤ 200) (hQ : ∀ M' : Mem, IM (b + 200) M' → Q M') (hX52 : ∀ M' : Mem, IM (b) M' → X52 M') : ∀ (n : Nat) (v3 : Int) (M : Mem), IM (b) M → (0 ≤ v3 ∧ v3 ≤ 8) → 8 - v3 < (n : Int) → qX12_goesOn_L33 k1 p2 X52 Q n v3 M := by
  intro n
  induction n with
  | zero => intro v3 M hI hv hm; exact absurd hm (by omega)
  | succ n ih =>
    intro v3 M hI hv hm
    rw [qX12_goesOn_L33]
    have hbn := hI.nn
    have ek1 : k1 = 5 ∨ k1 = 6 := hk1
    refine ⟨(by first | assumption | exact (by omega)), ?_⟩
    refine ⟨fun c => ?_, fun c => ?_⟩
    · exact hX52 _ (hI.mono (by first | exact Int.le_refl _ | omega))
    · refine ⟨by omega, ?_⟩
      refine ⟨by omega, ?_⟩
      intro M13_1478 h_M13_1478
      have hM13_1478 : IM (b) M13_1478 := by rw [h_M13_1478]; exact hI.up (by omega) (by simp [BM])
      exact ih _ _ (hM13_1478.mono (by first | exact Int.le_refl _ | omega)) (by omega) (by omega)
theorem sX12_goesOn_L54 {k1 : Nat} {p2 : Int}  {Q : Mem → Prop} {b : Int} (hb : b + 200 ≤ 2000000000) (hk1 : isN k1) (hp : p2 ≤ 200) (hQ : ∀ M' : Mem, IM (b + 200) M' → Q M') : ∀ (n : Nat) (v3 : Int) (M : Mem), IM (b + v3) M → (0 ≤ v3 ∧ v3 ≤ 200) → 200 - v3 < (n : Int) → qX12_goesOn_L54 k1 p2 Q n v3 M := by
  intro n
  induction n with
  | zero => intro v3 M hI hv hm; exact absurd hm (by omega)
  | succ n ih =>
    intro v3 M hI hv hm
    rw [qX12_goesOn_L54]
    have hbn := hI.nn
    have ek1 : k1 = 5 ∨ k1 = 6 := hk1
    refine ⟨(by first | assumption | exact (by omega)), ?_⟩
    refine ⟨fun c => ?_, fun c => ?_⟩
    · exact hQ _ (hI.mono (by first | exact Int.le_refl _ | omega))
    · refine sX12_stepGoes  hI (by omega) hk1 ?_
      intro M17_1481 hM17_1481
      exact ih _ _ (hM17_1481.mono (by first | exact Int.le_refl _ | omega)) (by omega) (by omega)
theorem sX12_goesOn {k1 : Nat} {p2 : Int} {b : Int} {M : Mem} {Q : Mem → Prop} (hI : IM b M) (hb : b + 200 ≤ 2000000000) (hk1 : isN k1) (hp : p2 ≤ 200) (hQ : ∀ M' : Mem, IM (b + 200) M' → Q M') : qX12_goesOn k1 p2 M Q := by
  unfold qX12_goesOn
  have hbn := hI.nn
  have ek1 : k1 = 5 ∨ k1 = 6 := hk1
  intro M1_1482 h_M1_1482
  have hM1_1482 : IM (b) M1_1482 := by rw [h_M1_1482]; exact hI.up (by omega) (by simp [BM])
  intro M2_1483 h_M2_1483
  have hM2_1483 : IM (b) M2_1483 := by rw [h_M2_1483]; exact hM1_1482.up (by omega) (by simp [BM])
  refine ⟨31, ?_⟩
  refine sX12_goesOn_L12 (b := b) (p2 := p2) hb hk1 hp ?_ ?_ _ _ _ (hM2_1483.mono (by first | exact Int.le_refl _ | omega)) (by omega) (by omega)
  · exact hQ
  · intro M_1484 hM_1484
    refine ⟨9, ?_⟩
    refine sX12_goesOn_L33 (b := b) (p2 := p2) hb hk1 hp ?_ ?_ _ _ _ (hM_1484.mono (by first | exact Int.le_refl _ | omega)) (by omega) (by omega)
    · exact hQ
    · intro M_1485 hM_1485
      refine ⟨201, ?_⟩
      refine sX12_goesOn_L54 (b := b) (p2 := p2) hb hk1 hp ?_ _ _ _ (hM_1485.mono (by first | exact Int.le_refl _ | omega)) (by omega) (by omega)
      · exact hQ
theorem sX12_putsBy_L2   {Q : Mem → Prop} {b : Int} (hQ : ∀ M' : Mem, IM b M' → Q M') : ∀ (n : Nat) (v1 : Int) (M : Mem), IM (b) M → (0 ≤ v1 ∧ v1 ≤ 38) → 38 - v1 < (n : Int) → qX12_putsBy_L2 Q n v1 M := by
  intro n
  induction n with
  | zero => intro v1 M hI hv hm; exact absurd hm (by omega)
  | succ n ih =>
    intro v1 M hI hv hm
    rw [qX12_putsBy_L2]
    have hbn := hI.nn
    refine ⟨(by first | assumption | exact (by omega)), ?_⟩
    refine ⟨fun c => ?_, fun c => ?_⟩
    · exact hQ _ (hI.mono (by first | exact Int.le_refl _ | omega))
    · intro x3_1488 ex3_1488 rx3_1488
      have bx3_1488 : 0 ≤ x3_1488 ∧ x3_1488 ≤ 15 := by rw [ex3_1488]; exact bm_c1_28.mp (hI.bx _ _)
      refine ⟨by omega, ?_⟩
      refine ⟨by omega, ?_⟩
      intro x6_1489 ex6_1489 rx6_1489
      have rbx6_1489 : -2147483648 ≤ x6_1489 ∧ x6_1489 ≤ 2147483647 := rx6_1489
      have nbx6_1489 : BN (b) v1 x6_1489 := by rw [ex6_1489]; exact (bm_n (Or.inl rfl)).mp (hI.bx _ _)
      first | (have bx6_1489 : -1 ≤ x6_1489 ∧ x6_1489 ≤ 29 := nbx6_1489.1 (by omega)) | (have bx6_1489 : -1 ≤ x6_1489 ∧ x6_1489 ≤ 29 := nbx6_1489.2.1 (by omega)) | skip
      refine ⟨by omega, ?_⟩
      refine ⟨by omega, ?_⟩
      intro M9_1490 h_M9_1490
      have hM9_1490 : IM (b) M9_1490 := by rw [h_M9_1490]; exact hI.up (by omega) (bm_c15.mpr (by rw [show (38 * x3_1488 + v1) % 38 = v1 from by omega]; assumption))
      exact ih _ _ (hM9_1490.mono (by first | exact Int.le_refl _ | omega)) (by omega) (by omega)
theorem sX12_putsBy  {b : Int} {M : Mem} {Q : Mem → Prop} (hI : IM b M) (hQ : ∀ M' : Mem, IM b M' → Q M') : qX12_putsBy M Q := by
  unfold qX12_putsBy
  have hbn := hI.nn
  refine ⟨39, ?_⟩
  refine sX12_putsBy_L2 (b := b)  ?_ _ _ _ (hI.mono (by first | exact Int.le_refl _ | omega)) (by omega) (by omega)
  · exact hQ
theorem sX12_steps {p1 : Int} {b : Int} {M : Mem} {Q : Int → Mem → Prop} (hI : IM b M) (hb : b + 200 ≤ 2000000000) (hQ : ∀ z : Int, ∀ M' : Mem, IM (b + 200) M' → Q z M') : qX12_steps p1 M Q := by
  unfold qX12_steps
  have hbn := hI.nn
  intro M1_1491 h_M1_1491
  have hM1_1491 : IM (b) M1_1491 := by rw [h_M1_1491]; exact hI.up (by omega) (by simp [BM])
  refine sX12_in (p0 := p1) (p2 := 0) (p4 := 60) hM1_1491  ?_
  intro x2_1492 p1493 q1494 q1495
  refine ⟨fun c => ?_, fun c => ?_⟩
  · refine sX12_putsBy  hM1_1491  ?_
    intro M4_1497 hM4_1497
    refine sX12_goesOn (p2 := p1) hM4_1497 (by omega) (Or.inl rfl) (by omega) ?_
    intro M5_1498 hM5_1498
    intro M6_1499 h_M6_1499
    have hM6_1499 : IM (b + 200) M6_1499 := by rw [h_M6_1499]; exact hM5_1498.up (by omega) (bm_c1_1.mpr (by omega))
    intro x7_1500 ex7_1500 rx7_1500
    have bx7_1500 : -2147483648 ≤ x7_1500 ∧ x7_1500 ≤ 2147483647 := rx7_1500
    have fx7_1500 : x7_1500 = M5_1498 1 30 := by rw [ex7_1500, h_M6_1499, up2_j (by decide)]
    have u1501 : 0 ≤ M6_1499 1 1 ∧ M6_1499 1 1 ≤ 24 := bm_c1_1.mp (hM6_1499.bx _ _)
    have t1502 : M6_1499 1 1 = 0 := by rw [h_M6_1499, up2_s]
    refine sX12_enters (p1 := x7_1500) hM6_1499 (by omega) ?_
    intro M8_1503 hM8_1503 p1504
    intro x9_1505 ex9_1505 rx9_1505
    have bx9_1505 : -2147483648 ≤ x9_1505 ∧ x9_1505 ≤ 2147483647 := rx9_1505
    have u1506 : 0 ≤ M8_1503 1 1 ∧ M8_1503 1 1 ≤ 24 := bm_c1_1.mp (hM8_1503.bx _ _)
    refine sX12_enters (p1 := x9_1505) hM8_1503 (by omega) ?_
    intro M10_1507 hM10_1507 p1508
    intro x11_1509 ex11_1509 rx11_1509
    have bx11_1509 : -2147483648 ≤ x11_1509 ∧ x11_1509 ≤ 2147483647 := rx11_1509
    refine sX12_adds (p1 := x11_1509) hM10_1507  ?_
    intro x12_1510 M12_1511 hM12_1511 q1512
    exact hQ _ _ (hM12_1511.mono (by first | exact Int.le_refl _ | omega))
  · exact hQ _ _ (hM1_1491.mono (by first | exact Int.le_refl _ | omega))
theorem sX12_counted {p1 : Int} {b : Int} {M : Mem} {Q : Int → Mem → Prop} (hI : IM b M) (hQ : ∀ z : Int, ∀ M' : Mem, IM b M' → Q z M') : qX12_counted p1 M Q := by
  unfold qX12_counted
  have hbn := hI.nn
  refine ⟨fun c => ?_, fun c => ?_⟩
  · unfold qX12_counted_J14
    refine sX12_adds (p1 := p1) hI  ?_
    intro x2_1515 M2_1516 hM2_1516 q1517
    exact hQ _ _ (hM2_1516.mono (by first | exact Int.le_refl _ | omega))
  · refine ⟨fun c => ?_, fun c => ?_⟩
    · unfold qX12_counted_J14
      refine sX12_adds (p1 := p1) hI  ?_
      intro x2_1520 M2_1521 hM2_1521 q1522
      exact hQ _ _ (hM2_1521.mono (by first | exact Int.le_refl _ | omega))
    · exact hQ _ _ (hI.mono (by first | exact Int.le_refl _ | omega))
theorem sX12_turnsOne {k1 : Nat} {p2 : Int} {b : Int} {M : Mem} {Q : Int → Mem → Prop} (hI : IM b M) (hk1 : isN k1) (hQ : ∀ z : Int, ∀ M' : Mem, IM b M' → Q z M') : qX12_turnsOne k1 p2 M Q := by
  unfold qX12_turnsOne
  have hbn := hI.nn
  have ek1 : k1 = 5 ∨ k1 = 6 := hk1
  refine sX12_isMourner (p1 := p2) hI  ?_
  intro x1_1524 p1525 q1526 q1527
  refine ⟨fun c => ?_, fun c => ?_⟩
  · refine sX12_isEnded (p1 := p2) hI hk1 (by omega) ?_
    intro x3_1529 q1530 q1531
    refine ⟨fun c => ?_, fun c => ?_⟩
    · refine ⟨by omega, ?_⟩
      refine ⟨by omega, ?_⟩
      intro x7_1533 ex7_1533 rx7_1533
      have rbx7_1533 : -2147483648 ≤ x7_1533 ∧ x7_1533 ≤ 2147483647 := rx7_1533
      first | (have bx7_1533 : -1 ≤ x7_1533 ∧ x7_1533 ≤ 5 := by rw [ex7_1533]; exact ((bm_n hk1).mp (hI.bx _ _)).2.2.1 (by omega)) | skip
      refine ⟨by omega, ?_⟩
      refine ⟨by omega, ?_⟩
      intro x10_1534 ex10_1534 rx10_1534
      have bx10_1534 : 0 ≤ x10_1534 ∧ x10_1534 ≤ 5 := by rw [ex10_1534]; exact bm_c3.mp (hI.bx _ _)
      refine sX12_isOn (p1 := x10_1534) hI hk1 (by omega) ?_
      intro x11_1535 p1536 q1537 q1538
      refine ⟨fun c => ?_, fun c => ?_⟩
      · exact hQ _ _ (hI.mono (by first | exact Int.le_refl _ | omega))
      · intro x13_1541 ex13_1541 rx13_1541
        have bx13_1541 : 0 ≤ x13_1541 ∧ x13_1541 ≤ 5 := by rw [ex13_1541]; exact bm_c3.mp (hI.bx _ _)
        refine ⟨fun c => ?_, fun c => ?_⟩
        · intro x15_1543 ex15_1543 rx15_1543
          have bx15_1543 : 0 ≤ x15_1543 ∧ x15_1543 ≤ 5 := by rw [ex15_1543]; exact bm_c3.mp (hI.bx _ _)
          intro M16_1544 h_M16_1544
          have hM16_1544 : IM (b) M16_1544 := by rw [h_M16_1544]; exact hI.up (isN.nu hk1 _) ((bm_n hk1).mpr (by first | assumption | exact ⟨by omega, by omega, by omega, by omega⟩))
          refine ⟨fun c => ?_, fun c => ?_⟩
          · exact hQ _ _ (hM16_1544.mono (by first | exact Int.le_refl _ | omega))
          · exact hQ _ _ (hM16_1544.mono (by first | exact Int.le_refl _ | omega))
        · exact hQ _ _ (hI.mono (by first | exact Int.le_refl _ | omega))
    · exact hQ _ _ (hI.mono (by first | exact Int.le_refl _ | omega))
  · exact hQ _ _ (hI.mono (by first | exact Int.le_refl _ | omega))
end
section
theorem sX12_turnsTo {p1 : Int} {b : Int} {M : Mem} {Q : Int → Mem → Prop} (hI : IM b M) (hQ : ∀ z : Int, ∀ M' : Mem, IM b M' → Q z M') : qX12_turnsTo p1 M Q := by
  unfold qX12_turnsTo
  have hbn := hI.nn
  intro M1_1550 h_M1_1550
  have hM1_1550 : IM (b) M1_1550 := by rw [h_M1_1550]; exact hI.up (by omega) (by simp [BM])
  refine sX12_putsBy  hM1_1550  ?_
  intro M2_1551 hM2_1551
  refine sX12_turnsOne (p2 := p1) hM2_1551 (Or.inl rfl) ?_
  intro x3_1552 M3_1553 hM3_1553 q1554
  refine sX12_counted (p1 := x3_1552) hM3_1553  ?_
  intro x4_1555 M4_1556 hM4_1556 q1557
  exact hQ _ _ (hM4_1556.mono (by first | exact Int.le_refl _ | omega))
theorem sX12_pushesOne {k1 : Nat} {p2 : Int} {p3 : Int} {b : Int} {M : Mem} {Q : Int → Mem → Prop} (hI : IM b M) (hk1 : isN k1) (hQ : ∀ z : Int, ∀ M' : Mem, IM b M' → Q z M') : qX12_pushesOne k1 p2 p3 M Q := by
  unfold qX12_pushesOne
  have hbn := hI.nn
  have ek1 : k1 = 5 ∨ k1 = 6 := hk1
  refine sX12_isMourner (p1 := p2) hI  ?_
  intro x1_1558 p1559 q1560 q1561
  refine ⟨fun c => ?_, fun c => ?_⟩
  · exact hQ _ _ (hI.mono (by first | exact Int.le_refl _ | omega))
  · refine sX12_in (p0 := p3) (p2 := (-9)) (p4 := 9) hI  ?_
    intro x3_1564 p1565 q1566 q1567
    refine ⟨fun c => ?_, fun c => ?_⟩
    · exact hQ _ _ (hI.mono (by first | exact Int.le_refl _ | omega))
    · refine ⟨fun c => ?_, fun c => ?_⟩
      · refine sX12_isEnded (p1 := p2) hI hk1 (by omega) ?_
        intro x6_1571 q1572 q1573
        refine ⟨fun c => ?_, fun c => ?_⟩
        · refine sX12_gate  hI  ?_
          intro x8_1575 p1576 q1577
          refine ⟨by omega, ?_⟩
          refine ⟨by omega, ?_⟩
          intro x11_1578 ex11_1578 rx11_1578
          have rbx11_1578 : -2147483648 ≤ x11_1578 ∧ x11_1578 ≤ 2147483647 := rx11_1578
          first | (have bx11_1578 : -1 ≤ x11_1578 ∧ x11_1578 ≤ 29 := by rw [ex11_1578]; exact ((bm_n hk1).mp (hI.bx _ _)).2.1 (by omega)) | skip
          refine ⟨(by first | assumption | exact (by omega)), ?_⟩
          refine ⟨(by first | assumption | exact (by omega)), ?_⟩
          intro x14_1579 ex14_1579 rx14_1579
          intro x15_1580 ex15_1580 rx15_1580
          intro M16_1581 h_M16_1581
          have hM16_1581 : IM (b) M16_1581 := by rw [h_M16_1581]; exact hI.up (isN.nu hk1 _) ((bm_n hk1).mpr (by first | assumption | exact ⟨by omega, by omega, by omega, by omega⟩))
          intro x17_1582 ex17_1582 rx17_1582
          have rbx17_1582 : -2147483648 ≤ x17_1582 ∧ x17_1582 ≤ 2147483647 := rx17_1582
          first | (have bx17_1582 : -1 ≤ x17_1582 ∧ x17_1582 ≤ 29 := by rw [ex17_1582]; exact ((bm_n hk1).mp (hM16_1581.bx _ _)).2.1 (by omega)) | skip
          have fx17_1582 : x17_1582 = x15_1580 := by rw [ex17_1582, h_M16_1581, up2_s]
          exact hQ _ _ (hM16_1581.mono (by first | exact Int.le_refl _ | omega))
        · exact hQ _ _ (hI.mono (by first | exact Int.le_refl _ | omega))
      · exact hQ _ _ (hI.mono (by first | exact Int.le_refl _ | omega))
theorem sX12_pushes {p1 : Int} {p2 : Int} {b : Int} {M : Mem} {Q : Int → Mem → Prop} (hI : IM b M) (hQ : ∀ z : Int, ∀ M' : Mem, IM b M' → Q z M') : qX12_pushes p1 p2 M Q := by
  unfold qX12_pushes
  have hbn := hI.nn
  intro M1_1585 h_M1_1585
  have hM1_1585 : IM (b) M1_1585 := by rw [h_M1_1585]; exact hI.up (by omega) (by simp [BM])
  refine sX12_putsBy  hM1_1585  ?_
  intro M2_1586 hM2_1586
  refine sX12_pushesOne (p2 := p1) (p3 := p2) hM2_1586 (Or.inl rfl) ?_
  intro x3_1587 M3_1588 hM3_1588 q1589
  refine sX12_counted (p1 := x3_1587) hM3_1588  ?_
  intro x4_1590 M4_1591 hM4_1591 q1592
  exact hQ _ _ (hM4_1591.mono (by first | exact Int.le_refl _ | omega))
theorem sX12_swapsTwo {p1 : Int} {p2 : Int} {b : Int} {M : Mem} {Q : Int → Mem → Prop} (hI : IM b M) (hQ : ∀ z : Int, ∀ M' : Mem, IM b M' → Q z M') : qX12_swapsTwo p1 p2 M Q := by
  unfold qX12_swapsTwo
  have hbn := hI.nn
  refine sX12_isHearse (p1 := p1) hI  ?_
  intro x1_1593 p1594 q1595 q1596
  refine ⟨fun c => ?_, fun c => ?_⟩
  · exact hQ _ _ (hI.mono (by first | exact Int.le_refl _ | omega))
  · refine sX12_isHearse (p1 := p2) hI  ?_
    intro x3_1599 p1600 q1601 q1602
    refine ⟨fun c => ?_, fun c => ?_⟩
    · exact hQ _ _ (hI.mono (by first | exact Int.le_refl _ | omega))
    · refine ⟨fun c => ?_, fun c => ?_⟩
      · refine sX12_isOn (p1 := p1) hI (Or.inl rfl) (by omega) ?_
        intro x6_1606 p1607 q1608 q1609
        refine ⟨fun c => ?_, fun c => ?_⟩
        · exact hQ _ _ (hI.mono (by first | exact Int.le_refl _ | omega))
        · refine sX12_isOn (p1 := p2) hI (Or.inl rfl) (by omega) ?_
          intro x8_1612 p1613 q1614 q1615
          refine ⟨fun c => ?_, fun c => ?_⟩
          · refine ⟨by omega, ?_⟩
            refine ⟨by omega, ?_⟩
            intro x12_1617 ex12_1617 rx12_1617
            have rbx12_1617 : -2147483648 ≤ x12_1617 ∧ x12_1617 ≤ 2147483647 := rx12_1617
            have nbx12_1617 : BN (b) p1 x12_1617 := by rw [ex12_1617]; exact (bm_n (Or.inl rfl)).mp (hI.bx _ _)
            first | (have bx12_1617 : -1 ≤ x12_1617 ∧ x12_1617 ≤ 29 := nbx12_1617.1 (by omega)) | (have bx12_1617 : -1 ≤ x12_1617 ∧ x12_1617 ≤ 29 := nbx12_1617.2.1 (by omega)) | skip
            refine ⟨by omega, ?_⟩
            refine ⟨by omega, ?_⟩
            intro x15_1618 ex15_1618 rx15_1618
            have rbx15_1618 : -2147483648 ≤ x15_1618 ∧ x15_1618 ≤ 2147483647 := rx15_1618
            have nbx15_1618 : BN (b) p2 x15_1618 := by rw [ex15_1618]; exact (bm_n (Or.inl rfl)).mp (hI.bx _ _)
            first | (have bx15_1618 : -1 ≤ x15_1618 ∧ x15_1618 ≤ 29 := nbx15_1618.1 (by omega)) | (have bx15_1618 : -1 ≤ x15_1618 ∧ x15_1618 ≤ 29 := nbx15_1618.2.1 (by omega)) | skip
            intro M16_1619 h_M16_1619
            have hM16_1619 : IM (b) M16_1619 := by rw [h_M16_1619]; exact hI.up (isN.nu (Or.inl rfl) _) ((bm_n (Or.inl rfl)).mpr (by first | assumption | exact ⟨by omega, by omega, by omega, by omega⟩))
            intro M17_1620 h_M17_1620
            have hM17_1620 : IM (b) M17_1620 := by rw [h_M17_1620]; exact hM16_1619.up (isN.nu (Or.inl rfl) _) ((bm_n (Or.inl rfl)).mpr (by first | assumption | exact ⟨by omega, by omega, by omega, by omega⟩))
            intro x18_1621 ex18_1621 rx18_1621
            have rbx18_1621 : -2147483648 ≤ x18_1621 ∧ x18_1621 ≤ 2147483647 := rx18_1621
            have nbx18_1621 : BN (b) p1 x18_1621 := by rw [ex18_1621]; exact (bm_n (Or.inl rfl)).mp (hM17_1620.bx _ _)
            first | (have bx18_1621 : -1 ≤ x18_1621 ∧ x18_1621 ≤ 29 := nbx18_1621.1 (by omega)) | (have bx18_1621 : -1 ≤ x18_1621 ∧ x18_1621 ≤ 29 := nbx18_1621.2.1 (by omega)) | skip
            intro x19_1622 ex19_1622 rx19_1622
            have rbx19_1622 : -2147483648 ≤ x19_1622 ∧ x19_1622 ≤ 2147483647 := rx19_1622
            have nbx19_1622 : BN (b) p2 x19_1622 := by rw [ex19_1622]; exact (bm_n (Or.inl rfl)).mp (hM17_1620.bx _ _)
            first | (have bx19_1622 : -1 ≤ x19_1622 ∧ x19_1622 ≤ 29 := nbx19_1622.1 (by omega)) | (have bx19_1622 : -1 ≤ x19_1622 ∧ x19_1622 ≤ 29 := nbx19_1622.2.1 (by omega)) | skip
            have fx19_1622 : x19_1622 = x12_1617 := by rw [ex19_1622, h_M17_1620, up2_s]
            refine ⟨(by first | assumption | exact (by omega)), ?_⟩
            intro x21_1623 px21_1623 nx21_1623
            have bx21_1623 : 0 ≤ x21_1623 ∧ (x18_1621 - x19_1622 = x21_1623 ∨ x18_1621 - x19_1622 = -x21_1623) := by omega
            refine ⟨(by first | assumption | exact (by omega)), ?_⟩
            exact hQ _ _ (hM17_1620.mono (by first | exact Int.le_refl _ | omega))
          · exact hQ _ _ (hI.mono (by first | exact Int.le_refl _ | omega))
      · exact hQ _ _ (hI.mono (by first | exact Int.le_refl _ | omega))
theorem sX12_swaps {p1 : Int} {p2 : Int} {b : Int} {M : Mem} {Q : Int → Mem → Prop} (hI : IM b M) (hQ : ∀ z : Int, ∀ M' : Mem, IM b M' → Q z M') : qX12_swaps p1 p2 M Q := by
  unfold qX12_swaps
  have hbn := hI.nn
  intro M1_1626 h_M1_1626
  have hM1_1626 : IM (b) M1_1626 := by rw [h_M1_1626]; exact hI.up (by omega) (by simp [BM])
  refine sX12_putsBy  hM1_1626  ?_
  intro M2_1627 hM2_1627
  refine sX12_swapsTwo (p1 := p1) (p2 := p2) hM2_1627  ?_
  intro x3_1628 M3_1629 hM3_1629 q1630
  refine sX12_counted (p1 := x3_1628) hM3_1629  ?_
  intro x4_1631 M4_1632 hM4_1632 q1633
  exact hQ _ _ (hM4_1632.mono (by first | exact Int.le_refl _ | omega))
theorem sX12_does_L46 {p1 : Int}  {Q : Int → Mem → Prop} {b : Int} (hb : b + 10 ≤ 2000000000) (hp : 0 ≤ p1 ∧ p1 ≤ 59) (hQ : ∀ z : Int, ∀ M' : Mem, IM (b + 10) M' → Q z M') : ∀ (n : Nat) (v2 v3 : Int) (M : Mem), IM (b + v3) M → (0 ≤ v3 ∧ v3 ≤ 9 ∧ v2 ≤ 9 ∧ -1 ≤ v2) → 9 - v3 < (n : Int) → qX12_does_L46 p1 Q n v2 v3 M := by
  intro n
  induction n with
  | zero => intro v2 v3 M hI hv hm; exact absurd hm (by omega)
  | succ n ih =>
    intro v2 v3 M hI hv hm
    rw [qX12_does_L46]
    have hbn := hI.nn
    refine ⟨(by first | assumption | exact (by omega)), ?_⟩
    refine ⟨(by first | assumption | exact (by omega)), ?_⟩
    refine ⟨fun c => ?_, fun c => ?_⟩
    · exact hQ _ _ (hI.mono (by first | exact Int.le_refl _ | omega))
    · refine sX12_stepGoes  hI (by omega) (Or.inl rfl) ?_
      intro M9_1636 hM9_1636
      exact ih _ _ _ (hM9_1636.mono (by first | exact Int.le_refl _ | omega)) (by omega) (by omega)
theorem sX12_does {p1 : Int} {b : Int} {M : Mem} {Q : Int → Mem → Prop} (hI : IM b M) (hb : b + 10 ≤ 2000000000) (hp : 0 ≤ p1 ∧ p1 ≤ 59) (hQ : ∀ z : Int, ∀ M' : Mem, IM (b + 10) M' → Q z M') : qX12_does p1 M Q := by
  unfold qX12_does
  have hbn := hI.nn
  refine ⟨by omega, ?_⟩
  refine ⟨by omega, ?_⟩
  intro x3_1637 ex3_1637 rx3_1637
  have bx3_1637 : -1 ≤ x3_1637 ∧ x3_1637 ≤ 9 := by rw [ex3_1637]; exact bm_c20.mp (hI.bx _ _)
  intro x4_1638 ex4_1638 rx4_1638
  have bx4_1638 : -2147483648 ≤ x4_1638 ∧ x4_1638 ≤ 2147483647 := rx4_1638
  refine ⟨fun c => ?_, fun c => ?_, fun c => ?_, fun c => ?_, fun c => ?_⟩
  · refine ⟨10, ?_⟩
    refine sX12_does_L46 (b := b) (p1 := p1) hb hp ?_ _ _ _ _ (hI.mono (by first | exact Int.le_refl _ | omega)) (by omega) (by omega)
    · exact hQ
  · refine sX12_turnsOne (p2 := x3_1637) hI (Or.inl rfl) ?_
    intro x11_1641 M11_1642 hM11_1642 q1643
    refine ⟨fun c => ?_, fun c => ?_⟩
    · exact hQ _ _ (hM11_1642.mono (by first | exact Int.le_refl _ | omega))
    · refine ⟨fun c => ?_, fun c => ?_⟩
      · exact hQ _ _ (hM11_1642.mono (by first | exact Int.le_refl _ | omega))
      · exact hQ _ _ (hM11_1642.mono (by first | exact Int.le_refl _ | omega))
  · intro x14_1649 ex14_1649 rx14_1649
    have bx14_1649 : -100 ≤ x14_1649 ∧ x14_1649 ≤ 300 := by rw [ex14_1649]; exact bm_c21.mp (hI.bx _ _)
    refine sX12_pushesOne (p2 := x3_1637) (p3 := x14_1649) hI (Or.inl rfl) ?_
    intro x15_1650 M15_1651 hM15_1651 q1652
    refine ⟨fun c => ?_, fun c => ?_⟩
    · exact hQ _ _ (hM15_1651.mono (by first | exact Int.le_refl _ | omega))
    · exact hQ _ _ (hM15_1651.mono (by first | exact Int.le_refl _ | omega))
  · intro x17_1656 ex17_1656 rx17_1656
    have bx17_1656 : -100 ≤ x17_1656 ∧ x17_1656 ≤ 300 := by rw [ex17_1656]; exact bm_c21.mp (hI.bx _ _)
    refine ⟨(by first | assumption | exact (by omega)), ?_⟩
    refine sX12_pushesOne (p2 := x3_1637) (p3 := (-x17_1656)) hI (Or.inl rfl) ?_
    intro x19_1657 M19_1658 hM19_1658 q1659
    refine ⟨fun c => ?_, fun c => ?_⟩
    · exact hQ _ _ (hM19_1658.mono (by first | exact Int.le_refl _ | omega))
    · exact hQ _ _ (hM19_1658.mono (by first | exact Int.le_refl _ | omega))
  · intro x21_1663 ex21_1663 rx21_1663
    have bx21_1663 : -100 ≤ x21_1663 ∧ x21_1663 ≤ 300 := by rw [ex21_1663]; exact bm_c21.mp (hI.bx _ _)
    refine sX12_swapsTwo (p1 := x3_1637) (p2 := x21_1663) hI  ?_
    intro x22_1664 M22_1665 hM22_1665 q1666
    refine ⟨fun c => ?_, fun c => ?_⟩
    · exact hQ _ _ (hM22_1665.mono (by first | exact Int.le_refl _ | omega))
    · exact hQ _ _ (hM22_1665.mono (by first | exact Int.le_refl _ | omega))
theorem sX12_digitIn {p1 : Int} {p2 : Int} {b : Int} {M : Mem} {Q : Int → Mem → Prop} (hI : IM b M) (hp : 0 ≤ p1 ∧ p1 ≤ 1 ∧ p2 = 9) (hQ : ∀ z : Int, ∀ M' : Mem, IM b M' → FrJ (fun k j => k = 1 ∧ j = 15) M M' → (-100 ≤ z ∧ z ≤ 300 ∧ M 1 15 ≤ M' 1 15) → Q z M') : qX12_digitIn p1 p2 M Q := by
  unfold qX12_digitIn
  have hbn := hI.nn
  have u1669 : 0 ≤ M 1 15 ∧ M 1 15 ≤ 80 := bm_c1_15.mp (hI.bx _ _)
  intro x1_1670 ex1_1670 rx1_1670
  have bx1_1670 : 0 ≤ x1_1670 ∧ x1_1670 ≤ 80 := by rw [ex1_1670]; exact bm_c1_15.mp (hI.bx _ _)
  intro x2_1671 ex2_1671 rx2_1671
  have bx2_1671 : 0 ≤ x2_1671 ∧ x2_1671 ≤ 80 := by rw [ex2_1671]; exact bm_c1_16.mp (hI.bx _ _)
  refine ⟨fun c => ?_, fun c => ?_⟩
  · have u1673 : 0 ≤ M 1 15 ∧ M 1 15 ≤ 80 := bm_c1_15.mp (hI.bx _ _)
    exact hQ _ _ (hI.mono (by first | exact Int.le_refl _ | omega)) FrJ.rf (by omega)
  · intro x4_1675 ex4_1675 rx4_1675
    have bx4_1675 : 0 ≤ x4_1675 ∧ x4_1675 ≤ 80 := by rw [ex4_1675]; exact bm_c1_15.mp (hI.bx _ _)
    refine ⟨by omega, ?_⟩
    refine ⟨by omega, ?_⟩
    intro x7_1676 ex7_1676 rx7_1676
    have bx7_1676 : 0 ≤ x7_1676 ∧ x7_1676 ≤ 255 := by rw [ex7_1676]; exact bm_c7.mp (hI.bx _ _)
    have cgx7_1676 : x7_1676 = M 7 (M 1 15) := by rw [ex7_1676, ← ex4_1675]
    refine ⟨(by first | assumption | exact (by omega)), ?_⟩
    refine sX12_in (p0 := x7_1676 - 48) (p2 := p1) (p4 := p2) hI  ?_
    intro x9_1677 p1678 q1679 q1680
    refine ⟨fun c => ?_, fun c => ?_⟩
    · intro x11_1682 ex11_1682 rx11_1682
      have bx11_1682 : 0 ≤ x11_1682 ∧ x11_1682 ≤ 80 := by rw [ex11_1682]; exact bm_c1_15.mp (hI.bx _ _)
      refine ⟨(by first | assumption | exact (by omega)), ?_⟩
      intro M13_1683 h_M13_1683
      have hM13_1683 : IM (b) M13_1683 := by rw [h_M13_1683]; exact hI.up (by omega) (bm_c1_15.mpr (by omega))
      have hFM13_1683 : FrJ (fun k j => k = 1 ∧ j = 15) M M13_1683 := by rw [h_M13_1683]; exact (FrJ.rf).up (by omega)
      intro x14_1684 ex14_1684 rx14_1684
      have bx14_1684 : 0 ≤ x14_1684 ∧ x14_1684 ≤ 80 := by rw [ex14_1684]; exact bm_c1_15.mp (hM13_1683.bx _ _)
      have fx14_1684 : x14_1684 = x11_1682 + 1 := by rw [ex14_1684, h_M13_1683, up2_s]
      refine ⟨by omega, ?_⟩
      refine ⟨by omega, ?_⟩
      intro x17_1685 ex17_1685 rx17_1685
      have bx17_1685 : 0 ≤ x17_1685 ∧ x17_1685 ≤ 255 := by rw [ex17_1685]; exact bm_c7.mp (hM13_1683.bx _ _)
      have fx17_1685 : x17_1685 = M 7 (x14_1684 - 1) := by rw [ex17_1685, h_M13_1683, up2_n (by decide)]
      refine ⟨(by first | assumption | exact (by omega)), ?_⟩
      have u1686 : 0 ≤ M13_1683 1 15 ∧ M13_1683 1 15 ≤ 80 := bm_c1_15.mp (hM13_1683.bx _ _)
      have t1687 : M13_1683 1 15 = x11_1682 + 1 := by rw [h_M13_1683, up2_s]
      exact hQ _ _ (hM13_1683.mono (by first | exact Int.le_refl _ | omega)) hFM13_1683 (by omega)
    · have u1689 : 0 ≤ M 1 15 ∧ M 1 15 ≤ 80 := bm_c1_15.mp (hI.bx _ _)
      exact hQ _ _ (hI.mono (by first | exact Int.le_refl _ | omega)) FrJ.rf (by omega)
theorem sX12_readsAct {b : Int} {M : Mem} {Q : Int → Mem → Prop} (hI : IM b M) (hp : M 1 39 ≤ M 1 15 ∧ M 1 15 < M 1 16 ∧ M 1 16 ≤ 60) (hQ : ∀ (z : Int) (M' : Mem), IM b M' → M' 1 16 = M 1 16 → (z = 1 → M' 1 39 ≤ M' 1 15 ∧ M 1 15 < M' 1 15) → Q z M') : qX12_readsAct M Q := by
  unfold qX12_readsAct
  intro x1 e1 _
  have b1 : 0 ≤ x1 ∧ x1 ≤ 60 := by rw [e1]; exact bm_c1_39.mp (hI.bx _ _)
  refine sX12_takesOf hI (by decide) ?_
  intro x2 M2 h2 g2 p2 _
  refine ⟨by omega, by omega, ?_⟩
  intro M5 h5 x6 e6 _
  have i5 : IM b M5 := by rw [h5]; exact h2.up (by omega) (by simp [BM])
  have f6 : x6 = x1 := by rw [e6, h5, up2_n (by decide), g2 1 39 (by omega), e1]
  refine ⟨(by omega), ?_⟩
  intro M8 h8 x9 e9 _
  have i8 : IM b M8 := by rw [h8]; exact i5.up (by omega) (bm_c1_39.mpr (by omega))
  have k39 : M8 1 39 = x1 + 1 := by rw [h8, up2_s, f6]
  have k15 : M8 1 15 = M2 1 15 := by rw [h8, up2_j (by decide), h5, up2_n (by decide)]
  have k16 : M8 1 16 = M 1 16 := by rw [h8, up2_j (by decide), h5, up2_n (by decide), g2 1 16 (by omega)]
  have f9 : x9 = x2 := by rw [e9, h8, up2_n (by decide), h5, up2_s]
  refine ⟨fun c => ?_, fun c => hQ _ _ i8 k16 (fun q => absurd q (by decide))⟩
  have a2 := p2.2.2.2.2 (by omega)
  refine sX12_number (p1 := 1) i8 (by omega) ?_
  intro x11 M11 h11 g11 p11 _ M12 h12 x13 e13 _
  have i12 : IM b M12 := by rw [h12]; exact h11.up (by omega) (bm_c20.mpr (by omega))
  have q39 : M12 1 39 = x1 + 1 := by rw [h12, up2_n (by decide), g11 1 39 (by omega), k39]
  have q16 : M12 1 16 = M 1 16 := by rw [h12, up2_n (by decide), g11 1 16 (by omega), k16]
  have q15 : M2 1 15 ≤ M12 1 15 := by rw [h12, up2_n (by decide)]; omega
  have J69 : ∀ M' : Mem, IM b M' → M' 1 16 = M 1 16 → M' 1 39 = x1 + 1 → M2 1 15 ≤ M' 1 15 → qX12_readsAct_J69 Q x1 M' := by
    intro M' i' k16' k39' k15'
    unfold qX12_readsAct_J69
    refine ⟨by omega, by omega, ?_⟩
    intro x17 _ _
    exact ⟨fun _ => hQ _ _ i' k16' (fun q => absurd q (by decide)), fun _ => hQ _ _ i' k16' (fun _ => (by omega))⟩
  refine ⟨fun c2 => J69 _ i12 q16 q39 q15, fun c2 => ?_⟩
  intro x19 _ _
  refine ⟨fun c3 => ?_, fun c3 => J69 _ i12 q16 q39 q15⟩
  intro x21 _ _
  have J105 : ∀ t0 : Int, (t0 = 0 ∨ t0 = 1) → qX12_readsAct_J105 Q x1 t0 x1 M12 := by
    intro t0 ht
    unfold qX12_readsAct_J105
    refine ⟨(by omega), ?_⟩
    refine sX12_digitIn (p1 := t0) (p2 := 9) i12 ⟨by omega, by omega, rfl⟩ ?_
    intro x24 M24 h24 g24 p24 _
    refine ⟨by omega, by omega, ?_⟩
    intro M27 h27
    have i27 : IM b M27 := by rw [h27]; exact h24.up (by omega) (bm_c21.mpr (by omega))
    have r39 : M27 1 39 = x1 + 1 := by rw [h27, up2_n (by decide), g24 1 39 (by omega), q39]
    have r16 : M27 1 16 = M 1 16 := by rw [h27, up2_n (by decide), g24 1 16 (by omega), q16]
    have r15 : M12 1 15 ≤ M27 1 15 := by rw [h27, up2_n (by decide)]; exact p24.2.2
    refine ⟨by omega, by omega, ?_⟩
    intro x30 _ _
    exact ⟨fun _ => hQ _ _ i27 r16 (fun q => absurd q (by decide)), fun _ => hQ _ _ i27 r16 (fun _ => (by omega))⟩
  exact ⟨fun _ => J105 _ (Or.inr rfl), fun _ => J105 _ (Or.inl rfl)⟩
theorem sX12_hour_L64 {b : Int} {X88 : Int → Mem → Prop} {Q : Int → Mem → Prop} (hb : b + 1000 ≤ 2000000000) (hX : ∀ (w : Int) (M' : Mem), IM (b + 610) M' → (0 ≤ w ∧ w ≤ 60) → X88 w M') : ∀ (n : Nat) (v4 : Int) (M : Mem), IM (b + 10 * v4) M → (0 ≤ v4 ∧ v4 ≤ 60) → 60 - v4 < (n : Int) → qX12_hour_L64 X88 Q n v4 M := by
  intro n
  induction n with
  | zero => intro v4 M hI hv hm; exact absurd hm (by omega)
  | succ n ih =>
    intro v4 M hI hv hm
    rw [qX12_hour_L64]
    intro x16 e16 _
    have b16 : 0 ≤ x16 ∧ x16 ≤ 60 := by rw [e16]; exact bm_c1_39.mp (hI.bx _ _)
    refine ⟨(by omega), ⟨fun c => hX _ _ (hI.mono (by first | exact Int.le_refl _ | omega)) hv, fun c => ?_⟩⟩
    refine sX12_does (p1 := v4) hI (by omega) (by omega) ?_
    intro x19 M19 h19 _ _
    exact ⟨fun _ => hX _ _ (h19.mono (by first | exact Int.le_refl _ | omega)) hv, fun _ => ih _ _ (h19.mono (by first | exact Int.le_refl _ | omega)) (by omega) (by omega)⟩
theorem sX12_hour_L19 {b : Int} {X42 : Int → Int → Mem → Prop} {Q : Int → Mem → Prop} (hX : ∀ (w1 w2 : Int) (M' : Mem), IM b M' → (w2 = 0 ∨ w2 = 1) → (0 ≤ w1 ∧ w1 ≤ 80) → X42 w1 w2 M') : ∀ (n : Nat) (v1 v2 : Int) (M : Mem), IM b M → (v2 = 0 ∨ v2 = 1) → (0 ≤ v1 ∧ v1 ≤ 80) → M 1 16 ≤ 60 → (v2 = 1 → M 1 39 ≤ M 1 15) → ((v2 = 0 → 1 ≤ n) ∧ (v2 = 1 → 82 - M 1 15 ≤ n)) → qX12_hour_L19 X42 Q n v1 v2 M := by
  intro n
  induction n with
  | zero =>
    intro v1 v2 M hI h2 h1 h16 h39 hm
    exfalso
    have b15 := bm_c1_15.mp (hI.bx 1 15)
    rcases h2 with c | c
    · exact absurd (hm.1 c) (by decide)
    · have := hm.2 c
      omega
  | succ n ih =>
    intro v1 v2 M hI h2 h1 h16 h39 hm
    rw [qX12_hour_L19]
    have b15 := bm_c1_15.mp (hI.bx 1 15)
    refine ⟨(by omega), ⟨fun c => hX _ _ _ hI h2 h1, fun c => ?_⟩⟩
    intro x6 e6 _ x7 e7 _
    refine ⟨fun c2 => hX _ _ _ hI h2 h1, fun c2 => ?_⟩
    have hm2 := hm.2 (by omega)
    refine sX12_readsAct hI ⟨h39 (by omega), by omega, h16⟩ ?_
    intro x9 M9 h9 g16 p9 _ q9
    exact ih _ _ _ h9 q9 h1 (by omega) (fun q => (p9 q).1) ⟨fun _ => by omega, fun q => by have := (p9 q).2; omega⟩
theorem sX12_hour {b : Int} {M : Mem} {Q : Int → Mem → Prop} (hI : IM b M) (hb : b + 1000 ≤ 2000000000) (hQ : ∀ (z : Int) (M' : Mem), IM (b + 1000) M' → Q z M') : qX12_hour M Q := by
  unfold qX12_hour
  intro M1 h1
  have i1 : IM b M1 := by rw [h1]; exact hI.up (by omega) (by simp [BM])
  refine sX12_begins (p1 := 60) i1 (by omega) ?_
  intro x2 M2 h2 g2 p2 _ M3 h3
  have i3 : IM b M3 := by rw [h3]; exact h2.up (by omega) (bm_c1_39.mpr (by decide))
  have k39 : M3 1 39 = 0 := by rw [h3, up2_s]
  have k15 : M3 1 15 = 0 := by rw [h3, up2_j (by decide)]; exact p2.2.2.1
  have k16 : M3 1 16 ≤ 60 := by rw [h3, up2_j (by decide)]; exact p2.2.2.2.1
  refine ⟨82, sX12_hour_L19 (b := b) ?_ _ _ _ _ i3 (Or.inr rfl) (by omega) k16 (fun _ => by omega) ⟨fun _ => by omega, fun _ => by omega⟩⟩
  intro w1 w2 M' i' hw2 hw1
  have J108 : ∀ (v4 t0 : Int) (M'' : Mem), IM (b + 610) M'' → M'' 1 1 = 0 → (0 ≤ v4 ∧ v4 ≤ 60) → (t0 = 0 ∨ t0 = 1) → qX12_hour_J108 Q v4 t0 M'' := by
    intro v4 t0 M'' i2 k1 hv ht
    unfold qX12_hour_J108
    refine ⟨(by omega), ?_⟩
    refine sX12_flag (p0 := t0) i2 ?_
    intro x27 _ _
    refine sX12_enters i2 (by omega) ?_
    intro M28 h28 g28 x29 _ _
    refine sX12_enters h28 (by omega) ?_
    intro M30 h30 g30
    refine ⟨(by omega), ⟨fun _ => hQ _ _ (h30.mono (by first | exact Int.le_refl _ | omega)), fun _ => ?_⟩⟩
    exact sX12_adds h30 (fun z M4 h4 _ => hQ _ _ (h4.mono (by first | exact Int.le_refl _ | omega)))
  show qX12_hour_J42 Q w1 w2 M'
  unfold qX12_hour_J42
  refine ⟨(by omega), (by omega), ?_⟩
  refine sX12_faultOf (p1 := w1) (p2 := 60) (p3 := w2) i' (by omega) ?_
  intro x13 p13 _
  refine ⟨fun c => ?_, fun c => hQ _ _ (i'.mono (by first | exact Int.le_refl _ | omega))⟩
  refine sX12_putsBy i' ?_
  intro M15 h15
  refine ⟨61, sX12_hour_L64 hb ?_ _ _ _ (h15.mono (by first | exact Int.le_refl _ | omega)) (by omega) (by omega)⟩
  intro w M'' i2 hw
  show qX12_hour_J88 Q w M''
  unfold qX12_hour_J88
  intro M22 h22 x23 _ _
  have i22 : IM (b + 610) M22 := by rw [h22]; exact i2.up (by omega) (bm_c1_1.mpr (by decide))
  have k22 : M22 1 1 = 0 := by rw [h22, up2_s]
  exact ⟨(by omega), ⟨fun _ => J108 _ _ _ i22 k22 hw (Or.inl rfl), fun _ => J108 _ _ _ i22 k22 hw (Or.inr rfl)⟩⟩
theorem sX12_line_L20   {Q : Int → Mem → Prop} {b : Int} (hQ : ∀ z : Int, ∀ M' : Mem, IM b M' → Q z M') : ∀ (n : Nat) (v1 : Int) (M : Mem), IM (b) M → (0 ≤ v1 ∧ v1 ≤ 6 ∧ M 1 1 = v1) → 6 - v1 < (n : Int) → qX12_line_L20 Q n v1 M := by
  intro n
  induction n with
  | zero => intro v1 M hI hv hm; exact absurd hm (by omega)
  | succ n ih =>
    intro v1 M hI hv hm
    rw [qX12_line_L20]
    have hbn := hI.nn
    have u1690 : 0 ≤ M 1 1 ∧ M 1 1 ≤ 24 := bm_c1_1.mp (hI.bx _ _)
    intro x4_1691 ex4_1691 rx4_1691
    have bx4_1691 : 0 ≤ x4_1691 ∧ x4_1691 ≤ 6 := by rw [ex4_1691]; exact bm_c1_35.mp (hI.bx _ _)
    refine ⟨(by first | assumption | exact (by omega)), ?_⟩
    refine ⟨fun c => ?_, fun c => ?_⟩
    · intro x7_1693 ex7_1693 rx7_1693
      have bx7_1693 : 0 ≤ x7_1693 ∧ x7_1693 ≤ 6 := by rw [ex7_1693]; exact bm_c1_35.mp (hI.bx _ _)
      exact hQ _ _ (hI.mono (by first | exact Int.le_refl _ | omega))
    · refine ⟨by omega, ?_⟩
      refine ⟨by omega, ?_⟩
      intro x10_1695 ex10_1695 rx10_1695
      have bx10_1695 : 0 ≤ x10_1695 ∧ x10_1695 ≤ 5 := by rw [ex10_1695]; exact bm_c18.mp (hI.bx _ _)
      have u1696 : 0 ≤ M 1 1 ∧ M 1 1 ≤ 24 := bm_c1_1.mp (hI.bx _ _)
      refine sX12_enters (p1 := x10_1695) hI (by omega) ?_
      intro M11_1697 hM11_1697 p1698
      have u1699 : 0 ≤ M11_1697 1 1 ∧ M11_1697 1 1 ≤ 24 := bm_c1_1.mp (hM11_1697.bx _ _)
      exact ih _ _ (hM11_1697.mono (by first | exact Int.le_refl _ | omega)) (by omega) (by omega)
theorem sX12_line  {b : Int} {M : Mem} {Q : Int → Mem → Prop} (hI : IM b M) (hQ : ∀ z : Int, ∀ M' : Mem, IM b M' → Q z M') : qX12_line M Q := by
  unfold qX12_line
  have hbn := hI.nn
  intro M1_1700 h_M1_1700
  have hM1_1700 : IM (b) M1_1700 := by rw [h_M1_1700]; exact hI.up (by omega) (by simp [BM])
  refine sX12_laysLine  hM1_1700 (Or.inl rfl) ?_
  intro M2_1701 hM2_1701
  intro M3_1702 h_M3_1702
  have hM3_1702 : IM (b) M3_1702 := by rw [h_M3_1702]; exact hM2_1701.up (by omega) (bm_c1_1.mpr (by omega))
  refine ⟨7, ?_⟩
  have u1703 : 0 ≤ M3_1702 1 1 ∧ M3_1702 1 1 ≤ 24 := bm_c1_1.mp (hM3_1702.bx _ _)
  have t1704 : M3_1702 1 1 = 0 := by rw [h_M3_1702, up2_s]
  refine sX12_line_L20 (b := b)  ?_ _ _ _ (hM3_1702.mono (by first | exact Int.le_refl _ | omega)) (by omega) (by omega)
  · exact hQ
theorem sX12_copies_L2   {Q : Mem → Prop} {b : Int} (hQ : ∀ M' : Mem, IM b M' → Q M') : ∀ (n : Nat) (v1 : Int) (M : Mem), IM (b) M → (0 ≤ v1 ∧ v1 ≤ 38) → 38 - v1 < (n : Int) → qX12_copies_L2 Q n v1 M := by
  intro n
  induction n with
  | zero => intro v1 M hI hv hm; exact absurd hm (by omega)
  | succ n ih =>
    intro v1 M hI hv hm
    rw [qX12_copies_L2]
    have hbn := hI.nn
    refine ⟨(by first | assumption | exact (by omega)), ?_⟩
    refine ⟨fun c => ?_, fun c => ?_⟩
    · exact hQ _ (hI.mono (by first | exact Int.le_refl _ | omega))
    · refine ⟨by omega, ?_⟩
      refine ⟨by omega, ?_⟩
      intro x5_1707 ex5_1707 rx5_1707
      have rbx5_1707 : -2147483648 ≤ x5_1707 ∧ x5_1707 ≤ 2147483647 := rx5_1707
      have nbx5_1707 : BN (b) v1 x5_1707 := by rw [ex5_1707]; exact (bm_n (Or.inl rfl)).mp (hI.bx _ _)
      first | (have bx5_1707 : -1 ≤ x5_1707 ∧ x5_1707 ≤ 29 := nbx5_1707.1 (by omega)) | (have bx5_1707 : -1 ≤ x5_1707 ∧ x5_1707 ≤ 29 := nbx5_1707.2.1 (by omega)) | skip
      intro M6_1708 h_M6_1708
      have hM6_1708 : IM (b) M6_1708 := by rw [h_M6_1708]; exact hI.up (isN.nu (Or.inr rfl) _) ((bm_n (Or.inr rfl)).mpr (by first | assumption | exact ⟨by omega, by omega, by omega, by omega⟩))
      exact ih _ _ (hM6_1708.mono (by first | exact Int.le_refl _ | omega)) (by omega) (by omega)
theorem sX12_copies  {b : Int} {M : Mem} {Q : Mem → Prop} (hI : IM b M) (hQ : ∀ M' : Mem, IM b M' → Q M') : qX12_copies M Q := by
  unfold qX12_copies
  have hbn := hI.nn
  refine ⟨39, ?_⟩
  refine sX12_copies_L2 (b := b)  ?_ _ _ _ (hI.mono (by first | exact Int.le_refl _ | omega)) (by omega) (by omega)
  · exact hQ
theorem sX12_ahead_L39 {p1 : Int}  {Q : Int → Mem → Prop} {b : Int} (hb : b + 200 ≤ 2000000000) (hQ : ∀ z : Int, ∀ M' : Mem, IM (b + 200) M' → Q z M') : ∀ (n : Nat) (v2 : Int) (M : Mem), IM (b + 200) M → (0 ≤ v2 ∧ v2 ≤ 6 ∧ M 1 1 = v2) → 6 - v2 < (n : Int) → qX12_ahead_L39 p1 Q n v2 M := by
  intro n
  induction n with
  | zero => intro v2 M hI hv hm; exact absurd hm (by omega)
  | succ n ih =>
    intro v2 M hI hv hm
    rw [qX12_ahead_L39]
    have hbn := hI.nn
    have u1709 : 0 ≤ M 1 1 ∧ M 1 1 ≤ 24 := bm_c1_1.mp (hI.bx _ _)
    intro x7_1710 ex7_1710 rx7_1710
    have bx7_1710 : 0 ≤ x7_1710 ∧ x7_1710 ≤ 6 := by rw [ex7_1710]; exact bm_c1_4.mp (hI.bx _ _)
    refine ⟨(by first | assumption | exact (by omega)), ?_⟩
    refine ⟨fun c => ?_, fun c => ?_⟩
    · intro x10_1712 ex10_1712 rx10_1712
      have bx10_1712 : -2147483648 ≤ x10_1712 ∧ x10_1712 ≤ 2147483647 := rx10_1712
      exact hQ _ _ (hI.mono (by first | exact Int.le_refl _ | omega))
    · refine ⟨by omega, ?_⟩
      refine ⟨by omega, ?_⟩
      intro x13_1714 ex13_1714 rx13_1714
      have rbx13_1714 : -2147483648 ≤ x13_1714 ∧ x13_1714 ≤ 2147483647 := rx13_1714
      have nbx13_1714 : BN (b + 200) v2 x13_1714 := by rw [ex13_1714]; exact (bm_n (Or.inr rfl)).mp (hI.bx _ _)
      first | (have bx13_1714 : -1 ≤ x13_1714 ∧ x13_1714 ≤ 29 := nbx13_1714.1 (by omega)) | (have bx13_1714 : -1 ≤ x13_1714 ∧ x13_1714 ≤ 29 := nbx13_1714.2.1 (by omega)) | skip
      have u1715 : 0 ≤ M 1 1 ∧ M 1 1 ≤ 24 := bm_c1_1.mp (hI.bx _ _)
      refine sX12_enters (p1 := x13_1714) hI (by omega) ?_
      intro M14_1716 hM14_1716 p1717
      have u1718 : 0 ≤ M14_1716 1 1 ∧ M14_1716 1 1 ≤ 24 := bm_c1_1.mp (hM14_1716.bx _ _)
      exact ih _ _ (hM14_1716.mono (by first | exact Int.le_refl _ | omega)) (by omega) (by omega)
theorem sX12_ahead {p1 : Int} {b : Int} {M : Mem} {Q : Int → Mem → Prop} (hI : IM b M) (hb : b + 200 ≤ 2000000000) (hQ : ∀ z : Int, ∀ M' : Mem, IM (b + 200) M' → Q z M') : qX12_ahead p1 M Q := by
  unfold qX12_ahead
  have hbn := hI.nn
  intro M1_1719 h_M1_1719
  have hM1_1719 : IM (b) M1_1719 := by rw [h_M1_1719]; exact hI.up (by omega) (by simp [BM])
  refine sX12_in (p0 := p1) (p2 := 0) (p4 := 99) hM1_1719  ?_
  intro x2_1720 p1721 q1722 q1723
  refine ⟨fun c => ?_, fun c => ?_⟩
  · refine sX12_copies  hM1_1719  ?_
    intro M4_1725 hM4_1725
    refine sX12_goesOn (p2 := p1) hM4_1725 (by omega) (Or.inr rfl) (by omega) ?_
    intro M5_1726 hM5_1726
    intro M6_1727 h_M6_1727
    have hM6_1727 : IM (b + 200) M6_1727 := by rw [h_M6_1727]; exact hM5_1726.up (by omega) (bm_c1_1.mpr (by omega))
    refine ⟨7, ?_⟩
    have u1728 : 0 ≤ M6_1727 1 1 ∧ M6_1727 1 1 ≤ 24 := bm_c1_1.mp (hM6_1727.bx _ _)
    have t1729 : M6_1727 1 1 = 0 := by rw [h_M6_1727, up2_s]
    refine sX12_ahead_L39 (b := b) (p1 := p1) hb ?_ _ _ _ (hM6_1727.mono (by first | exact Int.le_refl _ | omega)) (by omega) (by omega)
    · exact hQ
  · exact hQ _ _ (hM1_1719.mono (by first | exact Int.le_refl _ | omega))
theorem sX12_arrives_L21 {p1 : Int} {X39 : Int → Mem → Prop} {Q : Int → Mem → Prop} {b : Int} (hb : b + 201 ≤ 2000000000) (hQ : ∀ z : Int, ∀ M' : Mem, IM (b + 201) M' → Q z M') (hX39 : ∀ w1 : Int, ∀ M' : Mem, IM (b + 200) M' → (0 ≤ w1 ∧ w1 ≤ 200) → X39 w1 M') : ∀ (n : Nat) (v2 : Int) (M : Mem), IM (b + v2) M → (0 ≤ v2 ∧ v2 ≤ 201 ∧ 0 ≤ p1 ∧ p1 ≤ 5) → 201 - v2 < (n : Int) → qX12_arrives_L21 p1 X39 Q n v2 M := by
  intro n
  induction n with
  | zero => intro v2 M hI hv hm; exact absurd hm (by omega)
  | succ n ih =>
    intro v2 M hI hv hm
    rw [qX12_arrives_L21]
    have hbn := hI.nn
    refine ⟨(by first | assumption | exact (by omega)), ?_⟩
    refine ⟨fun c => ?_, fun c => ?_⟩
    · exact hQ _ _ (hI.mono (by first | exact Int.le_refl _ | omega))
    · refine sX12_isOn (p1 := p1) hI (Or.inr rfl) (by omega) ?_
      intro x7_1733 p1734 q1735 q1736
      refine ⟨fun c => ?_, fun c => ?_⟩
      · refine sX12_stepGoes  hI (by omega) (Or.inr rfl) ?_
        intro M9_1738 hM9_1738
        exact ih _ _ (hM9_1738.mono (by first | exact Int.le_refl _ | omega)) (by omega) (by omega)
      · exact hX39 _ _ (hI.mono (by first | exact Int.le_refl _ | omega)) (by omega)
theorem sX12_arrives {p1 : Int} {b : Int} {M : Mem} {Q : Int → Mem → Prop} (hI : IM b M) (hb : b + 201 ≤ 2000000000) (hQ : ∀ z : Int, ∀ M' : Mem, IM (b + 201) M' → Q z M') : qX12_arrives p1 M Q := by
  unfold qX12_arrives
  have hbn := hI.nn
  intro M1_1740 h_M1_1740
  have hM1_1740 : IM (b) M1_1740 := by rw [h_M1_1740]; exact hI.up (by omega) (by simp [BM])
  refine sX12_isHearse (p1 := p1) hM1_1740  ?_
  intro x2_1741 p1742 q1743 q1744
  refine ⟨fun c => ?_, fun c => ?_⟩
  · refine sX12_copies  hM1_1740  ?_
    intro M4_1746 hM4_1746
    refine ⟨202, ?_⟩
    refine sX12_arrives_L21 (b := b) (p1 := p1) hb ?_ ?_ _ _ _ (hM4_1746.mono (by first | exact Int.le_refl _ | omega)) (by omega) (by omega)
    · exact hQ
    · intro v2_1747 M_1748 hM_1748 p1749
      intro M11_1750 h_M11_1750
      have hM11_1750 : IM (b + 200) M11_1750 := by rw [h_M11_1750]; exact hM_1748.up (by omega) (bm_c1_1.mpr (by omega))
      refine ⟨by omega, ?_⟩
      refine ⟨by omega, ?_⟩
      intro x14_1751 ex14_1751 rx14_1751
      have bx14_1751 : -2147483648 ≤ x14_1751 ∧ x14_1751 ≤ 2147483647 := rx14_1751
      have fx14_1751 : x14_1751 = M_1748 6 (6 + p1) := by rw [ex14_1751, h_M11_1750, up2_n (by decide)]
      have u1752 : 0 ≤ M11_1750 1 1 ∧ M11_1750 1 1 ≤ 24 := bm_c1_1.mp (hM11_1750.bx _ _)
      have t1753 : M11_1750 1 1 = 0 := by rw [h_M11_1750, up2_s]
      refine sX12_enters (p1 := x14_1751) hM11_1750 (by omega) ?_
      intro M15_1754 hM15_1754 p1755
      refine ⟨(by first | assumption | exact (by omega)), ?_⟩
      exact hQ _ _ (hM15_1754.mono (by first | exact Int.le_refl _ | omega))
  · exact hQ _ _ (hM1_1740.mono (by first | exact Int.le_refl _ | omega))
theorem sX12_jam_L36 {p1 : Int} {X71 : Int → Mem → Prop} {Q : Int → Mem → Prop} {b : Int} (hb : b + 200 ≤ 2000000000) (hQ : ∀ z : Int, ∀ M' : Mem, IM (b + 200) M' → Q z M') (hX71 : ∀ w1 : Int, ∀ M' : Mem, IM (b + 200) M' → (0 ≤ w1 ∧ w1 ≤ 29) → X71 w1 M') : ∀ (n : Nat) (v2 v3 : Int) (M : Mem), IM (b + 200) M → (0 ≤ v2 ∧ v2 ≤ 29 ∧ 0 ≤ v3 ∧ v3 ≤ 30) → 30 - v3 < (n : Int) → qX12_jam_L36 p1 X71 Q n v2 v3 M := by
  intro n
  induction n with
  | zero => intro v2 v3 M hI hv hm; exact absurd hm (by omega)
  | succ n ih =>
    intro v2 v3 M hI hv hm
    rw [qX12_jam_L36]
    have hbn := hI.nn
    intro x6_1757 ex6_1757 rx6_1757
    have bx6_1757 : 4 ≤ x6_1757 ∧ x6_1757 ≤ 30 := by rw [ex6_1757]; exact bm_c1_3.mp (hI.bx _ _)
    refine ⟨(by first | assumption | exact (by omega)), ?_⟩
    refine ⟨fun c => ?_, fun c => ?_⟩
    · exact hX71 _ _ (hI.mono (by first | exact Int.le_refl _ | omega)) (by omega)
    · refine ⟨by omega, ?_⟩
      refine ⟨by omega, ?_⟩
      intro x11_1760 ex11_1760 rx11_1760
      have bx11_1760 : -2147483648 ≤ x11_1760 ∧ x11_1760 ≤ 2147483647 := rx11_1760
      refine ⟨by omega, ?_⟩
      refine ⟨by omega, ?_⟩
      intro x14_1761 ex14_1761 rx14_1761
      have bx14_1761 : -2147483648 ≤ x14_1761 ∧ x14_1761 ≤ 2147483647 := rx14_1761
      refine ⟨fun c => ?_, fun c => ?_⟩
      · exact ih _ _ _ (hI.mono (by first | exact Int.le_refl _ | omega)) (by omega) (by omega)
      · exact ih _ _ _ (hI.mono (by first | exact Int.le_refl _ | omega)) (by omega) (by omega)
theorem sX12_jam {p1 : Int} {b : Int} {M : Mem} {Q : Int → Mem → Prop} (hI : IM b M) (hb : b + 200 ≤ 2000000000) (hQ : ∀ z : Int, ∀ M' : Mem, IM (b + 200) M' → Q z M') : qX12_jam p1 M Q := by
  unfold qX12_jam
  have hbn := hI.nn
  intro M1_1764 h_M1_1764
  have hM1_1764 : IM (b) M1_1764 := by rw [h_M1_1764]; exact hI.up (by omega) (by simp [BM])
  refine sX12_in (p0 := p1) (p2 := 1) (p4 := 60) hM1_1764  ?_
  intro x2_1765 p1766 q1767 q1768
  refine ⟨fun c => ?_, fun c => ?_⟩
  · refine sX12_copies  hM1_1764  ?_
    intro M4_1770 hM4_1770
    refine sX12_goesOn (p2 := p1) hM4_1770 (by omega) (Or.inr rfl) (by omega) ?_
    intro M5_1771 hM5_1771
    refine ⟨31, ?_⟩
    refine sX12_jam_L36 (b := b) (p1 := p1) hb ?_ ?_ _ _ _ _ (hM5_1771.mono (by first | exact Int.le_refl _ | omega)) (by omega) (by omega)
    · exact hQ
    · intro v2_1772 M_1773 hM_1773 p1774
      intro M17_1775 h_M17_1775
      have hM17_1775 : IM (b + 200) M17_1775 := by rw [h_M17_1775]; exact hM_1773.up (by omega) (bm_c1_1.mpr (by omega))
      refine ⟨by omega, ?_⟩
      refine ⟨by omega, ?_⟩
      intro x20_1776 ex20_1776 rx20_1776
      have bx20_1776 : -2147483648 ≤ x20_1776 ∧ x20_1776 ≤ 2147483647 := rx20_1776
      have fx20_1776 : x20_1776 = M_1773 16 v2_1772 := by rw [ex20_1776, h_M17_1775, up2_n (by decide)]
      have u1777 : 0 ≤ M17_1775 1 1 ∧ M17_1775 1 1 ≤ 24 := bm_c1_1.mp (hM17_1775.bx _ _)
      have t1778 : M17_1775 1 1 = 0 := by rw [h_M17_1775, up2_s]
      refine sX12_enters (p1 := x20_1776) hM17_1775 (by omega) ?_
      intro M21_1779 hM21_1779 p1780
      intro x22_1781 ex22_1781 rx22_1781
      have bx22_1781 : -2147483648 ≤ x22_1781 ∧ x22_1781 ≤ 2147483647 := rx22_1781
      have u1782 : 0 ≤ M21_1779 1 1 ∧ M21_1779 1 1 ≤ 24 := bm_c1_1.mp (hM21_1779.bx _ _)
      refine sX12_enters (p1 := x22_1781) hM21_1779 (by omega) ?_
      intro M23_1783 hM23_1783 p1784
      refine ⟨(by first | assumption | exact (by omega)), ?_⟩
      exact hQ _ _ (hM23_1783.mono (by first | exact Int.le_refl _ | omega))
  · exact hQ _ _ (hM1_1764.mono (by first | exact Int.le_refl _ | omega))
theorem sX12_isAhead {k0 : Nat} {p1 : Int} {p2 : Int} {b : Int} {M : Mem} {Q : Int → Mem → Prop} (hI : IM b M) (hk0 : isN k0) (hp : 0 ≤ p1 ∧ p1 ≤ 5 ∧ 0 ≤ p2 ∧ p2 ≤ 5) (hQ : ∀ z : Int, Q z M) : qX12_isAhead k0 p1 p2 M Q := by
  unfold qX12_isAhead
  have hbn := hI.nn
  have ek0 : k0 = 5 ∨ k0 = 6 := hk0
  refine sX12_isOn (p1 := p1) hI hk0 (by omega) ?_
  intro x1_1786 p1787 q1788 q1789
  refine ⟨fun c => ?_, fun c => ?_⟩
  · refine sX12_isOn (p1 := p2) hI hk0 (by omega) ?_
    intro x3_1791 p1792 q1793 q1794
    refine ⟨fun c => ?_, fun c => ?_⟩
    · exact hQ _
    · refine ⟨by omega, ?_⟩
      refine ⟨by omega, ?_⟩
      intro x7_1797 ex7_1797 rx7_1797
      have bx7_1797 : -2147483648 ≤ x7_1797 ∧ x7_1797 ≤ 2147483647 := rx7_1797
      refine ⟨by omega, ?_⟩
      refine ⟨by omega, ?_⟩
      intro x10_1798 ex10_1798 rx10_1798
      have bx10_1798 : -2147483648 ≤ x10_1798 ∧ x10_1798 ≤ 2147483647 := rx10_1798
      refine ⟨fun c => ?_, fun c => ?_⟩
      · exact hQ _
      · exact hQ _
  · refine sX12_isOn (p1 := p2) hI hk0 (by omega) ?_
    intro x12_1802 p1803 q1804 q1805
    refine ⟨fun c => ?_, fun c => ?_⟩
    · exact hQ _
    · refine ⟨by omega, ?_⟩
      refine ⟨by omega, ?_⟩
      intro x16_1808 ex16_1808 rx16_1808
      have rbx16_1808 : -2147483648 ≤ x16_1808 ∧ x16_1808 ≤ 2147483647 := rx16_1808
      have nbx16_1808 : BN (b) p1 x16_1808 := by rw [ex16_1808]; exact (bm_n hk0).mp (hI.bx _ _)
      first | (have bx16_1808 : -1 ≤ x16_1808 ∧ x16_1808 ≤ 29 := nbx16_1808.1 (by omega)) | (have bx16_1808 : -1 ≤ x16_1808 ∧ x16_1808 ≤ 29 := nbx16_1808.2.1 (by omega)) | skip
      refine ⟨by omega, ?_⟩
      refine ⟨by omega, ?_⟩
      intro x19_1809 ex19_1809 rx19_1809
      have rbx19_1809 : -2147483648 ≤ x19_1809 ∧ x19_1809 ≤ 2147483647 := rx19_1809
      have nbx19_1809 : BN (b) p2 x19_1809 := by rw [ex19_1809]; exact (bm_n hk0).mp (hI.bx _ _)
      first | (have bx19_1809 : -1 ≤ x19_1809 ∧ x19_1809 ≤ 29 := nbx19_1809.1 (by omega)) | (have bx19_1809 : -1 ≤ x19_1809 ∧ x19_1809 ≤ 29 := nbx19_1809.2.1 (by omega)) | skip
      refine ⟨fun c => ?_, fun c => ?_⟩
      · exact hQ _
      · exact hQ _
theorem sX12_passes_L71 {p1 : Int} {p2 : Int} {X97 : Int → Mem → Prop} {Q : Int → Mem → Prop} {b : Int} (hb : b + 62 ≤ 2000000000) (hQ : ∀ z : Int, ∀ M' : Mem, IM (b + 62) M' → Q z M') (hX97 : ∀ w1 : Int, ∀ M' : Mem, IM (b + 62) M' → (1 ≤ w1 ∧ w1 ≤ 61) → X97 w1 M') : ∀ (n : Nat) (v3 : Int) (M : Mem), IM (b + v3) M → (1 ≤ v3 ∧ v3 ≤ 61 ∧ 0 ≤ p1 ∧ p1 ≤ 5 ∧ 0 ≤ p2 ∧ p2 ≤ 5) → 61 - v3 < (n : Int) → qX12_passes_L71 p1 p2 X97 Q n v3 M := by
  intro n
  induction n with
  | zero => intro v3 M hI hv hm; exact absurd hm (by omega)
  | succ n ih =>
    intro v3 M hI hv hm
    rw [qX12_passes_L71]
    have hbn := hI.nn
    refine ⟨(by first | assumption | exact (by omega)), ?_⟩
    refine ⟨fun c => ?_, fun c => ?_⟩
    · exact hQ _ _ (hI.mono (by first | exact Int.le_refl _ | omega))
    · refine sX12_stepGoes  hI (by omega) (Or.inr rfl) ?_
      intro M16_1814 hM16_1814
      refine sX12_isAhead (p1 := p1) (p2 := p2) hM16_1814 (Or.inr rfl) (by omega) ?_
      intro x17_1815 q1816 q1817
      refine ⟨fun c => ?_, fun c => ?_⟩
      · exact ih _ _ (hM16_1814.mono (by first | exact Int.le_refl _ | omega)) (by omega) (by omega)
      · exact hX97 _ _ (hM16_1814.mono (by first | exact Int.le_refl _ | omega)) (by omega)
theorem sX12_passes {p1 : Int} {p2 : Int} {b : Int} {M : Mem} {Q : Int → Mem → Prop} (hI : IM b M) (hb : b + 62 ≤ 2000000000) (hQ : ∀ z : Int, ∀ M' : Mem, IM (b + 62) M' → Q z M') : qX12_passes p1 p2 M Q := by
  unfold qX12_passes
  have hbn := hI.nn
  intro M1_1820 h_M1_1820
  have hM1_1820 : IM (b) M1_1820 := by rw [h_M1_1820]; exact hI.up (by omega) (by simp [BM])
  refine sX12_isHearse (p1 := p1) hM1_1820  ?_
  intro x2_1821 p1822 q1823 q1824
  refine ⟨fun c => ?_, fun c => ?_⟩
  · exact hQ _ _ (hM1_1820.mono (by first | exact Int.le_refl _ | omega))
  · refine sX12_isHearse (p1 := p2) hM1_1820  ?_
    intro x4_1827 p1828 q1829 q1830
    refine ⟨fun c => ?_, fun c => ?_⟩
    · exact hQ _ _ (hM1_1820.mono (by first | exact Int.le_refl _ | omega))
    · refine ⟨fun c => ?_, fun c => ?_⟩
      · refine sX12_isOn (p1 := p1) hM1_1820 (Or.inl rfl) (by omega) ?_
        intro x7_1834 p1835 q1836 q1837
        refine ⟨fun c => ?_, fun c => ?_⟩
        · exact hQ _ _ (hM1_1820.mono (by first | exact Int.le_refl _ | omega))
        · refine sX12_isOn (p1 := p2) hM1_1820 (Or.inl rfl) (by omega) ?_
          intro x9_1840 p1841 q1842 q1843
          refine ⟨fun c => ?_, fun c => ?_⟩
          · exact hQ _ _ (hM1_1820.mono (by first | exact Int.le_refl _ | omega))
          · refine sX12_isAhead (p1 := p1) (p2 := p2) hM1_1820 (Or.inl rfl) (by omega) ?_
            intro x11_1846 q1847 q1848
            refine ⟨fun c => ?_, fun c => ?_⟩
            · refine sX12_copies  hM1_1820  ?_
              intro M13_1850 hM13_1850
              refine ⟨62, ?_⟩
              refine sX12_passes_L71 (b := b) (p1 := p1) (p2 := p2) hb ?_ ?_ _ _ _ (hM13_1850.mono (by first | exact Int.le_refl _ | omega)) (by omega) (by omega)
              · exact hQ
              · intro v3_1851 M_1852 hM_1852 p1853
                intro M20_1854 h_M20_1854
                have hM20_1854 : IM (b + 62) M20_1854 := by rw [h_M20_1854]; exact hM_1852.up (by omega) (bm_c1_1.mpr (by omega))
                refine ⟨by omega, ?_⟩
                refine ⟨by omega, ?_⟩
                intro x23_1855 ex23_1855 rx23_1855
                have rbx23_1855 : -2147483648 ≤ x23_1855 ∧ x23_1855 ≤ 2147483647 := rx23_1855
                have nbx23_1855 : BN (b + 62) p1 x23_1855 := by rw [ex23_1855]; exact (bm_n (Or.inr rfl)).mp (hM20_1854.bx _ _)
                first | (have bx23_1855 : -1 ≤ x23_1855 ∧ x23_1855 ≤ 29 := nbx23_1855.1 (by omega)) | (have bx23_1855 : -1 ≤ x23_1855 ∧ x23_1855 ≤ 29 := nbx23_1855.2.1 (by omega)) | skip
                have fx23_1855 : x23_1855 = M_1852 6 p1 := by rw [ex23_1855, h_M20_1854, up2_n (by decide)]
                have u1856 : 0 ≤ M20_1854 1 1 ∧ M20_1854 1 1 ≤ 24 := bm_c1_1.mp (hM20_1854.bx _ _)
                have t1857 : M20_1854 1 1 = 0 := by rw [h_M20_1854, up2_s]
                refine sX12_enters (p1 := x23_1855) hM20_1854 (by omega) ?_
                intro M24_1858 hM24_1858 p1859
                refine ⟨(by first | assumption | exact (by omega)), ?_⟩
                exact hQ _ _ (hM24_1858.mono (by first | exact Int.le_refl _ | omega))
            · exact hQ _ _ (hM1_1820.mono (by first | exact Int.le_refl _ | omega))
      · exact hQ _ _ (hM1_1820.mono (by first | exact Int.le_refl _ | omega))
theorem sX12_ends_L30 {p1 : Int} {X48 : Int → Mem → Prop} {Q : Int → Mem → Prop} {b : Int} (hb : b + 402 ≤ 2000000000) (hQ : ∀ z : Int, ∀ M' : Mem, IM (b + 402) M' → Q z M') (hX48 : ∀ w1 : Int, ∀ M' : Mem, IM (b + 402) M' → (0 ≤ w1 ∧ w1 ≤ 200) → X48 w1 M') : ∀ (n : Nat) (v2 : Int) (M : Mem), IM (b + 200 + v2) M → (0 ≤ v2 ∧ v2 ≤ 201 ∧ 0 ≤ p1 ∧ p1 ≤ 7) → 201 - v2 < (n : Int) → qX12_ends_L30 p1 X48 Q n v2 M := by
  intro n
  induction n with
  | zero => intro v2 M hI hv hm; exact absurd hm (by omega)
  | succ n ih =>
    intro v2 M hI hv hm
    rw [qX12_ends_L30]
    have hbn := hI.nn
    refine ⟨(by first | assumption | exact (by omega)), ?_⟩
    refine ⟨fun c => ?_, fun c => ?_⟩
    · exact hQ _ _ (hI.mono (by first | exact Int.le_refl _ | omega))
    · refine sX12_isEnded (p1 := p1) hI (Or.inr rfl) (by omega) ?_
      intro x8_1864 q1865 q1866
      refine ⟨fun c => ?_, fun c => ?_⟩
      · refine sX12_stepGoes  hI (by omega) (Or.inr rfl) ?_
        intro M10_1868 hM10_1868
        exact ih _ _ (hM10_1868.mono (by first | exact Int.le_refl _ | omega)) (by omega) (by omega)
      · exact hX48 _ _ (hI.mono (by first | exact Int.le_refl _ | omega)) (by omega)
theorem sX12_ends {p1 : Int} {b : Int} {M : Mem} {Q : Int → Mem → Prop} (hI : IM b M) (hb : b + 402 ≤ 2000000000) (hQ : ∀ z : Int, ∀ M' : Mem, IM (b + 402) M' → Q z M') : qX12_ends p1 M Q := by
  unfold qX12_ends
  have hbn := hI.nn
  intro M1_1870 h_M1_1870
  have hM1_1870 : IM (b) M1_1870 := by rw [h_M1_1870]; exact hI.up (by omega) (by simp [BM])
  refine sX12_isMourner (p1 := p1) hM1_1870  ?_
  intro x2_1871 p1872 q1873 q1874
  refine ⟨fun c => ?_, fun c => ?_⟩
  · refine sX12_copies  hM1_1870  ?_
    intro M4_1876 hM4_1876
    refine sX12_goesOn (p2 := 0) hM4_1876 (by omega) (Or.inr rfl) (by omega) ?_
    intro M5_1877 hM5_1877
    refine ⟨202, ?_⟩
    refine sX12_ends_L30 (b := b) (p1 := p1) hb ?_ ?_ _ _ _ (hM5_1877.mono (by first | exact Int.le_refl _ | omega)) (by omega) (by omega)
    · exact hQ
    · intro v2_1878 M_1879 hM_1879 p1880
      intro M12_1881 h_M12_1881
      have hM12_1881 : IM (b + 402) M12_1881 := by rw [h_M12_1881]; exact hM_1879.up (by omega) (bm_c1_1.mpr (by omega))
      refine ⟨(by first | assumption | exact (by omega)), ?_⟩
      have u1882 : 0 ≤ M12_1881 1 1 ∧ M12_1881 1 1 ≤ 24 := bm_c1_1.mp (hM12_1881.bx _ _)
      have t1883 : M12_1881 1 1 = 0 := by rw [h_M12_1881, up2_s]
      refine sX12_enters (p1 := v2_1878) hM12_1881 (by omega) ?_
      intro M14_1884 hM14_1884 p1885
      refine ⟨by omega, ?_⟩
      refine ⟨by omega, ?_⟩
      intro x17_1886 ex17_1886 rx17_1886
      have bx17_1886 : -2147483648 ≤ x17_1886 ∧ x17_1886 ≤ 2147483647 := rx17_1886
      have u1887 : 0 ≤ M14_1884 1 1 ∧ M14_1884 1 1 ≤ 24 := bm_c1_1.mp (hM14_1884.bx _ _)
      refine sX12_enters (p1 := x17_1886) hM14_1884 (by omega) ?_
      intro M18_1888 hM18_1888 p1889
      refine ⟨by omega, ?_⟩
      refine ⟨by omega, ?_⟩
      intro x21_1890 ex21_1890 rx21_1890
      have bx21_1890 : -2147483648 ≤ x21_1890 ∧ x21_1890 ≤ 2147483647 := rx21_1890
      exact hQ _ _ (hM18_1888.mono (by first | exact Int.le_refl _ | omega))
  · exact hQ _ _ (hM1_1870.mono (by first | exact Int.le_refl _ | omega))
theorem sX12_endedBy_L5 {k1 : Nat} {p2 : Int}  {Q : Int → Mem → Prop} {b : Int} {M0 : Mem} (hk1 : isN k1) (hQ : ∀ z : Int, Q z M0) : ∀ (n : Nat) (v3 v4 : Int), IM (b) M0 → (0 ≤ v4 ∧ v4 ≤ 8) → iR v3 → 8 - v4 < (n : Int) → qX12_endedBy_L5 k1 p2 Q n v3 v4 M0 := by
  intro n
  induction n with
  | zero => intro v3 v4 hI hv hrv3 hm; exact absurd hm (by omega)
  | succ n ih =>
    intro v3 v4 hI hv hrv3 hm
    rw [qX12_endedBy_L5]
    have hbn := hI.nn
    have ek1 : k1 = 5 ∨ k1 = 6 := hk1
    intro x1_1892 ex1_1892 rx1_1892
    have bx1_1892 : 0 ≤ x1_1892 ∧ x1_1892 ≤ 8 := by rw [ex1_1892]; exact bm_c1_5.mp (hI.bx _ _)
    refine ⟨(by first | assumption | exact (by omega)), ?_⟩
    refine ⟨fun c => ?_, fun c => ?_⟩
    · refine ⟨(by first | assumption | exact (by omega)), ?_⟩
      exact hQ _
    · refine sX12_isEnded (p1 := v4) hI hk1 (by omega) ?_
      intro x5_1895 q1896 q1897
      refine ⟨fun c => ?_, fun c => ?_⟩
      · intro x7_1899 ex7_1899 rx7_1899
        first | (have fx7_1899 := oI_64 (a := v3) (b := 0) (by omega) (by omega); rw [← ex7_1899] at fx7_1899) | skip
        exact ih _ _ (hI.mono (by first | exact Int.le_refl _ | omega)) (by omega) (by first | assumption | exact (by omega)) (by omega)
      · refine ⟨by omega, ?_⟩
        refine ⟨by omega, ?_⟩
        intro x10_1901 ex10_1901 rx10_1901
        have bx10_1901 : -2147483648 ≤ x10_1901 ∧ x10_1901 ≤ 2147483647 := rx10_1901
        refine ⟨by omega, ?_⟩
        refine ⟨by omega, ?_⟩
        intro x13_1902 ex13_1902 rx13_1902
        have bx13_1902 : 0 ≤ x13_1902 ∧ x13_1902 ≤ 5 := by rw [ex13_1902]; exact bm_c3.mp (hI.bx _ _)
        refine ⟨fun c => ?_, fun c => ?_⟩
        · unfold qX12_endedBy_J46
          refine ⟨(by first | assumption | exact (by omega)), ?_⟩
          refine ⟨fun c => ?_, fun c => ?_⟩
          · intro x17_1905 ex17_1905 rx17_1905
            first | (have fx17_1905 := oI_64 (a := v3) (b := 0) (by omega) (by omega); rw [← ex17_1905] at fx17_1905) | skip
            exact ih _ _ (hI.mono (by first | exact Int.le_refl _ | omega)) (by omega) (by first | assumption | exact (by omega)) (by omega)
          · intro x18_1907 ex18_1907 rx18_1907
            first | (have fx18_1907 := slI_1 (b := v4) (by omega); rw [← ex18_1907] at fx18_1907) | skip
            intro x19_1908 ex19_1908 rx19_1908
            first | (have fx19_1908 := oI_64 (a := v3) (b := x18_1907) (by omega) (by omega); rw [← ex19_1908] at fx19_1908) | skip
            exact ih _ _ (hI.mono (by first | exact Int.le_refl _ | omega)) (by omega) (by first | assumption | exact (by omega)) (by omega)
        · unfold qX12_endedBy_J46
          refine ⟨(by first | assumption | exact (by omega)), ?_⟩
          refine ⟨fun c => ?_, fun c => ?_⟩
          · intro x17_1911 ex17_1911 rx17_1911
            first | (have fx17_1911 := oI_64 (a := v3) (b := 0) (by omega) (by omega); rw [← ex17_1911] at fx17_1911) | skip
            exact ih _ _ (hI.mono (by first | exact Int.le_refl _ | omega)) (by omega) (by first | assumption | exact (by omega)) (by omega)
          · intro x18_1913 ex18_1913 rx18_1913
            first | (have fx18_1913 := slI_1 (b := v4) (by omega); rw [← ex18_1913] at fx18_1913) | skip
            intro x19_1914 ex19_1914 rx19_1914
            first | (have fx19_1914 := oI_64 (a := v3) (b := x18_1913) (by omega) (by omega); rw [← ex19_1914] at fx19_1914) | skip
            exact ih _ _ (hI.mono (by first | exact Int.le_refl _ | omega)) (by omega) (by first | assumption | exact (by omega)) (by omega)
end
