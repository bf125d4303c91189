theorem gX12_hearseGoes {k1 : Nat} {p2 b : Int} {M E : Mem} {Q : Mem → Prop} (hI : IM b M) (hE : CE E M) (hk1 : isN k1) (hp : 0 ≤ p2 ∧ p2 ≤ 5) (hf : 0 ≤ M k1 p2 ∧ M k1 p2 < eG E) (hQ : ∀ M' : Mem, IM b M' → FrJ (fun k j => k = k1 ∨ k = 14 ∨ k = 13 ∨ (k = 1 ∧ j = 30) ∨ k = 16) M M' → M' k1 = mhF E (M k1) p2 → Q M') : qX12_hearseGoes k1 p2 M Q := by
  have hk : k1 = 5 ∨ k1 = 6 := hk1
  have bg := hE.g hI
  unfold qX12_hearseGoes
  refine gX12_paceOf hI hE hk1 ⟨hp.1, hp.2, hf.1⟩ ?_
  intro M1 i1 f1 _
  have K1 : M1 k1 = M k1 := funext fun j => f1 k1 j (by omega)
  have E1 : CE E M1 := hE.fr f1 (by intro k j h; rcases h with h | h | h | h | h <;> omega)
  have F1 : FrJ (fun k j => k = k1 ∨ k = 14 ∨ k = 13 ∨ (k = 1 ∧ j = 30) ∨ k = 16) M M1 := f1.mono (by intro k j h; omega)
  have bp : 0 ≤ paF E (M k1) p2 ∧ paF E (M k1) p2 ≤ 3 := by unfold paF; omega
  refine gX12_goal (p2 := p2) i1 E1 hk1 hp (by rw [K1]; exact hf) bp ?_
  rw [K1]
  intro _
  have gb := gdF_c (okF E (M k1) (M k1 p2)) (M k1 p2) (min (eG E) (M k1 p2 + paF E (M k1) p2) - M k1 p2).toNat
  have gl : M k1 p2 ≤ goF E (M k1) p2 (paF E (M k1) p2) ∧ goF E (M k1) p2 (paF E (M k1) p2) ≤ eG E := by
    have h1 := gb.1
    show M k1 p2 ≤ gdF _ _ _ ∧ gdF _ _ _ ≤ eG E
    omega
  refine ⟨by omega, by omega, ?_⟩
  intro x5 e5 _
  have f5 : x5 = M k1 p2 := e5
  refine ⟨fun c => ?_, fun c => ?_⟩
  · rw [f5] at c
    refine gX12_gate i1 E1 ?_
    intro _
    refine ⟨fun c2 => ?_, fun c2 => ?_⟩
    · intro M9 h9
      refine hQ _ (by rw [h9]; exact i1.up (by omega) ((bm_n hk1).mpr ⟨by omega, by omega, by omega, by omega⟩)) (by rw [h9]; exact F1.up (Or.inl rfl)) ?_
      rw [h9, up2_up, K1]
      unfold mhF
      rw [if_neg c, if_neg c2]
    · intro x10 e10 _ x11 e11 r11 M12 h12 x13 e13 _
      have f10 : x10 = M k1 12 := by rw [e10, K1]
      have f13 : x13 = x11 := by rw [e13, h12, up2_s]
      have i12 : IM b M12 := by rw [h12]; exact i1.up (by omega) ((bm_n hk1).mpr ⟨by omega, by omega, by omega, by omega⟩)
      refine ⟨by omega, by omega, ?_⟩
      intro M16 h16 M17 h17
      have i16 : IM b M16 := by rw [h16]; exact i12.up (by omega) ((bm_n hk1).mpr ⟨by omega, by omega, by omega, by omega⟩)
      refine hQ _ (by rw [h17]; exact i16.up (by omega) ((bm_n hk1).mpr ⟨by omega, by omega, by omega, by omega⟩)) (by rw [h17, h16, h12]; exact ((F1.up (Or.inl rfl)).up (Or.inl rfl)).up (Or.inl rfl)) ?_
      rw [h17, up2_up, h16, up2_up, h12, up2_up, K1, f13, e11, f10]
      unfold mhF
      rw [if_neg c, if_pos c2]
  · rw [f5] at c
    intro x18 _ _ x19 _ _ M20 h20
    have i20 : IM b M20 := by rw [h20]; exact i1.up (by omega) (by simp [BM])
    refine ⟨by omega, by omega, ?_⟩
    intro x23 _ _ x24 _ _ M25 h25
    refine hQ _ (by rw [h25]; exact i20.up (by omega) (by simp [BM])) (by rw [h25, h20]; exact (F1.up (by omega)).up (by omega)) ?_
    rw [h25, up2_n (by omega), h20, up2_n (by omega), K1]
    unfold mhF
    rw [if_pos c]
theorem gX12_nearest_L5 {k1 : Nat} {p2 b : Int} {Q : Int → Mem → Prop} {M E : Mem} (hI : IM b M) (hE : CE E M) (hk1 : isN k1) (hp : -1 ≤ p2 ∧ p2 ≤ 29) (hQ : Q (nearF (M k1) p2 (eH E)) M) : ∀ (n : Nat) (v3 v4 : Int), v3 = nearF (M k1) p2 v4.toNat → (0 ≤ v4 ∧ v4 ≤ M 1 4) → M 1 4 - v4 < (n : Int) → qX12_nearest_L5 k1 p2 Q n v3 v4 M := by
  intro n
  induction n with
  | zero => intro v3 v4 h3 hv hm; exact absurd hm (by omega)
  | succ n ih =>
    intro v3 v4 h3 hv hm
    have hk : k1 = 5 ∨ k1 = 6 := hk1
    have bH := hE.h hI
    have bn := nearF_b (M k1) p2 v4.toNat
    have hs := nearF_s (c := M k1) (v := p2) hv.1
    rw [← h3] at bn hs
    rw [qX12_nearest_L5]
    intro x1 e1 _
    refine ⟨⟨by omega, by omega⟩, ⟨fun c => ⟨⟨by omega, by omega⟩, ?_⟩, fun c => ?_⟩⟩
    · rw [h3, show v4.toNat = eH E from by omega]
      exact hQ
    · refine gX12_isOn (p1 := v4) ⟨by omega, by omega⟩ ?_
      intro x5 p5 _ _
      refine ⟨fun c5 => ?_, fun c5 => ?_⟩
      · refine ih _ _ ?_ (by omega) (by omega)
        rw [hs, if_neg (fun w => by omega)]
      · refine ⟨by omega, by omega, ?_⟩
        intro x9 e9 _
        have b9 : -1 ≤ x9 ∧ x9 ≤ 29 := by rw [e9]; exact ((bm_n hk1).mp (hI.bx _ _)).1 ⟨by omega, by omega⟩
        refine ⟨⟨by omega, by omega⟩, ?_⟩
        intro x11 p11 n11
        have a11 := ab_e p11 n11
        have b11 := ab_b (x9 - p2)
        have YES : (v3 < 0 ∨ ab (M k1 v4 - p2) < ab (M k1 v3 - p2) ∨ (ab (M k1 v4 - p2) = ab (M k1 v3 - p2) ∧ M k1 v3 < M k1 v4)) → qX12_nearest_L5 k1 p2 Q n v4 (v4 + 1) M := fun w => ih _ _ (by rw [hs, if_pos ⟨by omega, w⟩]) (by omega) (by omega)
        have NO : ¬ (v3 < 0 ∨ ab (M k1 v4 - p2) < ab (M k1 v3 - p2) ∨ (ab (M k1 v4 - p2) = ab (M k1 v3 - p2) ∧ M k1 v3 < M k1 v4)) → qX12_nearest_L5 k1 p2 Q n v3 (v4 + 1) M := fun w => ih _ _ (by rw [hs, if_neg (fun u => w u.2)]) (by omega) (by omega)
        rw [← e9, ← a11] at YES NO
        refine ⟨⟨by omega, by omega⟩, ⟨fun c3 => ⟨by omega, by omega, ?_⟩, fun c3 => ?_⟩⟩
        · intro x16 e16 _
          have b16 : -1 ≤ x16 ∧ x16 ≤ 29 := by rw [e16]; exact ((bm_n hk1).mp (hI.bx _ _)).1 ⟨by omega, by omega⟩
          refine ⟨⟨by omega, by omega⟩, ?_⟩
          intro x18 p18 n18
          have a18 := ab_e p18 n18
          have b18 := ab_b (x16 - p2)
          rw [← e16, ← a18] at YES NO
          unfold qX12_nearest_J52
          refine ⟨⟨by omega, by omega⟩, ⟨by omega, by omega⟩, ⟨fun c6 => YES (by omega), fun c6 => ⟨fun c7 => NO (by omega), fun c7 => ⟨by omega, by omega, ?_⟩⟩⟩⟩
          intro x25 e25 _
          refine ⟨by omega, by omega, ?_⟩
          intro x28 e28 _
          exact ⟨fun c8 => NO (by omega), fun c8 => YES (by omega)⟩
        · unfold qX12_nearest_J52
          refine ⟨⟨by omega, by omega⟩, ⟨by decide, by decide⟩, ⟨fun c6 => YES (Or.inl (by omega)), fun c6 => by omega⟩⟩
theorem gX12_nearest {k1 : Nat} {p2 b : Int} {Q : Int → Mem → Prop} {M E : Mem} (hI : IM b M) (hE : CE E M) (hk1 : isN k1) (hp : -1 ≤ p2 ∧ p2 ≤ 29) (hQ : Q (nearF (M k1) p2 (eH E)) M) : qX12_nearest k1 p2 M Q := by
  have bH := hE.h hI
  unfold qX12_nearest
  exact ⟨7, gX12_nearest_L5 hI hE hk1 hp hQ _ _ _ rfl (by omega) (by omega)⟩
theorem gX12_mournerGoes {k1 : Nat} {p2 b : Int} {M E : Mem} {Q : Mem → Prop} (hI : IM b M) (hE : CE E M) (hk1 : isN k1) (hp : 0 ≤ p2 ∧ p2 ≤ 7) (hQ : ∀ M' : Mem, IM b M' → FrJ (fun k j => k = k1 ∨ (k = 1 ∧ j = 31) ∨ k = 17) M M' → M' k1 = mmF E (M k1) p2 → Q M') : qX12_mournerGoes k1 p2 M Q := by
  have hk : k1 = 5 ∨ k1 = 6 := hk1
  have bH := hE.h hI
  have bF : -1 ≤ M k1 (21 + p2) ∧ M k1 (21 + p2) ≤ 5 := ((bm_n hk1).mp (hI.bx _ _)).2.2.1 ⟨by omega, by omega⟩
  have bA : -1 ≤ M k1 (13 + p2) ∧ M k1 (13 + p2) ≤ 29 := ((bm_n hk1).mp (hI.bx _ _)).2.1 ⟨by omega, by omega⟩
  have bn := nearF_b (M k1) (M k1 (13 + p2)) (eH E)
  have J105 : ∀ (v3 : Int) (M' : Mem) (F : Int → Int), IM b M' → FrJ (fun k j => k = k1 ∨ (k = 1 ∧ j = 31) ∨ k = 17) M M' → (-1 ≤ v3 ∧ v3 ≤ 5) → (v3 < 0 → M' k1 = mmF E (M k1) p2) → (0 ≤ v3 → M' k1 v3 = M k1 v3 ∧ mmF E (M k1) p2 = up (M' k1) (13 + p2) (goM (M k1) p2 v3)) → qX12_mournerGoes_J105 k1 p2 Q v3 (M k1 (13 + p2)) M' := by
    intro v3 M' F i' f' h3 hn hp3
    unfold qX12_mournerGoes_J105
    refine ⟨⟨by omega, by omega⟩, ⟨fun c => hQ _ i' f' (hn c), fun c => ⟨by omega, by omega, ?_⟩⟩⟩
    obtain ⟨k3, km⟩ := hp3 (by omega)
    intro x14 e14 _
    have f14 : x14 = M k1 v3 := by rw [e14, k3]
    have b14 : -1 ≤ x14 ∧ x14 ≤ 29 := by rw [f14]; exact ((bm_n hk1).mp (hI.bx _ _)).1 ⟨by omega, by omega⟩
    have fin : ∀ t : Int, (-1 ≤ t ∧ t ≤ 29) → t = goM (M k1) p2 v3 → qX12_mournerGoes_J145 k1 p2 Q t (13 + p2) M' := by
      intro t ht et
      unfold qX12_mournerGoes_J145
      refine ⟨by omega, by omega, ⟨by omega, by omega⟩, ?_⟩
      intro M23 h23
      refine hQ _ (by rw [h23]; exact i'.up (by omega) ((bm_n hk1).mpr ⟨by omega, by omega, by omega, by omega⟩)) (by rw [h23]; exact f'.up (Or.inl rfl)) ?_
      rw [h23, up2_up, km, et]
    refine ⟨⟨by omega, by omega⟩, ⟨fun c2 => ?_, fun c2 => ?_⟩⟩
    · intro x17 e17 _
      refine ⟨⟨by omega, by omega⟩, ?_⟩
      intro x19 e19 _
      refine fin _ (by omega) ?_
      unfold goM
      rw [if_pos (by omega), e19]
      have : x17 = M k1 v3 := by rw [e17, k3]
      rw [this]
    · intro x24 e24 _
      refine ⟨⟨by omega, by omega⟩, ?_⟩
      intro x26 e26 _
      have : x24 = M k1 v3 := by rw [e24, k3]
      refine fin _ (by omega) ?_
      unfold goM
      rw [if_neg (by omega), e26, this]
  have J75 : chF E (M k1) p2 → (M k1 (21 + p2) < 0 ∨ 0 ≤ M k1 (M k1 (21 + p2))) → qX12_mournerGoes_J75 k1 p2 Q (M k1 (13 + p2)) (nearF (M k1) (M k1 (13 + p2)) (eH E)) M := by
    intro hch hno
    have h0 : 0 ≤ nearF (M k1) (M k1 (13 + p2)) (eH E) := hch.1
    unfold qX12_mournerGoes_J75
    refine ⟨by omega, by omega, ⟨by omega, by omega⟩, ?_⟩
    intro M32 h32 x33 _ _ x34 _ _ M35 h35
    have i32 : IM b M32 := by rw [h32]; exact hI.up (by omega) ((bm_n hk1).mpr ⟨by omega, by omega, by omega, by omega⟩)
    have i35 : IM b M35 := by rw [h35]; exact i32.up (by omega) (by simp [BM])
    refine ⟨by omega, by omega, ?_⟩
    intro x38 _ _ x39 _ _ M40 h40
    have i40 : IM b M40 := by rw [h40]; exact i35.up (by omega) (by simp [BM])
    have K : M40 k1 = up (M k1) (21 + p2) (nearF (M k1) (M k1 (13 + p2)) (eH E)) := by rw [h40, up2_n (by omega), h35, up2_n (by omega), h32, up2_up]
    refine J105 _ _ (fun _ => 0) i40 (by rw [h40, h35, h32]; exact ((FrJ.rf.up (Or.inl rfl)).up (by omega)).up (by omega)) (by omega) (fun q => by omega) (fun _ => ⟨by rw [K, up_j (by omega)], ?_⟩)
    rw [K]
    unfold mmF
    rw [if_neg (by omega), if_pos hch]
  have J27 : (M k1 (21 + p2) < 0 ∨ 0 ≤ M k1 (M k1 (21 + p2))) → qX12_mournerGoes_J27 k1 p2 Q (M k1 (21 + p2)) M := by
    intro hno
    unfold qX12_mournerGoes_J27
    refine ⟨by omega, by omega, ?_⟩
    intro x7 e7 _
    rw [e7]
    refine gX12_nearest (p2 := M k1 (13 + p2)) hI hE hk1 bA ?_
    intro _
    have NO : ¬ chF E (M k1) p2 → qX12_mournerGoes_J105 k1 p2 Q (M k1 (21 + p2)) (M k1 (13 + p2)) M := by
      intro hch
      refine J105 _ _ (fun _ => 0) hI FrJ.rf bF (fun q => ?_) (fun q => ⟨rfl, ?_⟩)
      · unfold mmF
        rw [if_neg (by omega), if_neg hch, if_pos q]
      · unfold mmF
        rw [if_neg (by omega), if_neg hch, if_neg (by omega)]
    refine ⟨fun c => NO (fun h => by have := h.1; omega), fun c => ⟨⟨by omega, by omega⟩, ⟨fun c2 => J75 ⟨by omega, Or.inl c2⟩ hno, fun c2 => ⟨by omega, by omega, ?_⟩⟩⟩⟩
    intro x43 e43 _
    have b43 : -1 ≤ x43 ∧ x43 ≤ 29 := by rw [e43]; exact ((bm_n hk1).mp (hI.bx _ _)).1 ⟨by omega, by omega⟩
    refine ⟨⟨by omega, by omega⟩, ?_⟩
    intro x45 p45 n45
    have a45 := ab_e p45 n45
    have b45 := ab_b (x43 - M k1 (13 + p2))
    refine ⟨by omega, by omega, ?_⟩
    intro x48 e48 _
    have b48 : -1 ≤ x48 ∧ x48 ≤ 29 := by rw [e48]; exact ((bm_n hk1).mp (hI.bx _ _)).1 ⟨by omega, by omega⟩
    refine ⟨⟨by omega, by omega⟩, ?_⟩
    intro x50 p50 n50
    have a50 := ab_e p50 n50
    have b50 := ab_b (x48 - M k1 (13 + p2))
    rw [e43] at a45
    rw [e48] at a50
    refine ⟨⟨by omega, by omega⟩, ⟨by omega, by omega⟩, ⟨fun c3 => NO (fun h => ?_), fun c3 => J75 ⟨by omega, Or.inr (by omega)⟩ hno⟩⟩
    rcases h.2 with w | w
    · omega
    · omega
  unfold qX12_mournerGoes
  refine ⟨by omega, by omega, ?_⟩
  intro x3 e3 _
  rw [e3]
  refine ⟨fun c => J27 (Or.inl c), fun c => ?_⟩
  refine gX12_isOn (p1 := M k1 (21 + p2)) ⟨by omega, by omega⟩ ?_
  intro x54 p54 _ _
  refine ⟨fun c2 => J27 (Or.inr (by omega)), fun c2 => ⟨by omega, by omega, ?_⟩⟩
  intro M58 h58
  refine hQ _ (by rw [h58]; exact hI.up (by omega) ((bm_n hk1).mpr ⟨by omega, by omega, by omega, by omega⟩)) (by rw [h58]; exact FrJ.rf.up (Or.inl rfl)) ?_
  rw [h58, up2_up]
  unfold mmF
  rw [if_pos ⟨by omega, by omega⟩]
-- the line
theorem lnL_s {r : Int → Int} {H : Nat} {c : Int} (h : 0 ≤ c) : lnL r H (c + 1).toNat = if 0 ≤ onF r H c then onF r H c :: lnL r H c.toNat else lnL r H c.toNat := by
  rw [show (c + 1).toNat = c.toNat + 1 from by omega]
  show (if 0 ≤ onF r H (c.toNat : Nat) then onF r H (c.toNat : Nat) :: lnL r H c.toNat else lnL r H c.toNat) = _
  rw [show ((c.toNat : Nat) : Int) = c from by omega]
/-- the rest of the line is l -/
def LL (M : Mem) (i : Int) (l : List Int) : Prop := M 1 35 = i + l.length ∧ ∀ j : Nat, j < l.length → M 18 (i + j) = l.getD j 0
theorem getD_l {l m : List Int} {j : Nat} (h : j < l.length) : (l ++ m).getD j 0 = l.getD j 0 := by
  simp [List.getD, List.getElem?_append, h]
theorem getD_e {l : List Int} {x : Int} : (l ++ [x]).getD l.length 0 = x := by
  simp [List.getD, List.getElem?_append]
theorem gX12_laysLine_L12 {k1 : Nat} {b : Int} {M0 E : Mem} {Q : Mem → Prop} {L : List Int} (hk1 : isN k1) (hQ : ∀ M' : Mem, IM b M' → FrJ (fun k j => k = 18 ∨ (k = 1 ∧ j = 35)) M0 M' → LL M' 0 L → L.length ≤ 6 → Q M') : ∀ (n : Nat) (v2 : Int) (M : Mem) (P : List Int), IM b M → CE E M → FrJ (fun k j => k = 18 ∨ (k = 1 ∧ j = 35)) M0 M → (-1 ≤ v2 ∧ v2 ≤ 29) → P ++ lnL (M0 k1) (eH E) (v2 + 1).toNat = L → M 1 35 = P.length → (∀ j : Nat, j < P.length → M 18 j = P.getD j 0) → (P.length : Int) ≤ sOn (M0 k1) v2 → v2 + 1 < (n : Int) → qX12_laysLine_L12 k1 Q n v2 M := by
  intro n
  induction n with
  | zero => intro v2 M P hI hE hF hv hL h35 h18 hb hm; exact absurd hm (by omega)
  | succ n ih =>
    intro v2 M P hI hE hF hv hL h35 h18 hb hm
    have hk : k1 = 5 ∨ k1 = 6 := hk1
    have bH := hE.h hI
    have bb := bm_c1_35.mp (hI.bx 1 35)
    have K : M k1 = M0 k1 := funext fun j => hF k1 j (by omega)
    rw [qX12_laysLine_L12]
    refine ⟨⟨by omega, by omega⟩, ⟨fun c => hQ _ hI hF ?_ ?_, fun c => ?_⟩⟩
    · have e : P = L := by
        rw [show v2 + 1 = 0 from by omega] at hL
        simpa [lnL] using hL
      refine ⟨by rw [← e]; omega, fun j hj => ?_⟩
      rw [show (0 : Int) + j = j from by omega, h18 j (by rw [e]; exact hj), e]
    · have e : P = L := by
        rw [show v2 + 1 = 0 from by omega] at hL
        simpa [lnL] using hL
      rw [← e]
      omega
    · refine gX12_onCell hI hE ?_
      intro _
      rw [K]
      have hs := lnL_s (r := M0 k1) (H := eH E) (c := v2) (by omega)
      refine ⟨fun c2 => ?_, fun c2 => ?_⟩
      · rw [hs, if_neg (by omega)] at hL
        have := sOn_mono (M0 k1) v2
        exact ih _ _ P hI hE hF (by omega) (by rw [show v2 + (-1) + 1 = v2 from by omega]; exact hL) h35 h18 (by rw [show v2 + (-1) = v2 - 1 from by omega]; omega) (by omega)
      · rw [hs, if_pos (by omega)] at hL
        have ob := onF_b (M0 k1) (eH E) v2
        have hh := sOn_hit (f := M0 k1) (v := v2) (h := onF (M0 k1) (eH E) v2) (by omega) (onF_c (by omega))
        intro x7 e7 _
        refine ⟨by omega, by omega, ?_⟩
        intro M10 h10 x11 e11 _
        have i10 : IM b M10 := by rw [h10]; exact hI.up (by omega) (bm_c18.mpr ⟨by omega, by omega⟩)
        have f11 : x11 = x7 := by rw [e11, h10, up2_n (by decide), e7]
        refine ⟨⟨by omega, by omega⟩, ?_⟩
        intro M13 h13
        have i13 : IM b M13 := by rw [h13]; exact i10.up (by omega) (bm_c1_35.mpr ⟨by omega, by omega⟩)
        have E13 : CE E M13 := by rw [h13, h10]; exact (hE.up (by intro h; rcases h with h | h | h | h | h <;> omega)).up (by decide)
        refine ih _ _ (P ++ [onF (M0 k1) (eH E) v2]) i13 E13 (by rw [h13, h10]; exact (hF.up (Or.inl rfl)).up (Or.inr ⟨rfl, rfl⟩)) (by omega) ?_ ?_ ?_ ?_ (by omega)
        · rw [show v2 + (-1) + 1 = v2 from by omega, List.append_assoc]
          exact hL
        · rw [h13, up2_s, List.length_append]
          simp
          omega
        · intro j hj
          rw [List.length_append] at hj
          have hj2 : j < P.length + 1 := hj
          rw [h13, up2_n (by decide), h10]
          by_cases cj : j = P.length
          · rw [cj, show ((P.length : Nat) : Int) = x7 from by omega, up2_s, getD_e]
          · rw [up2_j (by omega), getD_l (by omega)]
            exact h18 j (by omega)
        · rw [List.length_append, show v2 + (-1) = v2 - 1 from by omega]
          simp
          omega
theorem gX12_laysLine {k1 : Nat} {b : Int} {M E : Mem} {Q : Mem → Prop} (hI : IM b M) (hE : CE E M) (hk1 : isN k1) (hQ : ∀ M' : Mem, IM b M' → FrJ (fun k j => k = 18 ∨ (k = 1 ∧ j = 35)) M M' → LL M' 0 (lnL (M k1) (eH E) (eG E).toNat) → (lnL (M k1) (eH E) (eG E).toNat).length ≤ 6 → Q M') : qX12_laysLine k1 M Q := by
  have hk : k1 = 5 ∨ k1 = 6 := hk1
  have bg := hE.g hI
  unfold qX12_laysLine
  intro M1 h1
  have i1 : IM b M1 := by rw [h1]; exact hI.up (by omega) (bm_c1_35.mpr (by decide))
  have E1 : CE E M1 := by rw [h1]; exact hE.up (by decide)
  have F1 : FrJ (fun k j => k = 18 ∨ (k = 1 ∧ j = 35)) M M1 := by rw [h1]; exact FrJ.rf.up (Or.inr ⟨rfl, rfl⟩)
  refine gX12_gate i1 E1 ?_
  intro _
  refine ⟨31, gX12_laysLine_L12 (E := E) hk1 hQ _ _ _ [] i1 E1 F1 (by omega) (by rw [show eG E - 1 + 1 = eG E from by omega]; rfl) (by rw [h1, up2_s]; rfl) (fun j hj => absurd hj (Nat.not_lt_zero _)) ?_ (by omega)⟩
  have a0 := tOn_b (M k1) (eG E - 1) 0
  have a1 := tOn_b (M k1) (eG E - 1) 1
  have a2 := tOn_b (M k1) (eG E - 1) 2
  have a3 := tOn_b (M k1) (eG E - 1) 3
  have a4 := tOn_b (M k1) (eG E - 1) 4
  have a5 := tOn_b (M k1) (eG E - 1) 5
  show ((0 : Nat) : Int) ≤ sOn (M k1) (eG E - 1)
  unfold sOn
  omega
theorem lnL_m {r : Int → Int} {H c : Nat} {h : Int} (hm : h ∈ lnL r H c) : 0 ≤ h ∧ h < H ∧ 0 ≤ r h ∧ r h < c := by
  induction c with
  | zero => exact absurd hm (by simp [lnL])
  | succ c ih =>
    unfold lnL at hm
    by_cases q : 0 ≤ onF r H c
    · rw [if_pos q] at hm
      rcases List.mem_cons.mp hm with w | w
      · have e := onF_c q
        have b := onF_b r H c
        rw [w, e]
        omega
      · have := ih w
        omega
    · rw [if_neg q] at hm
      have := ih hm
      omega
/-- hearses that can go, each once -/
def VL (g : Int) (r : Int → Int) : List Int → Prop
  | [] => True
  | h :: t => (0 ≤ h ∧ h ≤ 5 ∧ 0 ≤ r h ∧ r h < g) ∧ (∀ h' ∈ t, h' ≠ h) ∧ VL g r t
theorem VL.cg {g : Int} {r r' : Int → Int} {l : List Int} (h : VL g r l) (he : ∀ x ∈ l, r' x = r x) : VL g r' l := by
  induction l with
  | nil => trivial
  | cons a t ih =>
    obtain ⟨h1, h2, h3⟩ := h
    have ea := he a (List.mem_cons_self ..)
    exact ⟨by rw [ea]; exact h1, h2, ih h3 (fun x hx => he x (List.mem_cons_of_mem _ hx))⟩
theorem lnL_VL {r : Int → Int} {H : Nat} {g : Int} (hH : H ≤ 6) (c : Nat) (hc : (c : Int) ≤ g) : VL g r (lnL r H c) := by
  induction c with
  | zero => trivial
  | succ c ih =>
    unfold lnL
    by_cases q : 0 ≤ onF r H c
    · rw [if_pos q]
      have e := onF_c q
      have b := onF_b r H c
      refine ⟨⟨q, by omega, by rw [e]; omega, by rw [e]; omega⟩, fun h' hm eq => ?_, ih (by omega)⟩
      have := lnL_m hm
      rw [eq, e] at this
      omega
    · rw [if_neg q]
      exact ih (by omega)
theorem VL.i {g : Int} {r : Int → Int} {l : List Int} (h : VL g r l) : ∀ x ∈ l, 0 ≤ x ∧ x ≤ 5 := by
  induction l with
  | nil => intro x hx; exact absurd hx (by simp)
  | cons a t ih =>
    intro x hx
    rcases List.mem_cons.mp hx with w | w
    · rw [w]; exact ⟨h.1.1, h.1.2.1⟩
    · exact ih h.2.2 x w
theorem mhF_o {E : Mem} {r : Int → Int} {h j : Int} (h1 : j ≠ h) (h2 : j ≠ 6 + h) (h3 : j ≠ 12) : mhF E r h j = r j := by
  unfold mhF
  split
  · rfl
  · split
    · rw [up_j h1, up_j h2, up_j h3]
    · rw [up_j h1]
theorem gX12_stepGoes_L7 {k1 : Nat} {b : Int} {E : Mem} {X32 Q : Mem → Prop} {A : Int → Int} (hk1 : isN k1) (hX : ∀ M' : Mem, IM b M' → CE E M' → M' k1 = A → X32 M') : ∀ (n : Nat) (v2 : Int) (M : Mem) (l : List Int), IM b M → CE E M → LL M v2 l → VL (eG E) (M k1) l → hsF E l (M k1) = A → (0 ≤ v2 ∧ v2 + l.length ≤ 6) → 6 - v2 < (n : Int) → qX12_stepGoes_L7 k1 X32 Q n v2 M := by
  intro n
  induction n with
  | zero => intro v2 M l hI hE hL hV hA hv hm; exact absurd hm (by omega)
  | succ n ih =>
    intro v2 M l hI hE hL hV hA hv hm
    have hk : k1 = 5 ∨ k1 = 6 := hk1
    rw [qX12_stepGoes_L7]
    intro x2 e2 _
    have f2 : x2 = v2 + l.length := by rw [e2]; exact hL.1
    refine ⟨⟨by omega, by omega⟩, ⟨fun c => ?_, fun c => ⟨by omega, by omega, ?_⟩⟩⟩
    · cases l with
      | nil => exact hX _ hI hE hA
      | cons h t => simp at f2; omega
    · intro x7 e7 _
      cases l with
      | nil => simp at f2; omega
      | cons h t =>
        obtain ⟨h1, h2, h3⟩ := hV
        have f7 : x7 = h := by
          have := hL.2 0 (by simp)
          rw [show v2 + ((0 : Nat) : Int) = v2 from by omega] at this
          rw [e7, this]
          rfl
        rw [f7]
        refine gX12_hearseGoes hI hE hk1 ⟨h1.1, h1.2.1⟩ h1.2.2 ?_
        intro M8 i8 F8 K8
        have E8 : CE E M8 := hE.fr F8 (by intro k j h; rcases h with h | h | h | h | h <;> omega)
        refine ih _ _ t i8 E8 ⟨?_, fun j hj => ?_⟩ ?_ (by rw [K8]; exact hA) (by simp at hv; omega) (by omega)
        · rw [F8 1 35 (by omega), hL.1]
          simp
          omega
        · rw [F8 18 _ (by omega)]
          have := hL.2 (j + 1) (by simp; omega)
          rw [show v2 + ((j + 1 : Nat) : Int) = v2 + 1 + j from by omega] at this
          rw [this]
          rfl
        · refine h3.cg (fun x hx => ?_)
          have hi := h3.i x hx
          rw [K8]
          exact mhF_o (h2 x hx) (by omega) (by omega)
theorem msF_s {E : Mem} {r : Int → Int} {i : Int} (h : 0 ≤ i) : msF E (i + 1).toNat r = if 0 ≤ msF E i.toNat r (29 + i) then msF E i.toNat r else mmF E (msF E i.toNat r) i := by
  rw [show (i + 1).toNat = i.toNat + 1 from by omega]
  show (if 0 ≤ msF E i.toNat r (29 + (i.toNat : Nat)) then msF E i.toNat r else mmF E (msF E i.toNat r) (i.toNat : Nat)) = _
  rw [show ((i.toNat : Nat) : Int) = i from by omega]
theorem gX12_stepGoes_L34 {k1 : Nat} {b : Int} {E : Mem} {X62 Q : Mem → Prop} {r : Int → Int} (hk1 : isN k1) (hX : ∀ M' : Mem, IM b M' → CE E M' → M' k1 = msF E (eO E) r → X62 M') : ∀ (n : Nat) (v2 : Int) (M : Mem), IM b M → CE E M → M k1 = msF E v2.toNat r → (0 ≤ v2 ∧ v2 ≤ (eO E : Nat)) → 8 - v2 < (n : Int) → qX12_stepGoes_L34 k1 X62 Q n v2 M := by
  intro n
  induction n with
  | zero => intro v2 M hI hE hK hv hm; have bO := hE.o hI; exact absurd hm (by omega)
  | succ n ih =>
    intro v2 M hI hE hK hv hm
    have bO := hE.o hI
    have hk : k1 = 5 ∨ k1 = 6 := hk1
    rw [qX12_stepGoes_L34]
    intro x10 e10 _
    refine ⟨⟨by omega, by omega⟩, ⟨fun c => hX _ hI hE (by rw [hK, show v2.toNat = eO E from by omega]), fun c => ?_⟩⟩
    have hs := msF_s (E := E) (r := r) hv.1
    rw [← hK] at hs
    refine gX12_isEnded (p1 := v2) ⟨by omega, by omega⟩ ?_
    intro x13 p13 _ _
    refine ⟨fun c2 => ih _ _ hI hE (by rw [hs, if_pos (by omega)]) (by omega) (by omega), fun c2 => ?_⟩
    refine gX12_mournerGoes (p2 := v2) hI hE hk1 ⟨by omega, by omega⟩ ?_
    intro M15 i15 F15 K15
    exact ih _ _ i15 (hE.fr F15 (by intro k j h; rcases h with h | h | h | h | h <;> omega)) (by rw [hs, if_neg (by omega), K15]) (by omega) (by omega)
theorem gX12_stepGoes {k1 : Nat} {b : Int} {M E : Mem} {Q : Mem → Prop} (hI : IM b M) (hE : CE E M) (hb : b + 1 ≤ 2000000000) (hk1 : isN k1) (hQ : ∀ M' : Mem, IM (b + 1) M' → CE E M' → M' k1 = stF E (M k1) → Q M') : qX12_stepGoes k1 M Q := by
  have hk : k1 = 5 ∨ k1 = 6 := hk1
  have bH := hE.h hI
  have bO := hE.o hI
  have bg := hE.g hI
  unfold qX12_stepGoes
  refine gX12_laysLine hI hE hk1 ?_
  intro M1 i1 F1 L1 hl6
  have E1 : CE E M1 := hE.fr F1 (by intro k j h; rcases h with h | h | h | h | h <;> omega)
  have K1 : M1 k1 = M k1 := funext fun j => F1 k1 j (by omega)
  refine ⟨7, gX12_stepGoes_L7 (A := hsF E (lnL (M k1) (eH E) (eG E).toNat) (M k1)) hk1 ?_ _ _ _ (lnL (M k1) (eH E) (eG E).toNat) i1 E1 L1 (by rw [K1]; exact lnL_VL (by omega) _ (by omega)) (by rw [K1]) (by omega) (by omega)⟩
  intro M2 i2 E2 K2
  refine ⟨9, gX12_stepGoes_L34 (r := hsF E (lnL (M k1) (eH E) (eG E).toNat) (M k1)) hk1 ?_ _ _ _ i2 E2 (by rw [K2]; rfl) (by omega) (by omega)⟩
  intro M3 i3 E3 K3 x17 e17 _
  have b17 : 0 ≤ x17 ∧ x17 ≤ b := by rw [e17]; exact ((bm_n hk1).mp (i3.bx _ _)).2.2.2 rfl
  refine ⟨⟨by omega, by omega⟩, ?_⟩
  intro M19 h19
  refine hQ _ ?_ ?_ ?_
  · rw [h19]
    exact (i3.mono (by omega)).up (by omega) ((bm_n hk1).mpr ⟨by omega, by omega, by omega, by omega⟩)
  · rw [h19]
    exact E3.up (by intro h; rcases h with h | h | h | h | h <;> omega)
  · rw [h19, up2_up, e17, K3]
    rfl
