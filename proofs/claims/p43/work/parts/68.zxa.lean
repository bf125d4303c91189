/-! ONE HEARSE, ONE MOURNER -/
theorem up_00 (M : Mem) {k : Nat} {j : Int} (h : ¬ (k = 1 ∧ j = 0)) : up2 M 1 0 0 k j = M k j := by
  rw [up2_a]
  by_cases c : k = 1
  · rw [if_pos c, if_neg (fun q => h ⟨c, q⟩)]
  · rw [if_neg c]
theorem gX11_paceNow {p1 : Int} {M E : Mem} {r : Int → Int} {Q : Int → Mem → Prop} (hI : IX M) (hS : STR E M) (hL : LAW E M (M 155 16).toNat) (hw : WFC (E 11) (E 1 24)) (hC : SC E M 1 r) (hW : WR E r) (h37 : r 37 ≤ 2000000000) (hp : 0 ≤ p1 ∧ p1 < E 1 4) (hQ : ∀ M' : Mem, IX M' → Q (if r p1 < 0 then 0 else paF E r p1) M') : qX11_paceNow p1 M Q := by
  have eb := hS.eb
  have e4 := eb.2.1
  have w := hW.2.1 p1 hp.1 hp.2
  have c2 : M 3 p1 = r (6 + p1) := hC.2.2.2.1 p1 hp.1 (by omega)
  have el : (M 155 16).toNat = 187 ∨ (M 155 16).toNat = 192 := hI.l16
  unfold qX11_paceNow
  refine gX6_hasArrived (k0 := 1) (by omega) ?_
  intro x1 h1 _ _
  rw [show M (1 + 2) p1 = M 3 p1 from rfl, c2] at h1
  refine ⟨fun c => ⟨hI.l16, ?_⟩, fun c => ?_⟩
  · refine gX2_observe hI hI.l16 (show isS 1 by decide) hS hC hW hp (by omega) (by omega) ?_
    intro M4 i4 k4 o4
    have g16 : M4 155 16 = M 155 16 := k4 155 16 (by omega)
    refine ⟨i4.l16, ?_⟩
    rw [g16]
    have L4 : LAW E M4 (M 155 16).toNat := hL.fr (k4 _ _ (by omega)) (k4 _ _ (by omega)) (fun j => k4 _ j (by omega)) (fun j => k4 _ j (by omega))
    refine gX2_pace (e := envF E r p1) i4 hI.l16 L4 hw ?_ ?_
    · exact o4
    · intro M6 i6 _ _
      have := hQ M6 i6
      rw [if_neg (by omega)] at this
      exact this
  · have := hQ M hI
    rw [if_pos (by omega)] at this
    exact this
theorem gX11_hearse {p1 p2 : Int} {M E : Mem} {r : Int → Int} {Q : Int → Mem → Prop} {X : Mem → Prop} (hI : IX M) (hS : STR E M) (hL : LAW E M (M 155 16).toNat) (hw : WFC (E 11) (E 1 24)) (hC : SC E M 1 r) (hW : WR E r) (h37 : r 37 ≤ 2000000000) (hQ : heOK E p1 p2 → ∀ M' : Mem, IX M' → Q (heF E r p1 p2) M') (hX : ¬ heOK E p1 p2 → X M) : qX11_hearse p1 p2 M Q X := by
  have eb := hS.eb
  have ef := eb.f
  have e4 := eb.2.1
  have e5 := eb.2.2
  obtain ⟨c6, c7, a1, a2, a3, a4, a5, a6, a7, a8, a9⟩ := id hC
  unfold qX11_hearse
  refine gX6_isHearse hC ?_
  intro x1 h1 _ _
  refine ⟨fun c => ?_, fun c => hX (fun q => by have := q.1; omega)⟩
  have hp : 0 ≤ p1 ∧ p1 < E 1 4 := by omega
  unfold heF at hQ
  refine ⟨fun d => ?_, fun d => ?_, fun d => ?_, fun d => ?_, fun d => ?_, fun d => ?_, fun d => ?_⟩
  · refine ⟨by omega, by omega, ?_⟩
    intro x6 e6 _
    have := hQ ⟨hp, by omega⟩ M hI
    rw [if_pos d] at this
    rw [e6, show M 2 p1 = r p1 from a1 p1 hp.1 (by omega)]
    exact this
  · refine ⟨by omega, by omega, ?_⟩
    intro x6 e6 _
    have := hQ ⟨hp, by omega⟩ M hI
    rw [if_neg (by omega), if_pos d] at this
    rw [e6, show M 3 p1 = r (6 + p1) from a2 p1 hp.1 (by omega)]
    exact this
  · refine gX11_paceNow hI hS hL hw hC hW h37 hp ?_
    intro M' i' _
    have := hQ ⟨hp, by omega⟩ M' i'
    rw [if_neg (by omega), if_neg (by omega), if_pos d] at this
    exact this
  · refine gX6_bitsOf (k0 := 1) (k1 := 6) hS c7 ?_
    intro _
    have := hQ ⟨hp, by omega⟩ M hI
    rw [if_neg (by omega), if_neg (by omega), if_neg (by omega), if_pos d] at this
    rw [bitF_cg (g := fun m => r (21 + m)) (fun i p q => a6 i p (by omega))]
    exact this
  · refine gX6_bitsOf (k0 := 1) (k1 := 7) hS c7 ?_
    intro _
    have := hQ ⟨hp, by omega⟩ M hI
    rw [if_neg (by omega), if_neg (by omega), if_neg (by omega), if_neg (by omega), if_pos d] at this
    rw [bitF_cg (g := fun m => r (29 + m)) (fun i p q => a7 i p (by omega))]
    exact this
  · refine gX6_bitsOf (k0 := 1) (k1 := 5) hS c7 ?_
    intro _
    have := hQ ⟨hp, by omega⟩ M hI
    rw [if_neg (by omega), if_neg (by omega), if_neg (by omega), if_neg (by omega), if_neg (by omega)] at this
    rw [bitF_cg (g := E 3) (fun i p q => a5 i p (by omega))]
    exact this
  · exact hX (fun q => by have := q.2; omega)
theorem gX12_refuse {b : Int} {M : Mem} {Q : Int → Mem → Prop} (hI : IM b M) (hQ : ∀ M' : Mem, IM b M' → M' 1 0 = 1 → Q 0 M') : qX12_refuse M Q := by
  unfold qX12_refuse
  intro M1 h1
  exact hQ M1 (by rw [h1]; exact hI.up (by omega) (by simp [BM])) (by rw [h1, up2_s])
theorem gX12_hearse {p1 p2 b : Int} {M E : Mem} {Q : Int → Mem → Prop} (hI : IM b M) (hE : CE E M) (hE0 : EBx E) (hW : WR E (M 5)) (hQ : heOK E p1 p2 → ∀ M' : Mem, IM b M' → M' 1 0 = 0 → Q (heF E (M 5) p1 p2) M') (hX : ¬ heOK E p1 p2 → ∀ M' : Mem, IM b M' → M' 1 0 = 1 → Q 0 M') : qX12_hearse p1 p2 M Q := by
  have e4 := hE0.2.1
  have e5 := hE0.2.2
  unfold qX12_hearse
  intro M1 h1
  have i1 : IM b M1 := by rw [h1]; exact hI.up (by omega) (by simp [BM])
  have z1 : M1 1 0 = 0 := by rw [h1, up2_s]
  have k5 : M1 5 = M 5 := by rw [h1, up2_n (by decide)]
  have E1 : CE E M1 := fun k j h => by rw [h1, up_00 M (by rcases h with h | h | h | h | h <;> omega)]; exact hE k j h
  have g14 : M1 1 4 = E 1 4 := E1 1 4 cE14
  have BAD : ¬ heOK E p1 p2 → qX12_hearse_J25 p1 p2 Q M1 := by
    intro n
    unfold qX12_hearse_J25
    exact gX12_refuse i1 (fun M' i' z' _ => hX n M' i' z')
  unfold qX12_isHearse
  intro x1 e1 _
  refine ⟨⟨by omega, by omega⟩, ?_⟩
  refine sX12_in (p0 := p1) (p2 := 0) (p4 := x1 - 1) i1 ?_
  intro z hz _ _
  refine ⟨by rcases hz.1 with q | q <;> omega, ?_⟩
  intro _ _
  refine ⟨fun c => BAD (fun q => by have := hz.2.2 c; have := q.1; omega), fun c => ?_⟩
  have hp0 := hz.2.1 (by rcases hz.1 with q | q <;> omega)
  have hp : 0 ≤ p1 ∧ p1 < E 1 4 := by omega
  refine sX12_in (p0 := p2) (p2 := 0) (p4 := 5) i1 ?_
  intro z2 hz2 _ _
  refine ⟨fun c2 => ?_, fun c2 => BAD (fun q => by have := hz2.2.2 c2; have := q.2; omega)⟩
  have h2 := hz2.2.1 (by rcases hz2.1 with q | q <;> omega)
  have G := hQ ⟨hp, by omega⟩
  unfold heF at G
  rw [← k5] at G
  refine ⟨fun d => ?_, fun d => ?_, fun d => ?_, fun d => ?_, fun d => ?_, fun d => ?_⟩
  · refine ⟨by omega, by omega, ?_⟩
    intro x10 e10 _
    have := G M1 i1 z1
    rw [if_pos d] at this
    rw [e10]
    exact this
  · refine ⟨by omega, by omega, ?_⟩
    intro x10 e10 _
    have := G M1 i1 z1
    rw [if_neg (by omega), if_pos d] at this
    rw [e10]
    exact this
  · by_cases on : M1 5 p1 < 0
    · unfold qX12_paceOf
      refine gX12_isOn (k0 := 5) (by omega) ?_
      intro zo ho _ _
      refine ⟨fun q => by omega, fun q => ?_⟩
      intro _
      have := G M1 i1 z1
      rw [if_neg (by omega), if_neg (by omega), if_pos d, if_pos on] at this
      exact this
    · refine fmX12_paceOf (gX12_paceOf (E := E) i1 E1 (Or.inl rfl) ⟨by omega, by omega, by omega⟩ (Q := fun z M' => IM b M' ∧ z = paF E (M1 5) p1) (fun M' i' _ => ⟨i', rfl⟩)) ?_
      intro x14 M14 k14 hh _
      obtain ⟨i14, e14⟩ := hh
      have := G M14 i14 (by rw [k14 1 0 (by omega)]; exact z1)
      rw [if_neg (by omega), if_neg (by omega), if_pos d, if_neg on] at this
      rw [e14]
      exact this
  · refine gX12_bitsBy i1 E1 (by decide) ?_
    intro _
    have := G M1 i1 z1
    rw [if_neg (by omega), if_neg (by omega), if_neg (by omega), if_pos d] at this
    exact this
  · refine gX12_bitsBy i1 E1 (by decide) ?_
    intro _
    have := G M1 i1 z1
    rw [if_neg (by omega), if_neg (by omega), if_neg (by omega), if_neg (by omega), if_pos d] at this
    exact this
  · refine gX12_owners i1 E1 ?_
    intro _
    have := G M1 i1 z1
    rw [if_neg (by omega), if_neg (by omega), if_neg (by omega), if_neg (by omega), if_neg (by omega)] at this
    exact this
theorem gX11_mourner {p1 p2 : Int} {M E : Mem} {r : Int → Int} {Q : Int → Mem → Prop} {X : Mem → Prop} (hI : IX M) (hS : STR E M) (hC : SC E M 1 r) (hW : WR E r) (hQ : moOK E p1 p2 → Q (moF E r p1 p2) M) (hX : ¬ moOK E p1 p2 → X M) : qX11_mourner p1 p2 M Q X := by
  have eb := hS.eb
  have e3 := eb.1
  have e4 := eb.2.1
  have e5 := eb.2.2
  have eg : eG E = E 1 3 - 1 := rfl
  obtain ⟨c6, c7, a1, a2, a3, a4, a5, a6, a7, a8, a9⟩ := id hC
  unfold qX11_mourner
  refine gX6_isMourner hC ?_
  intro x1 h1 _ _
  refine ⟨fun c => ?_, fun c => hX (fun q => by have := q.1; omega)⟩
  have hp : 0 ≤ p1 ∧ p1 < E 1 5 := by omega
  have w := hW.2.2.1 p1 hp.1 hp.2
  unfold moF at hQ
  refine ⟨fun d => ?_, fun d => ?_, fun d => ?_, fun d => ?_, fun d => ?_, fun d => ?_⟩
  · refine ⟨by omega, by omega, ?_⟩
    intro x6 e6 _
    have := hQ ⟨hp, by omega⟩
    rw [if_pos d] at this
    rw [e6, show M 4 p1 = r (13 + p1) from a4 p1 hp.1 (by omega)]
    exact this
  · refine ⟨by omega, by omega, ?_⟩
    intro x6 e6 _
    have := hQ ⟨hp, by omega⟩
    rw [if_neg (by omega), if_pos d] at this
    rw [e6, show M 5 p1 = E 3 p1 from a5 p1 hp.1 (by omega)]
    exact this
  · refine ⟨by omega, by omega, ?_⟩
    intro x6 e6 _
    have := hQ ⟨hp, by omega⟩
    rw [if_neg (by omega), if_neg (by omega), if_pos d] at this
    rw [e6, show M 6 p1 = r (21 + p1) from a6 p1 hp.1 (by omega)]
    exact this
  · refine ⟨by omega, by omega, ?_⟩
    intro x6 e6 _
    have := hQ ⟨hp, by omega⟩
    rw [if_neg (by omega), if_neg (by omega), if_neg (by omega), if_pos d] at this
    rw [e6, show M 7 p1 = r (29 + p1) from a7 p1 hp.1 (by omega)]
    exact this
  · refine ⟨by omega, by omega, ?_⟩
    intro x18 e18 _
    have f18 : x18 = r (13 + p1) := by rw [e18, show M 4 p1 = r (13 + p1) from a4 p1 hp.1 (by omega)]
    refine gX6_nearestTo hI (show isS 1 by decide) hS hC hW (by omega) ?_
    intro _
    have := hQ ⟨hp, by omega⟩
    rw [if_neg (by omega), if_neg (by omega), if_neg (by omega), if_neg (by omega)] at this
    rw [f18]
    exact this
  · exact hX (fun q => by have := q.2; omega)
theorem gX12_mourner {p1 p2 b : Int} {M E : Mem} {Q : Int → Mem → Prop} (hI : IM b M) (hE : CE E M) (hE0 : EBx E) (hW : WR E (M 5)) (hQ : moOK E p1 p2 → ∀ M' : Mem, IM b M' → M' 1 0 = 0 → Q (moF E (M 5) p1 p2) M') (hX : ¬ moOK E p1 p2 → ∀ M' : Mem, IM b M' → M' 1 0 = 1 → Q 0 M') : qX12_mourner p1 p2 M Q := by
  have e3 := hE0.1
  have e4 := hE0.2.1
  have e5 := hE0.2.2
  have eg : eG E = E 1 3 - 1 := rfl
  unfold qX12_mourner
  intro M1 h1
  have i1 : IM b M1 := by rw [h1]; exact hI.up (by omega) (by simp [BM])
  have z1 : M1 1 0 = 0 := by rw [h1, up2_s]
  have k5 : M1 5 = M 5 := by rw [h1, up2_n (by decide)]
  have E1 : CE E M1 := fun k j h => by rw [h1, up_00 M (by rcases h with h | h | h | h | h <;> omega)]; exact hE k j h
  have g15 : M1 1 5 = E 1 5 := E1 1 5 cE15
  have BAD : ¬ moOK E p1 p2 → qX12_mourner_J25 p1 p2 Q M1 := by
    intro n
    unfold qX12_mourner_J25
    exact gX12_refuse i1 (fun M' i' z' _ => hX n M' i' z')
  unfold qX12_isMourner
  intro x1 e1 _
  refine ⟨⟨by omega, by omega⟩, ?_⟩
  refine sX12_in (p0 := p1) (p2 := 0) (p4 := x1 - 1) i1 ?_
  intro z hz _ _
  refine ⟨by rcases hz.1 with q | q <;> omega, ?_⟩
  intro _ _
  refine ⟨fun c => BAD (fun q => by have := hz.2.2 c; have := q.1; omega), fun c => ?_⟩
  have hp0 := hz.2.1 (by rcases hz.1 with q | q <;> omega)
  have hp : 0 ≤ p1 ∧ p1 < E 1 5 := by omega
  have w := hW.2.2.1 p1 hp.1 hp.2
  rw [← k5] at w
  refine sX12_in (p0 := p2) (p2 := 0) (p4 := 4) i1 ?_
  intro z2 hz2 _ _
  refine ⟨fun c2 => ?_, fun c2 => BAD (fun q => by have := hz2.2.2 c2; have := q.2; omega)⟩
  have h2 := hz2.2.1 (by rcases hz2.1 with q | q <;> omega)
  have G := hQ ⟨hp, by omega⟩ M1 i1 z1
  unfold moF at G
  rw [← k5] at G
  refine ⟨fun d => ?_, fun d => ?_, fun d => ?_, fun d => ?_, fun d => ?_⟩
  · refine ⟨by omega, by omega, ?_⟩
    intro x10 e10 _
    rw [if_pos d] at G
    rw [e10]
    exact G
  · refine ⟨by omega, by omega, ?_⟩
    intro x10 e10 _
    rw [if_neg (by omega), if_pos d] at G
    rw [e10, E1 3 p1 (cE3 p1)]
    exact G
  · refine ⟨by omega, by omega, ?_⟩
    intro x10 e10 _
    rw [if_neg (by omega), if_neg (by omega), if_pos d] at G
    rw [e10]
    exact G
  · refine ⟨by omega, by omega, ?_⟩
    intro x10 e10 _
    rw [if_neg (by omega), if_neg (by omega), if_neg (by omega), if_pos d] at G
    rw [e10]
    exact G
  · refine ⟨by omega, by omega, ?_⟩
    intro x22 e22 _
    rw [if_neg (by omega), if_neg (by omega), if_neg (by omega), if_neg (by omega)] at G
    refine gX12_nearest i1 E1 (Or.inl rfl) (by omega) ?_
    intro _
    rw [e22]
    exact G
