/-! YEARS -/
def rnF (R : Int) : Int := w32 (w32 (R * 1103515245) + 12345)
def drF (R n : Int) : Int := rmI (usI (rnF R) 16) n
theorem drF_b {R n : Int} (hn : 1 ≤ n ∧ n ≤ 100) : 0 ≤ drF R n ∧ drF R n ≤ n - 1 := by
  have u := usI_16 (rnF R)
  exact rmI_b (a := usI (rnF R) 16) (b := n) ⟨by omega, by omega⟩ ⟨by omega, by omega⟩
theorem tn_37 {E : Mem} {r : Int → Int} (hE : EBx E) (m : Int) : tnR E r m 37 = r 37 := by
  have e := hE.2
  unfold tnR
  split
  · rename_i c
    have c0 : 0 ≤ m ∧ m < E 1 5 := c.1
    rw [up_j (by omega)]
  · rfl
theorem ps_37 {E : Mem} {r : Int → Int} (hE : EBx E) (m v : Int) : psR E r m v 37 = r 37 := by
  have e := hE.2
  unfold psR
  split
  · rename_i c
    have c0 : 0 ≤ m ∧ m < E 1 5 := c.1.1
    rw [up_j (by omega)]
  · rfl
theorem st_37 {E : Mem} {r : Int → Int} (hE : EBx E) : stF E r 37 = r 37 + 1 := by
  have h := itF_37 (E := E) (r := r) hE 1
  exact h
noncomputable def yrF (E : Mem) : Nat → Int → (Int → Int) → Int → Int
  | 0, _, r => r
  | n + 1, R, r => if drF R 4 < 2 then yrF E n (rnF R) (stF E r) else if E 1 5 ≤ 0 then yrF E n (rnF R) r else if drF R 4 = 2 then yrF E n (rnF (rnF R)) (tnR E r (drF (rnF R) (E 1 5))) else yrF E n (rnF (rnF (rnF R))) (psR E r (drF (rnF R) (E 1 5)) (drF (rnF (rnF R)) 5 - 2))
noncomputable def yrA (E : Mem) (r : Int → Int) (s n : Int) : Int := if 1 ≤ n ∧ n ≤ 60 then yrF E n.toNat s r 12 else -1
theorem gX11_draw {p1 : Int} {M : Mem} {Q : Int → Mem → Prop} (hI : IX M) (hp : 1 ≤ p1 ∧ p1 ≤ 100) (hQ : ∀ M' : Mem, IX M' → Ks (fun k j => k = 155 ∧ j = 15) M M' → M' 155 15 = rnF (M 155 15) → Q (drF (M 155 15) p1) M') : qX11_draw p1 M Q := by
  unfold qX11_draw
  intro x1 e1 _ x2 e2 _ x3 e3 _ M4 h4
  have f3 : x3 = rnF (M 155 15) := by rw [e3, e2, e1]; rfl
  have i4 : IX M4 := by rw [h4]; exact hI.up15 rfl
  have k4 : Ks (fun k j => k = 155 ∧ j = 15) M M4 := by rw [h4]; exact Ks.rf.wr ⟨rfl, rfl⟩
  have g4 : M4 155 15 = rnF (M 155 15) := by rw [h4, up2_s]; exact f3
  refine ⟨fun c => ?_, fun c => by omega⟩
  intro x6 e6 _ x7 e7 _
  refine ⟨by omega, ?_⟩
  intro x9 e9 _
  rw [e9, e7, e6, g4]
  exact hQ M4 i4 k4 g4
theorem gX12_draws {p1 b : Int} {M : Mem} {Q : Int → Mem → Prop} (hI : IM b M) (hp : 1 ≤ p1 ∧ p1 ≤ 100) (hQ : ∀ M' : Mem, IM b M' → FrJ (fun k j => k = 1 ∧ j = 49) M M' → M' 1 49 = rnF (M 1 49) → Q (drF (M 1 49) p1) M') : qX12_draws p1 M Q := by
  unfold qX12_draws
  intro x1 e1 _ x2 e2 _ x3 e3 _ M4 h4
  have f3 : x3 = rnF (M 1 49) := by rw [e3, e2, e1]; rfl
  have i4 : IM b M4 := by rw [h4]; exact hI.up (by omega) (by simp [BM])
  have k4 : FrJ (fun k j => k = 1 ∧ j = 49) M M4 := by rw [h4]; exact FrJ.rf.up ⟨rfl, rfl⟩
  have g4 : M4 1 49 = rnF (M 1 49) := by rw [h4, up2_s]; exact f3
  intro x5 e5 _ x6 e6 _
  refine ⟨by omega, ?_⟩
  intro x8 e8 _
  rw [e8, e6, e5, g4]
  exact hQ M4 i4 k4 g4
abbrev kYr (kl k : Nat) (j : Int) : Prop := kAd 8 kl k j ∨ (k = 155 ∧ j = 15)
theorem gX11_years_L31 {p1 p2 : Int} {X155 : Mem → Prop} {Q : Int → Mem → Prop} {M0 E : Mem} {T : Int → Int} (hI0 : IX M0) (hS0 : STR E M0) (hL0 : LAW E M0 (M0 155 16).toNat) (hw : WFC (E 11) (E 1 24)) (h2 : p2 ≤ 60) (hX : ∀ M' : Mem, IX M' → SC E M' 8 T → X155 M') : ∀ (n : Nat) (v3 : Int) (M : Mem) (r : Int → Int), IX M → Ks (kYr (M0 155 16).toNat) M0 M → SC E M 8 r → WR E r → r 37 ≤ 1999999000 + v3 → yrF E n (M 155 15) r = T → (0 ≤ v3 ∧ v3 + n = p2) → qX11_years_L31 p1 p2 X155 Q (n + 1) v3 M := by
  have eb := hS0.eb
  have e5 := eb.2.2
  have el : (M0 155 16).toNat = 187 ∨ (M0 155 16).toNat = 192 := hI0.l16
  have own : ∀ m, 0 ≤ m → m < E 1 5 → 0 ≤ E 3 m ∧ E 3 m < E 1 4 := hS0.2.2.2.2.2.2.2.2
  intro n
  induction n with
  | zero =>
    intro v3 M r hI hK hC hW h37 hT hv
    rw [qX11_years_L31]
    have hT' : r = T := hT
    exact ⟨⟨by omega, by omega⟩, ⟨fun _ => hX M hI (by rw [← hT']; exact hC), fun c => by omega⟩⟩
  | succ n ih =>
    intro v3 M r hI hK hC hW h37 hT hv
    have S1 : ∀ M' : Mem, Ks (kYr (M0 155 16).toNat) M0 M' → STR E M' := fun M' k => hS0.fr (k _ _ (by omega)) (k _ _ (by omega)) (k _ _ (by omega)) (fun j => k 159 j (by omega))
    rw [qX11_years_L31]
    unfold yrF at hT
    refine ⟨⟨by omega, by omega⟩, ⟨fun c => by omega, fun c => ?_⟩⟩
    refine gX11_draw hI (by decide) ?_
    intro M7 i7 k7 g7 _
    have K7 : Ks (kYr (M0 155 16).toNat) M0 M7 := hK.tr (k7.mono (fun k j h => Or.inr h))
    have C7 : SC E M7 8 r := hC.fr (fun i j hi => k7 _ j (by omega))
    refine ⟨fun d => ?_, fun d => ?_⟩
    · rw [if_neg (by omega)] at hT
      refine ⟨fun d2 => ?_, fun d2 => ?_⟩
      · intro x10 e10 _
        have f10 : x10 = E 1 5 := by rw [e10]; exact C7.2.1
        refine ⟨fun d3 => ?_, fun d3 => ?_⟩
        · rw [if_pos (by omega)] at hT
          exact ih (v3 + 1) M7 r i7 K7 C7 hW (by omega) (by rw [g7]; exact hT) (by omega)
        · rw [if_neg (by omega), if_neg d2] at hT
          intro x12 e12 _
          have f12 : x12 = E 1 5 := by rw [e12]; exact C7.2.1
          rw [f12]
          refine gX11_draw i7 (by omega) ?_
          intro M13 i13 k13 g13 _
          refine gX11_draw i13 (by decide) ?_
          intro M14 i14 k14 g14 _
          have K14 : Ks (kYr (M0 155 16).toNat) M0 M14 := (K7.tr (k13.mono (fun k j h => Or.inr h))).tr (k14.mono (fun k j h => Or.inr h))
          have C14 : SC E M14 8 r := (C7.fr (M' := M13) (fun i j hi => k13 _ j (by omega))).fr (fun i j hi => k14 _ j (by omega))
          have d5 := drF_b (R := M13 155 15) (n := 5) (by decide)
          refine ⟨⟨by omega, by omega⟩, ?_⟩
          refine gX6_shove i14 (show isS 8 by decide) (S1 M14 K14) C14 hW ?_
          intro M16 i16 k16 c16 _
          rw [g7] at c16
          rw [g13, g7] at c16
          refine ih (v3 + 1) M16 _ i16 (K14.tr (k16.mono (fun k j h => Or.inl (by omega)))) c16 (hW.ps eb) (by rw [ps_37 eb]; omega) ?_ (by omega)
          rw [k16 155 15 (by omega), g14, g13, g7]
          exact hT
      · intro x10 e10 _
        have f10 : x10 = E 1 5 := by rw [e10]; exact C7.2.1
        refine ⟨fun d3 => ?_, fun d3 => ?_⟩
        · rw [if_pos (by omega)] at hT
          exact ih (v3 + 1) M7 r i7 K7 C7 hW (by omega) (by rw [g7]; exact hT) (by omega)
        · rw [if_neg (by omega), if_pos d2] at hT
          intro x12 e12 _
          have f12 : x12 = E 1 5 := by rw [e12]; exact C7.2.1
          rw [f12]
          refine gX11_draw i7 (by omega) ?_
          intro M13 i13 k13 g13 _
          have K13 : Ks (kYr (M0 155 16).toNat) M0 M13 := K7.tr (k13.mono (fun k j h => Or.inr h))
          have C13 : SC E M13 8 r := C7.fr (fun i j hi => k13 _ j (by omega))
          refine gX6_turn i13 (show isS 8 by decide) (S1 M13 K13) C13 hW ?_
          intro M16 i16 k16 c16 _
          rw [g7] at c16
          refine ih (v3 + 1) M16 _ i16 (K13.tr (k16.mono (fun k j h => Or.inl (by omega)))) c16 (hW.tn eb own) (by rw [tn_37 eb]; omega) ?_ (by omega)
          rw [k16 155 15 (by omega), g13, g7]
          exact hT
    · rw [if_pos (by omega)] at hT
      have g16 : M7 155 16 = M0 155 16 := K7 155 16 (by omega)
      have L7 : LAW E M7 (M0 155 16).toNat := hL0.fr (K7 _ _ (by omega)) (K7 _ _ (by omega)) (fun j => K7 _ j (by omega)) (fun j => K7 _ j (by omega))
      refine ⟨i7.l16, ?_⟩
      rw [g16]
      refine gX10_advance i7 (show isS 8 by decide) hI0.l16 (S1 M7 K7) L7 hw C7 hW (by omega) ?_
      intro M23 i23 k23 c23 w23 _
      refine ih (v3 + 1) M23 _ i23 (K7.tr (k23.mono (fun k j h => Or.inl h))) c23 w23 (by rw [st_37 eb]; omega) ?_ (by omega)
      rw [k23 155 15 (by omega), g7]
      exact hT
theorem gX11_years {p1 p2 : Int} {M E : Mem} {r : Int → Int} {Q : Int → Mem → Prop} (hI : IX M) (hS : STR E M) (hL : LAW E M (M 155 16).toNat) (hw : WFC (E 11) (E 1 24)) (hC : SC E M 1 r) (hW : WR E r) (h37 : r 37 ≤ 1999999000) (hQ : ∀ M' : Mem, IX M' → Q (yrA E r p1 p2) M') : qX11_years p1 p2 M Q := by
  have el : (M 155 16).toNat = 187 ∨ (M 155 16).toNat = 192 := hI.l16
  unfold yrA at hQ
  have NO : ¬ (1 ≤ p2 ∧ p2 ≤ 60) → Q (-1) M := fun n => by have := hQ M hI; rw [if_neg n] at this; exact this
  unfold qX11_years
  refine ⟨fun c => NO (by omega), fun c => ⟨fun c2 => ?_, fun c2 => NO (by omega)⟩⟩
  rw [if_pos (by omega)] at hQ
  refine gX6_copyFrom hI (show isS 8 by decide) (show isS 1 by decide) (by decide) ?_
  intro M3 i3 k3 s3 _ M4 h4
  have i4 : IX M4 := by rw [h4]; exact i3.up15 rfl
  have k4 : Ks (fun k j => (8 ≤ k ∧ k ≤ 14) ∨ (k = 155 ∧ j = 15)) M M4 := by rw [h4]; exact (k3.mono (by intro k j h; omega)).wr (by omega)
  have g16 : M4 155 16 = M 155 16 := k4 155 16 (by omega)
  have S4 : STR E M4 := hS.fr (k4 _ _ (by omega)) (k4 _ _ (by omega)) (k4 _ _ (by omega)) (fun j => k4 159 j (by omega))
  have L4 : LAW E M4 (M4 155 16).toNat := by rw [g16]; exact hL.fr (k4 _ _ (by omega)) (k4 _ _ (by omega)) (fun j => k4 _ j (by omega)) (fun j => k4 _ j (by omega))
  have C4 : SC E M4 8 r := (s3 E r hC).fr (fun i j hi => by rw [h4, up2_n (by omega)])
  refine ⟨p2.toNat + 1, gX11_years_L31 (E := E) (M0 := M4) (T := yrF E p2.toNat p1 r) i4 S4 L4 hw (by omega) ?_ p2.toNat 0 M4 r i4 Ks.rf C4 hW (by omega) (by rw [h4, up2_s]) (by omega)⟩
  intro M5 i5 c5 x25 _ _
  refine sX6_rightBits i5 (show isS 8 by decide) ?_
  intro x26 _
  refine sJ6_bitCount_0f7a4 (p0 := x26) i5 ?_
  intro x27 _ _
  refine tell2 i5 ?_
  intro M28 i28 k28 x29 e29 _
  have := hQ M28 i28
  rw [e29, k28 8 8 (by omega), show M5 8 8 = yrF E p2.toNat p1 r 12 from c5.2.2.2.2.1]
  exact this
theorem gX12_years_L30 {p1 p2 b : Int} {X120 : Mem → Prop} {Q : Int → Mem → Prop} {E : Mem} {T : Int → Int} (hE0 : EBx E) (h2 : p2 ≤ 60) (hb : b + 60 ≤ 2000000000) (hX : ∀ M' : Mem, IM (b + 60) M' → M' 6 = T → X120 M') : ∀ (n : Nat) (v3 : Int) (M : Mem) (r : Int → Int), IM (b + v3) M → CE E M → M 6 = r → yrF E n (M 1 49) r = T → (0 ≤ v3 ∧ v3 + n = p2) → qX12_years_L30 p1 p2 X120 Q (n + 1) v3 M := by
  have e5 := hE0.2.2
  intro n
  induction n with
  | zero =>
    intro v3 M r hI hE h6 hT hv
    rw [qX12_years_L30]
    have hT' : r = T := hT
    exact ⟨⟨by omega, by omega⟩, ⟨fun _ => hX M (hI.mono (by omega)) (by rw [h6, hT']), fun c => by omega⟩⟩
  | succ n ih =>
    intro v3 M r hI hE h6 hT hv
    have ce : ∀ (N N' : Mem), CE E N → FrJ (fun k j => k = 1 ∧ j = 49) N N' → CE E N' := fun N N' h f => h.fr f (by intro k j h; rcases h with h | h | h | h | h <;> omega)
    rw [qX12_years_L30]
    unfold yrF at hT
    refine ⟨⟨by omega, by omega⟩, ⟨fun c => by omega, fun c => ?_⟩⟩
    refine gX12_draws hI (by decide) ?_
    intro M8 i8 k8 g8 _
    have E8 := ce M M8 hE k8
    have q8 : M8 6 = r := by rw [← h6]; exact funext fun j => k8 6 j (by omega)
    refine ⟨fun d => ?_, fun d => ?_⟩
    · rw [if_neg (by omega)] at hT
      intro x10 e10 _
      have f10 : x10 = E 1 5 := by rw [e10]; exact E8 1 5 cE15
      refine ⟨fun d3 => ?_, fun d3 => ?_⟩
      · rw [if_pos (by omega)] at hT
        exact ih (v3 + 1) M8 r (i8.mono (by omega)) E8 q8 (by rw [g8]; exact hT) (by omega)
      · rw [if_neg (by omega)] at hT
        intro x12 e12 _
        have f12 : x12 = E 1 5 := by rw [e12]; exact E8 1 5 cE15
        rw [f12]
        refine gX12_draws i8 (by omega) ?_
        intro M13 i13 k13 g13 _
        have E13 := ce M8 M13 E8 k13
        have q13 : M13 6 = r := by rw [← q8]; exact funext fun j => k13 6 j (by omega)
        refine ⟨fun d2 => ?_, fun d2 => ?_⟩
        · rw [if_neg d2] at hT
          refine gX12_draws i13 (by decide) ?_
          intro M15 i15 k15 g15 _
          have E15 := ce M13 M15 E13 k15
          have q15 : M15 6 = r := by rw [← q13]; exact funext fun j => k15 6 j (by omega)
          have d5 := drF_b (R := M13 1 49) (n := 5) (by decide)
          refine ⟨⟨by omega, by omega⟩, ?_⟩
          refine gX12_pushesOne i15 E15 (Or.inr rfl) ?_
          intro M17 i17 f17 g17 _
          rw [q15, g13, g8] at g17
          refine ih (v3 + 1) M17 _ (i17.mono (by omega)) (E15.c6 f17) g17 ?_ (by omega)
          rw [f17 1 49 (by omega), g15, g13, g8]
          exact hT
        · rw [if_pos d2] at hT
          refine gX12_turnsOne i13 E13 (Or.inr rfl) ?_
          intro M17 i17 f17 g17 _
          rw [q13, g8] at g17
          refine ih (v3 + 1) M17 _ (i17.mono (by omega)) (E13.c6 f17) g17 ?_ (by omega)
          rw [f17 1 49 (by omega), g13, g8]
          exact hT
    · rw [if_pos (by omega)] at hT
      refine fmX12_stepGoes (gX12_stepGoes (E := E) i8 E8 (by omega) (Or.inr rfl) (Q := fun M' => IM (b + v3 + 1) M' ∧ CE E M' ∧ M' 6 = stF E (M8 6)) (fun M' i e g => ⟨i, e, g⟩)) ?_
      intro M19 f19 hh
      obtain ⟨i19, E19, g19⟩ := hh
      rw [q8] at g19
      refine ih (v3 + 1) M19 _ (i19.mono (by omega)) E19 g19 ?_ (by omega)
      rw [f19 1 49 (by omega), g8]
      exact hT
theorem gX12_years {p1 p2 b : Int} {M E : Mem} {Q : Int → Mem → Prop} (hI : IM b M) (hE : CE E M) (hE0 : EBx E) (hb : b + 100 ≤ 2000000000) (hQ : ∀ M' : Mem, IM (b + 100) M' → Q (yrA E (cr (M 5) (M 6)) p1 p2) M') : qX12_years p1 p2 M Q := by
  unfold yrA at hQ
  unfold qX12_years
  intro M1 h1
  obtain ⟨i1, E1, k5, k6, _⟩ := th0 hI hE h1
  refine sX12_in (p0 := p2) (p2 := 1) (p4 := 60) i1 ?_
  intro z hz _ _
  refine ⟨fun c => ?_, fun c => by have := hQ M1 (i1.mono (by omega)); rw [if_neg (by have := hz.2.2 c; omega)] at this; exact this⟩
  have cp := hz.2.1 (by rcases hz.1 with q | q <;> omega)
  rw [if_pos cp] at hQ
  intro M4 h4
  have i4 : IM b M4 := by rw [h4]; exact i1.up (by omega) (by simp [BM])
  have F4 : FrJ (fun k j => k = 1 ∧ j = 49) M1 M4 := by rw [h4]; exact FrJ.rf.up ⟨rfl, rfl⟩
  have E4 : CE E M4 := E1.fr F4 (by intro k j h; rcases h with h | h | h | h | h <;> omega)
  refine gX12_copiesC i4 ?_
  intro M5 i5 f5 g5
  rw [show M4 5 = M 5 from by rw [h4, up2_n (by decide)]; exact k5, show M4 6 = M 6 from by rw [h4, up2_n (by decide)]; exact k6] at g5
  refine ⟨p2.toNat + 1, gX12_years_L30 (b := b) (E := E) (T := yrF E p2.toNat p1 (cr (M 5) (M 6))) hE0 cp.2 (by omega) ?_ p2.toNat 0 M5 _ (i5.mono (by omega)) (E4.c6 f5) g5 (by rw [f5 1 49 (by omega), h4, up2_s]) (by omega)⟩
  intro M6 i6 q6
  refine sX12_endedBy (k1 := 6) i6 (Or.inr rfl) ?_
  intro x21 _
  refine sX12_endedBy (k1 := 6) i6 (Or.inr rfl) ?_
  intro x22 _ x23 _ _ M24 h24
  have i24 : IM (b + 60) M24 := by rw [h24]; exact i6.up (by omega) (bm_c1_1.mpr (by decide))
  have t24 : M24 1 1 = 0 := by rw [h24, up2_s]
  have q24 : M24 6 = M6 6 := by rw [h24, up2_n (by decide)]
  refine sJ6_bitCountM i24 ?_
  intro x25 _ _
  refine entC i24 (by omega) ?_
  intro M26 i26 k26 t26
  refine sX12_endedBy (k1 := 6) i26 (Or.inr rfl) ?_
  intro x27 _
  refine sJ6_bitCountM i26 ?_
  intro x28 _ _
  refine entC i26 (by omega) ?_
  intro M29 i29 k29 _ x30 e30 _
  have := hQ M29 (i29.mono (by omega))
  rw [e30, k29 6 12 (by omega), k26 6 12 (by omega), q24, q6]
  exact this
