section
/-! YEARS -/
def rnF (R : Int) : Int := w32 (w32 (R * 1103515245) + 12345)
def drF (R n : Int) : Int := rmI (usI (rnF R) 16) n
theorem drF_b {R n : Int} (hn : 1 ≤ n ∧ n ≤ 100) : 0 ≤ drF R n ∧ drF R n ≤ n - 1 := by
  have u := usI_16 (rnF R)
  exact rmI_b (a := usI (rnF R) 16) (b := n) ⟨by omega, by omega⟩ ⟨by omega, by omega⟩
theorem tn_37 {E : Mem} {r : Int → Int} (hE : EBx E) (m : Int) : tnR E r m 37 = r 37 := by
  have e := hE.2
  unfold tnR
  split
  · rename_i c
    have c0 : 0 ≤ m ∧ m < E 1 5 := c.1
    rw [up_j (by omega)]
  · rfl
theorem ps_37 {E : Mem} {r : Int → Int} (hE : EBx E) (m v : Int) : psR E r m v 37 = r 37 := by
  have e := hE.2
  unfold psR
  split
  · rename_i c
    have c0 : 0 ≤ m ∧ m < E 1 5 := c.1.1
    rw [up_j (by omega)]
  · rfl
theorem st_37 {E : Mem} {r : Int → Int} (hE : EBx E) : stF E r 37 = r 37 + 1 := by
  have h := itF_37 (E := E) (r := r) hE 1
  exact h
noncomputable def yrF (E : Mem) : Nat → Int → (Int → Int) → Int → Int
  | 0, _, r => r
  | n + 1, R, r => if drF R 4 < 2 then yrF E n (rnF R) (stF E r) else if E 1 5 ≤ 0 then yrF E n (rnF R) r else if drF R 4 = 2 then yrF E n (rnF (rnF R)) (tnR E r (drF (rnF R) (E 1 5))) else yrF E n (rnF (rnF (rnF R))) (psR E r (drF (rnF R) (E 1 5)) (drF (rnF (rnF R)) 5 - 2))
noncomputable def yrA (E : Mem) (r : Int → Int) (s n : Int) : Int := if 1 ≤ n ∧ n ≤ 60 then yrF E n.toNat s r 12 else -1
theorem gX11_draw {p1 : Int} {M : Mem} {Q : Int → Mem → Prop} (hI : IX M) (hp : 1 ≤ p1 ∧ p1 ≤ 100) (hQ : ∀ M' : Mem, IX M' → Ks (fun k j => k = 155 ∧ j = 15) M M' → M' 155 15 = rnF (M 155 15) → Q (drF (M 155 15) p1) M') : qX11_draw p1 M Q := by
  unfold qX11_draw
  intro x1 e1 _ x2 e2 _ x3 e3 _ M4 h4
  have f3 : x3 = rnF (M 155 15) := by rw [e3, e2, e1]; rfl
  have i4 : IX M4 := by rw [h4]; exact hI.up15 rfl
  have k4 : Ks (fun k j => k = 155 ∧ j = 15) M M4 := by rw [h4]; exact Ks.rf.wr ⟨rfl, rfl⟩
  have g4 : M4 155 15 = rnF (M 155 15) := by rw [h4, up2_s]; exact f3
  refine ⟨fun c => ?_, fun c => by omega⟩
  intro x6 e6 _ x7 e7 _
  refine ⟨by omega, ?_⟩
  intro x9 e9 _
  rw [e9, e7, e6, g4]
  exact hQ M4 i4 k4 g4
theorem gX12_draws {p1 b : Int} {M : Mem} {Q : Int → Mem → Prop} (hI : IM b M) (hp : 1 ≤ p1 ∧ p1 ≤ 100) (hQ : ∀ M' : Mem, IM b M' → FrJ (fun k j => k = 1 ∧ j = 49) M M' → M' 1 49 = rnF (M 1 49) → Q (drF (M 1 49) p1) M') : qX12_draws p1 M Q := by
  unfold qX12_draws
  intro x1 e1 _ x2 e2 _ x3 e3 _ M4 h4
  have f3 : x3 = rnF (M 1 49) := by rw [e3, e2, e1]; rfl
  have i4 : IM b M4 := by rw [h4]; exact hI.up (by omega) (by simp [BM])
  have k4 : FrJ (fun k j => k = 1 ∧ j = 49) M M4 := by rw [h4]; exact FrJ.rf.up ⟨rfl, rfl⟩
  have g4 : M4 1 49 = rnF (M 1 49) := by rw [h4, up2_s]; exact f3
  intro x5 e5 _ x6 e6 _
  refine ⟨by omega, ?_⟩
  intro x8 e8 _
  rw [e8, e6, e5, g4]
  exact hQ M4 i4 k4 g4
abbrev kYr (kl k : Nat) (j : Int) : Prop := kAd 8 kl k j ∨ (k = 155 ∧ j = 15)
theorem gX11_years_L31 {p1 p2 : Int} {X155 : Mem → Prop} {Q : Int → Mem → Prop} {M0 E : Mem} {T : Int → Int} (hI0 : IX M0) (hS0 : STR E M0) (hL0 : LAW E M0 (M0 155 16).toNat) (hw : WFC (E 11) (E 1 24)) (h2 : p2 ≤ 60) (hX : ∀ M' : Mem, IX M' → SC E M' 8 T → X155 M') : ∀ (n : Nat) (v3 : Int) (M : Mem) (r : Int → Int), IX M → Ks (kYr (M0 155 16).toNat) M0 M → SC E M 8 r → WR E r → r 37 ≤ 1999999000 + v3 → yrF E n (M 155 15) r = T → (0 ≤ v3 ∧ v3 + n = p2) → qX11_years_L31 p1 p2 X155 Q (n + 1) v3 M := by
  have eb := hS0.eb
  have e5 := eb.2.2
  have el : (M0 155 16).toNat = 187 ∨ (M0 155 16).toNat = 192 := hI0.l16
  have own : ∀ m, 0 ≤ m → m < E 1 5 → 0 ≤ E 3 m ∧ E 3 m < E 1 4 := hS0.2.2.2.2.2.2.2.2
  intro n
  induction n with
  | zero =>
    intro v3 M r hI hK hC hW h37 hT hv
    rw [qX11_years_L31]
    have hT' : r = T := hT
    exact ⟨⟨by omega, by omega⟩, ⟨fun _ => hX M hI (by rw [← hT']; exact hC), fun c => by omega⟩⟩
  | succ n ih =>
    intro v3 M r hI hK hC hW h37 hT hv
    have S1 : ∀ M' : Mem, Ks (kYr (M0 155 16).toNat) M0 M' → STR E M' := fun M' k => hS0.fr (k _ _ (by omega)) (k _ _ (by omega)) (k _ _ (by omega)) (fun j => k 159 j (by omega))
    rw [qX11_years_L31]
    unfold yrF at hT
    refine ⟨⟨by omega, by omega⟩, ⟨fun c => by omega, fun c => ?_⟩⟩
    refine gX11_draw hI (by decide) ?_
    intro M7 i7 k7 g7 _
    have K7 : Ks (kYr (M0 155 16).toNat) M0 M7 := hK.tr (k7.mono (fun k j h => Or.inr h))
    have C7 : SC E M7 8 r := hC.fr (fun i j hi => k7 _ j (by omega))
    refine ⟨fun d => ?_, fun d => ?_⟩
    · rw [if_neg (by omega)] at hT
      refine ⟨fun d2 => ?_, fun d2 => ?_⟩
      · intro x10 e10 _
        have f10 : x10 = E 1 5 := by rw [e10]; exact C7.2.1
        refine ⟨fun d3 => ?_, fun d3 => ?_⟩
        · rw [if_pos (by omega)] at hT
          exact ih (v3 + 1) M7 r i7 K7 C7 hW (by omega) (by rw [g7]; exact hT) (by omega)
        · rw [if_neg (by omega), if_neg d2] at hT
          intro x12 e12 _
          have f12 : x12 = E 1 5 := by rw [e12]; exact C7.2.1
          rw [f12]
          refine gX11_draw i7 (by omega) ?_
          intro M13 i13 k13 g13 _
          refine gX11_draw i13 (by decide) ?_
          intro M14 i14 k14 g14 _
          have K14 : Ks (kYr (M0 155 16).toNat) M0 M14 := (K7.tr (k13.mono (fun k j h => Or.inr h))).tr (k14.mono (fun k j h => Or.inr h))
          have C14 : SC E M14 8 r := (C7.fr (M' := M13) (fun i j hi => k13 _ j (by omega))).fr (fun i j hi => k14 _ j (by omega))
          have d5 := drF_b (R := M13 155 15) (n := 5) (by decide)
          refine ⟨⟨by omega, by omega⟩, ?_⟩
          refine gX6_shove i14 (show isS 8 by decide) (S1 M14 K14) C14 hW ?_
          intro M16 i16 k16 c16 _
          rw [g7] at c16
          rw [g13, g7] at c16
          refine ih (v3 + 1) M16 _ i16 (K14.tr (k16.mono (fun k j h => Or.inl (by omega)))) c16 (hW.ps eb) (by rw [ps_37 eb]; omega) ?_ (by omega)
          rw [k16 155 15 (by omega), g14, g13, g7]
          exact hT
      · intro x10 e10 _
        have f10 : x10 = E 1 5 := by rw [e10]; exact C7.2.1
        refine ⟨fun d3 => ?_, fun d3 => ?_⟩
        · rw [if_pos (by omega)] at hT
          exact ih (v3 + 1) M7 r i7 K7 C7 hW (by omega) (by rw [g7]; exact hT) (by omega)
        · rw [if_neg (by omega), if_pos d2] at hT
          intro x12 e12 _
          have f12 : x12 = E 1 5 := by rw [e12]; exact C7.2.1
          rw [f12]
          refine gX11_draw i7 (by omega) ?_
          intro M13 i13 k13 g13 _
          have K13 : Ks (kYr (M0 155 16).toNat) M0 M13 := K7.tr (k13.mono (fun k j h => Or.inr h))
          have C13 : SC E M13 8 r := C7.fr (fun i j hi => k13 _ j (by omega))
          refine gX6_turn i13 (show isS 8 by decide) (S1 M13 K13) C13 hW ?_
          intro M16 i16 k16 c16 _
          rw [g7] at c16
          refine ih (v3 + 1) M16 _ i16 (K13.tr (k16.mono (fun k j h => Or.inl (by omega)))) c16 (hW.tn eb own) (by rw [tn_37 eb]; omega) ?_ (by omega)
          rw [k16 155 15 (by omega), g13, g7]
          exact hT
    · rw [if_pos (by omega)] at hT
      have g16 : M7 155 16 = M0 155 16 := K7 155 16 (by omega)
      have L7 : LAW E M7 (M0 155 16).toNat := hL0.fr (K7 _ _ (by omega)) (K7 _ _ (by omega)) (fun j => K7 _ j (by omega)) (fun j => K7 _ j (by omega))
      refine ⟨i7.l16, ?_⟩
      rw [g16]
      refine gX10_advance i7 (show isS 8 by decide) hI0.l16 (S1 M7 K7) L7 hw C7 hW (by omega) ?_
      intro M23 i23 k23 c23 w23 _
      refine ih (v3 + 1) M23 _ i23 (K7.tr (k23.mono (fun k j h => Or.inl h))) c23 w23 (by rw [st_37 eb]; omega) ?_ (by omega)
      rw [k23 155 15 (by omega), g7]
      exact hT
theorem gX11_years {p1 p2 : Int} {M E : Mem} {r : Int → Int} {Q : Int → Mem → Prop} (hI : IX M) (hS : STR E M) (hL : LAW E M (M 155 16).toNat) (hw : WFC (E 11) (E 1 24)) (hC : SC E M 1 r) (hW : WR E r) (h37 : r 37 ≤ 1999999000) (hQ : ∀ M' : Mem, IX M' → Q (yrA E r p1 p2) M') : qX11_years p1 p2 M Q := by
  have el : (M 155 16).toNat = 187 ∨ (M 155 16).toNat = 192 := hI.l16
  unfold yrA at hQ
  have NO : ¬ (1 ≤ p2 ∧ p2 ≤ 60) → Q (-1) M := fun n => by have := hQ M hI; rw [if_neg n] at this; exact this
  unfold qX11_years
  refine ⟨fun c => NO (by omega), fun c => ⟨fun c2 => ?_, fun c2 => NO (by omega)⟩⟩
  rw [if_pos (by omega)] at hQ
  refine gX6_copyFrom hI (show isS 8 by decide) (show isS 1 by decide) (by decide) ?_
  intro M3 i3 k3 s3 _ M4 h4
  have i4 : IX M4 := by rw [h4]; exact i3.up15 rfl
  have k4 : Ks (fun k j => (8 ≤ k ∧ k ≤ 14) ∨ (k = 155 ∧ j = 15)) M M4 := by rw [h4]; exact (k3.mono (by intro k j h; omega)).wr (by omega)
  have g16 : M4 155 16 = M 155 16 := k4 155 16 (by omega)
  have S4 : STR E M4 := hS.fr (k4 _ _ (by omega)) (k4 _ _ (by omega)) (k4 _ _ (by omega)) (fun j => k4 159 j (by omega))
  have L4 : LAW E M4 (M4 155 16).toNat := by rw [g16]; exact hL.fr (k4 _ _ (by omega)) (k4 _ _ (by omega)) (fun j => k4 _ j (by omega)) (fun j => k4 _ j (by omega))
  have C4 : SC E M4 8 r := (s3 E r hC).fr (fun i j hi => by rw [h4, up2_n (by omega)])
  refine ⟨p2.toNat + 1, gX11_years_L31 (E := E) (M0 := M4) (T := yrF E p2.toNat p1 r) i4 S4 L4 hw (by omega) ?_ p2.toNat 0 M4 r i4 Ks.rf C4 hW (by omega) (by rw [h4, up2_s]) (by omega)⟩
  intro M5 i5 c5 x25 _ _
  refine sX6_rightBits i5 (show isS 8 by decide) ?_
  intro x26 _
  refine sJ6_bitCount_0f7a4 (p0 := x26) i5 ?_
  intro x27 _ _
  refine tell2 i5 ?_
  intro M28 i28 k28 x29 e29 _
  have := hQ M28 i28
  rw [e29, k28 8 8 (by omega), show M5 8 8 = yrF E p2.toNat p1 r 12 from c5.2.2.2.2.1]
  exact this
theorem gX12_years_L30 {p1 p2 b : Int} {X120 : Mem → Prop} {Q : Int → Mem → Prop} {E : Mem} {T : Int → Int} (hE0 : EBx E) (h2 : p2 ≤ 60) (hb : b + 60 ≤ 2000000000) (hX : ∀ M' : Mem, IM (b + 60) M' → M' 6 = T → X120 M') : ∀ (n : Nat) (v3 : Int) (M : Mem) (r : Int → Int), IM (b + v3) M → CE E M → M 6 = r → yrF E n (M 1 49) r = T → (0 ≤ v3 ∧ v3 + n = p2) → qX12_years_L30 p1 p2 X120 Q (n + 1) v3 M := by
  have e5 := hE0.2.2
  intro n
  induction n with
  | zero =>
    intro v3 M r hI hE h6 hT hv
    rw [qX12_years_L30]
    have hT' : r = T := hT
    exact ⟨⟨by omega, by omega⟩, ⟨fun _ => hX M (hI.mono (by omega)) (by rw [h6, hT']), fun c => by omega⟩⟩
  | succ n ih =>
    intro v3 M r hI hE h6 hT hv
    have ce : ∀ (N N' : Mem), CE E N → FrJ (fun k j => k = 1 ∧ j = 49) N N' → CE E N' := fun N N' h f => h.fr f (by intro k j h; rcases h with h | h | h | h | h <;> omega)
    rw [qX12_years_L30]
    unfold yrF at hT
    refine ⟨⟨by omega, by omega⟩, ⟨fun c => by omega, fun c => ?_⟩⟩
    refine gX12_draws hI (by decide) ?_
    intro M8 i8 k8 g8 _
    have E8 := ce M M8 hE k8
    have q8 : M8 6 = r := by rw [← h6]; exact funext fun j => k8 6 j (by omega)
    refine ⟨fun d => ?_, fun d => ?_⟩
    · rw [if_neg (by omega)] at hT
      intro x10 e10 _
      have f10 : x10 = E 1 5 := by rw [e10]; exact E8 1 5 cE15
      refine ⟨fun d3 => ?_, fun d3 => ?_⟩
      · rw [if_pos (by omega)] at hT
        exact ih (v3 + 1) M8 r (i8.mono (by omega)) E8 q8 (by rw [g8]; exact hT) (by omega)
      · rw [if_neg (by omega)] at hT
        intro x12 e12 _
        have f12 : x12 = E 1 5 := by rw [e12]; exact E8 1 5 cE15
        rw [f12]
        refine gX12_draws i8 (by omega) ?_
        intro M13 i13 k13 g13 _
        have E13 := ce M8 M13 E8 k13
        have q13 : M13 6 = r := by rw [← q8]; exact funext fun j => k13 6 j (by omega)
        refine ⟨fun d2 => ?_, fun d2 => ?_⟩
        · rw [if_neg d2] at hT
          refine gX12_draws i13 (by decide) ?_
          intro M15 i15 k15 g15 _
          have E15 := ce M13 M15 E13 k15
          have q15 : M15 6 = r := by rw [← q13]; exact funext fun j => k15 6 j (by omega)
          have d5 := drF_b (R := M13 1 49) (n := 5) (by decide)
          refine ⟨⟨by omega, by omega⟩, ?_⟩
          refine gX12_pushesOne i15 E15 (Or.inr rfl) ?_
          intro M17 i17 f17 g17 _
          rw [q15, g13, g8] at g17
          refine ih (v3 + 1) M17 _ (i17.mono (by omega)) (E15.c6 f17) g17 ?_ (by omega)
          rw [f17 1 49 (by omega), g15, g13, g8]
          exact hT
        · rw [if_pos d2] at hT
          refine gX12_turnsOne i13 E13 (Or.inr rfl) ?_
          intro M17 i17 f17 g17 _
          rw [q13, g8] at g17
          refine ih (v3 + 1) M17 _ (i17.mono (by omega)) (E13.c6 f17) g17 ?_ (by omega)
          rw [f17 1 49 (by omega), g13, g8]
          exact hT
    · rw [if_pos (by omega)] at hT
      refine fmX12_stepGoes (gX12_stepGoes (E := E) i8 E8 (by omega) (Or.inr rfl) (Q := fun M' => IM (b + v3 + 1) M' ∧ CE E M' ∧ M' 6 = stF E (M8 6)) (fun M' i e g => ⟨i, e, g⟩)) ?_
      intro M19 f19 hh
      obtain ⟨i19, E19, g19⟩ := hh
      rw [q8] at g19
      refine ih (v3 + 1) M19 _ (i19.mono (by omega)) E19 g19 ?_ (by omega)
      rw [f19 1 49 (by omega), g8]
      exact hT
theorem gX12_years {p1 p2 b : Int} {M E : Mem} {Q : Int → Mem → Prop} (hI : IM b M) (hE : CE E M) (hE0 : EBx E) (hb : b + 100 ≤ 2000000000) (hQ : ∀ M' : Mem, IM (b + 100) M' → Q (yrA E (cr (M 5) (M 6)) p1 p2) M') : qX12_years p1 p2 M Q := by
  unfold yrA at hQ
  unfold qX12_years
  intro M1 h1
  obtain ⟨i1, E1, k5, k6, _⟩ := th0 hI hE h1
  refine sX12_in (p0 := p2) (p2 := 1) (p4 := 60) i1 ?_
  intro z hz _ _
  refine ⟨fun c => ?_, fun c => by have := hQ M1 (i1.mono (by omega)); rw [if_neg (by have := hz.2.2 c; omega)] at this; exact this⟩
  have cp := hz.2.1 (by rcases hz.1 with q | q <;> omega)
  rw [if_pos cp] at hQ
  intro M4 h4
  have i4 : IM b M4 := by rw [h4]; exact i1.up (by omega) (by simp [BM])
  have F4 : FrJ (fun k j => k = 1 ∧ j = 49) M1 M4 := by rw [h4]; exact FrJ.rf.up ⟨rfl, rfl⟩
  have E4 : CE E M4 := E1.fr F4 (by intro k j h; rcases h with h | h | h | h | h <;> omega)
  refine gX12_copiesC i4 ?_
  intro M5 i5 f5 g5
  rw [show M4 5 = M 5 from by rw [h4, up2_n (by decide)]; exact k5, show M4 6 = M 6 from by rw [h4, up2_n (by decide)]; exact k6] at g5
  refine ⟨p2.toNat + 1, gX12_years_L30 (b := b) (E := E) (T := yrF E p2.toNat p1 (cr (M 5) (M 6))) hE0 cp.2 (by omega) ?_ p2.toNat 0 M5 _ (i5.mono (by omega)) (E4.c6 f5) g5 (by rw [f5 1 49 (by omega), h4, up2_s]) (by omega)⟩
  intro M6 i6 q6
  refine sX12_endedBy (k1 := 6) i6 (Or.inr rfl) ?_
  intro x21 _
  refine sX12_endedBy (k1 := 6) i6 (Or.inr rfl) ?_
  intro x22 _ x23 _ _ M24 h24
  have i24 : IM (b + 60) M24 := by rw [h24]; exact i6.up (by omega) (bm_c1_1.mpr (by decide))
  have t24 : M24 1 1 = 0 := by rw [h24, up2_s]
  have q24 : M24 6 = M6 6 := by rw [h24, up2_n (by decide)]
  refine sJ6_bitCountM i24 ?_
  intro x25 _ _
  refine entC i24 (by omega) ?_
  intro M26 i26 k26 t26
  refine sX12_endedBy (k1 := 6) i26 (Or.inr rfl) ?_
  intro x27 _
  refine sJ6_bitCountM i26 ?_
  intro x28 _ _
  refine entC i26 (by omega) ?_
  intro M29 i29 k29 _ x30 e30 _
  have := hQ M29 (i29.mono (by omega))
  rw [e30, k29 6 12 (by omega), k26 6 12 (by omega), q24, q6]
  exact this
end
section
/-! QUESTIONS, alike on both sides -/
theorem Cl_line (k : Nat) (MX MM : Mem)  (hk : k < 512) (hMX : MR MX) (hMM : MR MM) (hR : Rel k MX MM) : qX11_line  MX (fun z MX1 => qX12_line  MM (fun b MM1 => z = b ∧ Rel (k + 1) MX1 MM1)) := by
  have S := hR.S
  have r37 := hR.r37 hk
  have h37 : (cr (MM 5) (MM 6)) 37 ≤ 1999999000 := by rw [cr_i (by decide) (by decide)]; omega
  have C := S.2.2.1.cr hR.E0 (g := MM 6)
  have W := S.2.2.2.1.cr hR.E0 (g := MM 6)
  refine fmX11_line (gX11_line (E := cut MM) (r := (MM 5))  hR.1 S.1 S.2.2.1 S.2.2.2.1 (Q := fun z M' => z = liA (cut MM) (MM 5) ∧ IX M') (fun M' i => ⟨rfl, i⟩)) ?_
  intro z MX1 fX hX
  refine fmX12_line (gX12_line (E := cut MM)  hR.2.1 (cut_CE MM) hR.E0 (Q := fun z M' => z = liA (cut MM) (MM 5) ∧ IM (60000 * (k : Int) + 0) M') (fun M' i => ⟨rfl, i.mono (by omega)⟩)) ?_
  intro b MM1 fM hM
  exact ⟨by rw [hX.1, hM.1], hR.q hX.2 hM.2 (by omega) (fX 156 1 (by first | omega | exact fun h => h)) (fM 1 14 (by first | omega | exact fun h => h)) (fX 182 2 (by first | omega | exact fun h => h)) (fM 1 45 (by first | omega | exact fun h => h)) (fun j => fX 157 j (by first | omega | exact fun h => h)) (fun j => fM 7 j (by first | omega | exact fun h => h)) (fun j => ⟨fX 183 j (by first | omega | exact fun h => h), fX 184 j (by first | omega | exact fun h => h), fM 26 j (by first | omega | exact fun h => h), fM 27 j (by first | omega | exact fun h => h)⟩) (fun k j q => fX k j (by first | omega | exact fun h => h)) (fun k j q => fM k j (by first | omega | exact fun h => h))⟩
theorem Cl_ahead (k : Nat) (MX MM : Mem) (y1 : Int) (hy1 : iR y1) (hk : k < 512) (hMX : MR MX) (hMM : MR MM) (hR : Rel k MX MM) : qX11_ahead y1 MX (fun z MX1 => qX12_ahead y1 MM (fun b MM1 => z = b ∧ Rel (k + 1) MX1 MM1)) := by
  have S := hR.S
  have r37 := hR.r37 hk
  have h37 : (cr (MM 5) (MM 6)) 37 ≤ 1999999000 := by rw [cr_i (by decide) (by decide)]; omega
  have C := S.2.2.1.cr hR.E0 (g := MM 6)
  have W := S.2.2.2.1.cr hR.E0 (g := MM 6)
  refine fmX11_ahead (gX11_ahead (E := cut MM) (r := (cr (MM 5) (MM 6))) (p1 := y1) hR.1 S.1 S.2.1 hR.W C W h37 (Q := fun z M' => z = ahA (cut MM) (cr (MM 5) (MM 6)) y1 ∧ IX M') (fun M' i => ⟨rfl, i⟩)) ?_
  intro z MX1 fX hX
  refine fmX12_ahead (gX12_ahead (E := cut MM) (p1 := y1) hR.2.1 (cut_CE MM) hR.E0 (by omega) (Q := fun z M' => z = ahA (cut MM) (cr (MM 5) (MM 6)) y1 ∧ IM (60000 * (k : Int) + 200) M') (fun M' i => ⟨rfl, i.mono (by omega)⟩)) ?_
  intro b MM1 fM hM
  exact ⟨by rw [hX.1, hM.1], hR.q hX.2 hM.2 (by omega) (fX 156 1 (by first | omega | exact fun h => h)) (fM 1 14 (by first | omega | exact fun h => h)) (fX 182 2 (by first | omega | exact fun h => h)) (fM 1 45 (by first | omega | exact fun h => h)) (fun j => fX 157 j (by first | omega | exact fun h => h)) (fun j => fM 7 j (by first | omega | exact fun h => h)) (fun j => ⟨fX 183 j (by first | omega | exact fun h => h), fX 184 j (by first | omega | exact fun h => h), fM 26 j (by first | omega | exact fun h => h), fM 27 j (by first | omega | exact fun h => h)⟩) (fun k j q => fX k j (by first | omega | exact fun h => h)) (fun k j q => fM k j (by first | omega | exact fun h => h))⟩
theorem Cl_arrives (k : Nat) (MX MM : Mem) (y1 : Int) (hy1 : iR y1) (hk : k < 512) (hMX : MR MX) (hMM : MR MM) (hR : Rel k MX MM) : qX11_arrives y1 MX (fun z MX1 => qX12_arrives y1 MM (fun b MM1 => z = b ∧ Rel (k + 1) MX1 MM1)) := by
  have S := hR.S
  have r37 := hR.r37 hk
  have h37 : (cr (MM 5) (MM 6)) 37 ≤ 1999999000 := by rw [cr_i (by decide) (by decide)]; omega
  have C := S.2.2.1.cr hR.E0 (g := MM 6)
  have W := S.2.2.2.1.cr hR.E0 (g := MM 6)
  refine fmX11_arrives (gX11_arrives (E := cut MM) (r := (cr (MM 5) (MM 6))) (p1 := y1) hR.1 S.1 S.2.1 hR.W C W h37 (Q := fun z M' => z = avA (cut MM) (cr (MM 5) (MM 6)) y1 ∧ IX M') (fun M' i => ⟨rfl, i⟩)) ?_
  intro z MX1 fX hX
  refine fmX12_arrives (gX12_arrives (E := cut MM) (p1 := y1) hR.2.1 (cut_CE MM) hR.E0 (by omega) (Q := fun z M' => z = avA (cut MM) (cr (MM 5) (MM 6)) y1 ∧ IM (60000 * (k : Int) + 201) M') (fun M' i => ⟨rfl, i.mono (by omega)⟩)) ?_
  intro b MM1 fM hM
  exact ⟨by rw [hX.1, hM.1], hR.q hX.2 hM.2 (by omega) (fX 156 1 (by first | omega | exact fun h => h)) (fM 1 14 (by first | omega | exact fun h => h)) (fX 182 2 (by first | omega | exact fun h => h)) (fM 1 45 (by first | omega | exact fun h => h)) (fun j => fX 157 j (by first | omega | exact fun h => h)) (fun j => fM 7 j (by first | omega | exact fun h => h)) (fun j => ⟨fX 183 j (by first | omega | exact fun h => h), fX 184 j (by first | omega | exact fun h => h), fM 26 j (by first | omega | exact fun h => h), fM 27 j (by first | omega | exact fun h => h)⟩) (fun k j q => fX k j (by first | omega | exact fun h => h)) (fun k j q => fM k j (by first | omega | exact fun h => h))⟩
theorem Cl_passes (k : Nat) (MX MM : Mem) (y1 y2 : Int) (hy1 : iR y1) (hy2 : iR y2) (hk : k < 512) (hMX : MR MX) (hMM : MR MM) (hR : Rel k MX MM) : qX11_passes y1 y2 MX (fun z MX1 => qX12_passes y1 y2 MM (fun b MM1 => z = b ∧ Rel (k + 1) MX1 MM1)) := by
  have S := hR.S
  have r37 := hR.r37 hk
  have h37 : (cr (MM 5) (MM 6)) 37 ≤ 1999999000 := by rw [cr_i (by decide) (by decide)]; omega
  have C := S.2.2.1.cr hR.E0 (g := MM 6)
  have W := S.2.2.2.1.cr hR.E0 (g := MM 6)
  refine fmX11_passes (gX11_passes (E := cut MM) (r := (cr (MM 5) (MM 6))) (p1 := y1) (p2 := y2) hR.1 S.1 S.2.1 hR.W C W h37 (Q := fun z M' => z = pvA (cut MM) (cr (MM 5) (MM 6)) y1 y2 ∧ IX M') (fun M' i => ⟨rfl, i⟩)) ?_
  intro z MX1 fX hX
  refine fmX12_passes (gX12_passes (E := cut MM) (p1 := y1) (p2 := y2) hR.2.1 (cut_CE MM) hR.E0 (by omega) (Q := fun z M' => z = pvA (cut MM) (cr (MM 5) (MM 6)) y1 y2 ∧ IM (60000 * (k : Int) + 100) M') (fun M' i => ⟨rfl, i.mono (by omega)⟩)) ?_
  intro b MM1 fM hM
  exact ⟨by rw [hX.1, hM.1], hR.q hX.2 hM.2 (by omega) (fX 156 1 (by first | omega | exact fun h => h)) (fM 1 14 (by first | omega | exact fun h => h)) (fX 182 2 (by first | omega | exact fun h => h)) (fM 1 45 (by first | omega | exact fun h => h)) (fun j => fX 157 j (by first | omega | exact fun h => h)) (fun j => fM 7 j (by first | omega | exact fun h => h)) (fun j => ⟨fX 183 j (by first | omega | exact fun h => h), fX 184 j (by first | omega | exact fun h => h), fM 26 j (by first | omega | exact fun h => h), fM 27 j (by first | omega | exact fun h => h)⟩) (fun k j q => fX k j (by first | omega | exact fun h => h)) (fun k j q => fM k j (by first | omega | exact fun h => h))⟩
theorem Cl_ends (k : Nat) (MX MM : Mem) (y1 : Int) (hy1 : iR y1) (hk : k < 512) (hMX : MR MX) (hMM : MR MM) (hR : Rel k MX MM) : qX11_ends y1 MX (fun z MX1 => qX12_ends y1 MM (fun b MM1 => z = b ∧ Rel (k + 1) MX1 MM1)) := by
  have S := hR.S
  have r37 := hR.r37 hk
  have h37 : (cr (MM 5) (MM 6)) 37 ≤ 1999999000 := by rw [cr_i (by decide) (by decide)]; omega
  have C := S.2.2.1.cr hR.E0 (g := MM 6)
  have W := S.2.2.2.1.cr hR.E0 (g := MM 6)
  refine fmX11_ends (gX11_ends (E := cut MM) (r := (cr (MM 5) (MM 6))) (p1 := y1) hR.1 S.1 S.2.1 hR.W C W h37 (Q := fun z M' => z = edA (cut MM) (cr (MM 5) (MM 6)) y1 ∧ IX M') (fun M' i => ⟨rfl, i⟩)) ?_
  intro z MX1 fX hX
  refine fmX12_ends (gX12_ends (E := cut MM) (p1 := y1) hR.2.1 (cut_CE MM) hR.E0 (by omega) (Q := fun z M' => z = edA (cut MM) (cr (MM 5) (MM 6)) y1 ∧ IM (60000 * (k : Int) + 401) M') (fun M' i => ⟨rfl, i.mono (by omega)⟩)) ?_
  intro b MM1 fM hM
  exact ⟨by rw [hX.1, hM.1], hR.q hX.2 hM.2 (by omega) (fX 156 1 (by first | omega | exact fun h => h)) (fM 1 14 (by first | omega | exact fun h => h)) (fX 182 2 (by first | omega | exact fun h => h)) (fM 1 45 (by first | omega | exact fun h => h)) (fun j => fX 157 j (by first | omega | exact fun h => h)) (fun j => fM 7 j (by first | omega | exact fun h => h)) (fun j => ⟨fX 183 j (by first | omega | exact fun h => h), fX 184 j (by first | omega | exact fun h => h), fM 26 j (by first | omega | exact fun h => h), fM 27 j (by first | omega | exact fun h => h)⟩) (fun k j q => fX k j (by first | omega | exact fun h => h)) (fun k j q => fM k j (by first | omega | exact fun h => h))⟩
theorem Cl_years (k : Nat) (MX MM : Mem) (y1 y2 : Int) (hy1 : iR y1) (hy2 : iR y2) (hk : k < 512) (hMX : MR MX) (hMM : MR MM) (hR : Rel k MX MM) : qX11_years y1 y2 MX (fun z MX1 => qX12_years y1 y2 MM (fun b MM1 => z = b ∧ Rel (k + 1) MX1 MM1)) := by
  have S := hR.S
  have r37 := hR.r37 hk
  have h37 : (cr (MM 5) (MM 6)) 37 ≤ 1999999000 := by rw [cr_i (by decide) (by decide)]; omega
  have C := S.2.2.1.cr hR.E0 (g := MM 6)
  have W := S.2.2.2.1.cr hR.E0 (g := MM 6)
  refine fmX11_years (gX11_years (E := cut MM) (r := (cr (MM 5) (MM 6))) (p1 := y1) (p2 := y2) hR.1 S.1 S.2.1 hR.W C W h37 (Q := fun z M' => z = yrA (cut MM) (cr (MM 5) (MM 6)) y1 y2 ∧ IX M') (fun M' i => ⟨rfl, i⟩)) ?_
  intro z MX1 fX hX
  refine fmX12_years (gX12_years (E := cut MM) (p1 := y1) (p2 := y2) hR.2.1 (cut_CE MM) hR.E0 (by omega) (Q := fun z M' => z = yrA (cut MM) (cr (MM 5) (MM 6)) y1 y2 ∧ IM (60000 * (k : Int) + 100) M') (fun M' i => ⟨rfl, i.mono (by omega)⟩)) ?_
  intro b MM1 fM hM
  exact ⟨by rw [hX.1, hM.1], hR.q hX.2 hM.2 (by omega) (fX 156 1 (by first | omega | exact fun h => h)) (fM 1 14 (by first | omega | exact fun h => h)) (fX 182 2 (by first | omega | exact fun h => h)) (fM 1 45 (by first | omega | exact fun h => h)) (fun j => fX 157 j (by first | omega | exact fun h => h)) (fun j => fM 7 j (by first | omega | exact fun h => h)) (fun j => ⟨fX 183 j (by first | omega | exact fun h => h), fX 184 j (by first | omega | exact fun h => h), fM 26 j (by first | omega | exact fun h => h), fM 27 j (by first | omega | exact fun h => h)⟩) (fun k j q => fX k j (by first | omega | exact fun h => h)) (fun k j q => fM k j (by first | omega | exact fun h => h))⟩
theorem Cl_hearse (k : Nat) (MX MM : Mem) (y1 y2 : Int) (hy1 : iR y1) (hy2 : iR y2) (hk : k < 512) (hMX : MR MX) (hMM : MR MM) (hR : Rel k MX MM) : qX11_hearse y1 y2 MX (fun z MX1 => qX12_hearse y1 y2 MM (fun b MM1 => z = b ∧ MM1 1 0 = 0 ∧ Rel (k + 1) MX1 MM1)) (fun MX1 => qX12_hearse y1 y2 MM (fun b MM1 => MM1 1 0 = 1 ∧ Rel (k + 1) MX1 MM1)) := by
  have S := hR.S
  have r37 := hR.r37 hk
  refine fmX11_hearse (gX11_hearse (E := cut MM) (r := MM 5) (p1 := y1) (p2 := y2) hR.1 S.1 S.2.1 hR.W S.2.2.1 S.2.2.2.1 (by omega) (Q := fun z M' => (heOK (cut MM) y1 y2) ∧ z = heF (cut MM) (MM 5) y1 y2 ∧ IX M') (X := fun M' => ¬ (heOK (cut MM) y1 y2) ∧ IX M') (fun c M' i => ⟨c, rfl, i⟩) (fun n => ⟨n, hR.1⟩)) ?_ ?_
  · intro z MX1 fX hX
    have iX := hX.2.2
    refine fmX12_hearse (gX12_hearse (E := cut MM) (p1 := y1) (p2 := y2) hR.2.1 (cut_CE MM) hR.E0 S.2.2.2.1 (Q := fun z M' => IM (60000 * (k : Int)) M' ∧ ((heOK (cut MM) y1 y2) ∧ z = heF (cut MM) (MM 5) y1 y2 ∧ M' 1 0 = 0 ∨ ¬ (heOK (cut MM) y1 y2) ∧ M' 1 0 = 1)) (fun c M' i t => ⟨i, Or.inl ⟨c, rfl, t⟩⟩) (fun n M' i t => ⟨i, Or.inr ⟨n, t⟩⟩)) ?_
    intro b MM1 fM hM
    obtain ⟨iM, gM⟩ := hM
    have q := hR.q iX iM (by omega) (fX 156 1 (by first | omega | exact fun h => h)) (fM 1 14 (by first | omega | exact fun h => h)) (fX 182 2 (by first | omega | exact fun h => h)) (fM 1 45 (by first | omega | exact fun h => h)) (fun j => fX 157 j (by first | omega | exact fun h => h)) (fun j => fM 7 j (by first | omega | exact fun h => h)) (fun j => ⟨fX 183 j (by first | omega | exact fun h => h), fX 184 j (by first | omega | exact fun h => h), fM 26 j (by first | omega | exact fun h => h), fM 27 j (by first | omega | exact fun h => h)⟩) (fun k j q => fX k j (by first | omega | exact fun h => h)) (fun k j q => fM k j (by first | omega | exact fun h => h))
    rcases gM with g | g
    · exact ⟨by rw [hX.2.1, g.2.1], g.2.2, q⟩
    · exact absurd hX.1 g.1
  · intro MX1 fX hX
    have iX := hX.2
    refine fmX12_hearse (gX12_hearse (E := cut MM) (p1 := y1) (p2 := y2) hR.2.1 (cut_CE MM) hR.E0 S.2.2.2.1 (Q := fun z M' => IM (60000 * (k : Int)) M' ∧ ((heOK (cut MM) y1 y2) ∧ z = heF (cut MM) (MM 5) y1 y2 ∧ M' 1 0 = 0 ∨ ¬ (heOK (cut MM) y1 y2) ∧ M' 1 0 = 1)) (fun c M' i t => ⟨i, Or.inl ⟨c, rfl, t⟩⟩) (fun n M' i t => ⟨i, Or.inr ⟨n, t⟩⟩)) ?_
    intro b MM1 fM hM
    obtain ⟨iM, gM⟩ := hM
    have q := hR.q iX iM (by omega) (fX 156 1 (by first | omega | exact fun h => h)) (fM 1 14 (by first | omega | exact fun h => h)) (fX 182 2 (by first | omega | exact fun h => h)) (fM 1 45 (by first | omega | exact fun h => h)) (fun j => fX 157 j (by first | omega | exact fun h => h)) (fun j => fM 7 j (by first | omega | exact fun h => h)) (fun j => ⟨fX 183 j (by first | omega | exact fun h => h), fX 184 j (by first | omega | exact fun h => h), fM 26 j (by first | omega | exact fun h => h), fM 27 j (by first | omega | exact fun h => h)⟩) (fun k j q => fX k j (by first | omega | exact fun h => h)) (fun k j q => fM k j (by first | omega | exact fun h => h))
    rcases gM with g | g
    · exact absurd g.1 hX.1
    · exact ⟨g.2, q⟩
theorem Cl_mourner (k : Nat) (MX MM : Mem) (y1 y2 : Int) (hy1 : iR y1) (hy2 : iR y2) (hk : k < 512) (hMX : MR MX) (hMM : MR MM) (hR : Rel k MX MM) : qX11_mourner y1 y2 MX (fun z MX1 => qX12_mourner y1 y2 MM (fun b MM1 => z = b ∧ MM1 1 0 = 0 ∧ Rel (k + 1) MX1 MM1)) (fun MX1 => qX12_mourner y1 y2 MM (fun b MM1 => MM1 1 0 = 1 ∧ Rel (k + 1) MX1 MM1)) := by
  have S := hR.S
  have r37 := hR.r37 hk
  refine fmX11_mourner (gX11_mourner (E := cut MM) (r := MM 5) (p1 := y1) (p2 := y2) hR.1 S.1 S.2.2.1 S.2.2.2.1 (Q := fun z M' => (moOK (cut MM) y1 y2) ∧ z = moF (cut MM) (MM 5) y1 y2 ∧ IX M') (X := fun M' => ¬ (moOK (cut MM) y1 y2) ∧ IX M') (fun c => ⟨c, rfl, hR.1⟩) (fun n => ⟨n, hR.1⟩)) ?_ ?_
  · intro z MX1 fX hX
    have iX := hX.2.2
    refine fmX12_mourner (gX12_mourner (E := cut MM) (p1 := y1) (p2 := y2) hR.2.1 (cut_CE MM) hR.E0 S.2.2.2.1 (Q := fun z M' => IM (60000 * (k : Int)) M' ∧ ((moOK (cut MM) y1 y2) ∧ z = moF (cut MM) (MM 5) y1 y2 ∧ M' 1 0 = 0 ∨ ¬ (moOK (cut MM) y1 y2) ∧ M' 1 0 = 1)) (fun c M' i t => ⟨i, Or.inl ⟨c, rfl, t⟩⟩) (fun n M' i t => ⟨i, Or.inr ⟨n, t⟩⟩)) ?_
    intro b MM1 fM hM
    obtain ⟨iM, gM⟩ := hM
    have q := hR.q iX iM (by omega) (fX 156 1 (by first | omega | exact fun h => h)) (fM 1 14 (by first | omega | exact fun h => h)) (fX 182 2 (by first | omega | exact fun h => h)) (fM 1 45 (by first | omega | exact fun h => h)) (fun j => fX 157 j (by first | omega | exact fun h => h)) (fun j => fM 7 j (by first | omega | exact fun h => h)) (fun j => ⟨fX 183 j (by first | omega | exact fun h => h), fX 184 j (by first | omega | exact fun h => h), fM 26 j (by first | omega | exact fun h => h), fM 27 j (by first | omega | exact fun h => h)⟩) (fun k j q => fX k j (by first | omega | exact fun h => h)) (fun k j q => fM k j (by first | omega | exact fun h => h))
    rcases gM with g | g
    · exact ⟨by rw [hX.2.1, g.2.1], g.2.2, q⟩
    · exact absurd hX.1 g.1
  · intro MX1 fX hX
    have iX := hX.2
    refine fmX12_mourner (gX12_mourner (E := cut MM) (p1 := y1) (p2 := y2) hR.2.1 (cut_CE MM) hR.E0 S.2.2.2.1 (Q := fun z M' => IM (60000 * (k : Int)) M' ∧ ((moOK (cut MM) y1 y2) ∧ z = moF (cut MM) (MM 5) y1 y2 ∧ M' 1 0 = 0 ∨ ¬ (moOK (cut MM) y1 y2) ∧ M' 1 0 = 1)) (fun c M' i t => ⟨i, Or.inl ⟨c, rfl, t⟩⟩) (fun n M' i t => ⟨i, Or.inr ⟨n, t⟩⟩)) ?_
    intro b MM1 fM hM
    obtain ⟨iM, gM⟩ := hM
    have q := hR.q iX iM (by omega) (fX 156 1 (by first | omega | exact fun h => h)) (fM 1 14 (by first | omega | exact fun h => h)) (fX 182 2 (by first | omega | exact fun h => h)) (fM 1 45 (by first | omega | exact fun h => h)) (fun j => fX 157 j (by first | omega | exact fun h => h)) (fun j => fM 7 j (by first | omega | exact fun h => h)) (fun j => ⟨fX 183 j (by first | omega | exact fun h => h), fX 184 j (by first | omega | exact fun h => h), fM 26 j (by first | omega | exact fun h => h), fM 27 j (by first | omega | exact fun h => h)⟩) (fun k j q => fX k j (by first | omega | exact fun h => h)) (fun k j q => fM k j (by first | omega | exact fun h => h))
    rcases gM with g | g
    · exact absurd g.1 hX.1
    · exact ⟨g.2, q⟩
end
section
theorem Rl_sign (k : Nat) (MX MM : Mem) (y1 : Int) (hy1 : iR y1) (hk : k < 512) (hMX : MR MX) (hMM : MR MM) (hR : Rel k MX MM) : qX11_sign y1 MX (fun z MX1 => qX12_sign y1 MM (fun b MM1 => Rel (k + 1) MX1 MM1)) :=
  fmX11_sign (Cl_sign k MX MM y1 hy1 hk hMX hMM hR) (fun _ _ _ h => fmX12_sign h (fun _ _ _ h2 => h2.2))
theorem Rl_end (k : Nat) (MX MM : Mem) (y1 : Int) (hy1 : iR y1) (hk : k < 512) (hMX : MR MX) (hMM : MR MM) (hR : Rel k MX MM) : qX11_end y1 MX (fun z MX1 => qX12_end y1 MM (fun b MM1 => Rel (k + 1) MX1 MM1)) :=
  fmX11_end (Cl_end k MX MM y1 hy1 hk hMX hMM hR) (fun _ _ _ h => fmX12_end h (fun _ _ _ h2 => h2.2))
theorem Rl_avenue (k : Nat) (MX MM : Mem)  (hk : k < 512) (hMX : MR MX) (hMM : MR MM) (hR : Rel k MX MM) : qX11_avenue  MX (fun z MX1 => qX12_avenue  MM (fun b MM1 => Rel (k + 1) MX1 MM1)) :=
  fmX11_avenue (Cl_avenue k MX MM   hk hMX hMM hR) (fun _ _ _ h => fmX12_avenue h (fun _ _ _ h2 => h2.2))
theorem Rl_hearses (k : Nat) (MX MM : Mem)  (hk : k < 512) (hMX : MR MX) (hMM : MR MM) (hR : Rel k MX MM) : qX11_hearses  MX (fun z MX1 => qX12_hearses  MM (fun b MM1 => Rel (k + 1) MX1 MM1)) :=
  fmX11_hearses (Cl_hearses k MX MM   hk hMX hMM hR) (fun _ _ _ h => fmX12_hearses h (fun _ _ _ h2 => h2.2))
theorem Rl_mourners (k : Nat) (MX MM : Mem)  (hk : k < 512) (hMX : MR MX) (hMM : MR MM) (hR : Rel k MX MM) : qX11_mourners  MX (fun z MX1 => qX12_mourners  MM (fun b MM1 => Rel (k + 1) MX1 MM1)) :=
  fmX11_mourners (Cl_mourners k MX MM   hk hMX hMM hR) (fun _ _ _ h => fmX12_mourners h (fun _ _ _ h2 => h2.2))
theorem Rl_weather (k : Nat) (MX MM : Mem)  (hk : k < 512) (hMX : MR MX) (hMM : MR MM) (hR : Rel k MX MM) : qX11_weather  MX (fun z MX1 => qX12_weather  MM (fun b MM1 => Rel (k + 1) MX1 MM1)) :=
  fmX11_weather (Cl_weather k MX MM   hk hMX hMM hR) (fun _ _ _ h => fmX12_weather h (fun _ _ _ h2 => h2.2))
theorem Rl_rule (k : Nat) (MX MM : Mem)  (hk : k < 512) (hMX : MR MX) (hMM : MR MM) (hR : Rel k MX MM) : qX11_rule  MX (fun z MX1 => qX12_rule  MM (fun b MM1 => Rel (k + 1) MX1 MM1)) :=
  fmX11_rule (Cl_rule k MX MM   hk hMX hMM hR) (fun _ _ _ h => fmX12_rule h (fun _ _ _ h2 => h2.2))
theorem Rl_hearse (k : Nat) (MX MM : Mem) (y1 y2 : Int) (hy1 : iR y1) (hy2 : iR y2) (hk : k < 512) (hMX : MR MX) (hMM : MR MM) (hR : Rel k MX MM) : qX11_hearse y1 y2 MX (fun z MX1 => qX12_hearse y1 y2 MM (fun b MM1 => Rel (k + 1) MX1 MM1)) (fun MX1 => qX12_hearse y1 y2 MM (fun b MM1 => Rel (k + 1) MX1 MM1)) :=
  fmX11_hearse (Cl_hearse k MX MM y1 y2 hy1 hy2 hk hMX hMM hR) (fun _ _ _ h => fmX12_hearse h (fun _ _ _ h2 => h2.2.2)) (fun _ _ h => fmX12_hearse h (fun _ _ _ h2 => h2.2))
theorem Rl_mourner (k : Nat) (MX MM : Mem) (y1 y2 : Int) (hy1 : iR y1) (hy2 : iR y2) (hk : k < 512) (hMX : MR MX) (hMM : MR MM) (hR : Rel k MX MM) : qX11_mourner y1 y2 MX (fun z MX1 => qX12_mourner y1 y2 MM (fun b MM1 => Rel (k + 1) MX1 MM1)) (fun MX1 => qX12_mourner y1 y2 MM (fun b MM1 => Rel (k + 1) MX1 MM1)) :=
  fmX11_mourner (Cl_mourner k MX MM y1 y2 hy1 hy2 hk hMX hMM hR) (fun _ _ _ h => fmX12_mourner h (fun _ _ _ h2 => h2.2.2)) (fun _ _ h => fmX12_mourner h (fun _ _ _ h2 => h2.2))
theorem Rl_sheet (k : Nat) (MX MM : Mem) (y1 y2 y3 y4 : Int) (hy1 : iR y1) (hy2 : iR y2) (hy3 : iR y3) (hy4 : iR y4) (hk : k < 512) (hMX : MR MX) (hMM : MR MM) (hR : Rel k MX MM) : qX11_sheet y1 y2 y3 y4 MX (fun z MX1 => qX12_sheet y1 y2 y3 y4 MM (fun b MM1 => Rel (k + 1) MX1 MM1)) :=
  fmX11_sheet (Cl_sheet k MX MM y1 y2 y3 y4 hy1 hy2 hy3 hy4 hk hMX hMM hR) (fun _ _ _ h => fmX12_sheet h (fun _ _ _ h2 => h2.2))
theorem Rl_steps (k : Nat) (MX MM : Mem) (y1 : Int) (hy1 : iR y1) (hk : k < 512) (hMX : MR MX) (hMM : MR MM) (hR : Rel k MX MM) : qX11_steps y1 MX (fun z MX1 => qX12_steps y1 MM (fun b MM1 => Rel (k + 1) MX1 MM1)) :=
  fmX11_steps (Cl_steps k MX MM y1 hy1 hk hMX hMM hR) (fun _ _ _ h => fmX12_steps h (fun _ _ _ h2 => h2.2))
theorem Rl_turnsTo (k : Nat) (MX MM : Mem) (y1 : Int) (hy1 : iR y1) (hk : k < 512) (hMX : MR MX) (hMM : MR MM) (hR : Rel k MX MM) : qX11_turnsTo y1 MX (fun z MX1 => qX12_turnsTo y1 MM (fun b MM1 => Rel (k + 1) MX1 MM1)) :=
  fmX11_turnsTo (Cl_turnsTo k MX MM y1 hy1 hk hMX hMM hR) (fun _ _ _ h => fmX12_turnsTo h (fun _ _ _ h2 => h2.2))
theorem Rl_pushes (k : Nat) (MX MM : Mem) (y1 y2 : Int) (hy1 : iR y1) (hy2 : iR y2) (hk : k < 512) (hMX : MR MX) (hMM : MR MM) (hR : Rel k MX MM) : qX11_pushes y1 y2 MX (fun z MX1 => qX12_pushes y1 y2 MM (fun b MM1 => Rel (k + 1) MX1 MM1)) :=
  fmX11_pushes (Cl_pushes k MX MM y1 y2 hy1 hy2 hk hMX hMM hR) (fun _ _ _ h => fmX12_pushes h (fun _ _ _ h2 => h2.2))
theorem Rl_swaps (k : Nat) (MX MM : Mem) (y1 y2 : Int) (hy1 : iR y1) (hy2 : iR y2) (hk : k < 512) (hMX : MR MX) (hMM : MR MM) (hR : Rel k MX MM) : qX11_swaps y1 y2 MX (fun z MX1 => qX12_swaps y1 y2 MM (fun b MM1 => Rel (k + 1) MX1 MM1)) :=
  fmX11_swaps (Cl_swaps k MX MM y1 y2 hy1 hy2 hk hMX hMM hR) (fun _ _ _ h => fmX12_swaps h (fun _ _ _ h2 => h2.2))
theorem Rl_hour (k : Nat) (MX MM : Mem)  (hk : k < 512) (hMX : MR MX) (hMM : MR MM) (hR : Rel k MX MM) : qX11_hour  MX (fun z MX1 => qX12_hour  MM (fun b MM1 => Rel (k + 1) MX1 MM1)) :=
  fmX11_hour (Cl_hour k MX MM   hk hMX hMM hR) (fun _ _ _ h => fmX12_hour h (fun _ _ _ h2 => h2.2))
theorem Rl_undo (k : Nat) (MX MM : Mem)  (hk : k < 512) (hMX : MR MX) (hMM : MR MM) (hR : Rel k MX MM) : qX11_undo  MX (fun z MX1 => qX12_undo  MM (fun b MM1 => Rel (k + 1) MX1 MM1)) :=
  fmX11_undo (Cl_undo k MX MM   hk hMX hMM hR) (fun _ _ _ h => fmX12_undo h (fun _ _ _ h2 => h2.2))
theorem Rl_line (k : Nat) (MX MM : Mem)  (hk : k < 512) (hMX : MR MX) (hMM : MR MM) (hR : Rel k MX MM) : qX11_line  MX (fun z MX1 => qX12_line  MM (fun b MM1 => Rel (k + 1) MX1 MM1)) :=
  fmX11_line (Cl_line k MX MM   hk hMX hMM hR) (fun _ _ _ h => fmX12_line h (fun _ _ _ h2 => h2.2))
theorem Rl_ahead (k : Nat) (MX MM : Mem) (y1 : Int) (hy1 : iR y1) (hk : k < 512) (hMX : MR MX) (hMM : MR MM) (hR : Rel k MX MM) : qX11_ahead y1 MX (fun z MX1 => qX12_ahead y1 MM (fun b MM1 => Rel (k + 1) MX1 MM1)) :=
  fmX11_ahead (Cl_ahead k MX MM y1 hy1 hk hMX hMM hR) (fun _ _ _ h => fmX12_ahead h (fun _ _ _ h2 => h2.2))
theorem Rl_arrives (k : Nat) (MX MM : Mem) (y1 : Int) (hy1 : iR y1) (hk : k < 512) (hMX : MR MX) (hMM : MR MM) (hR : Rel k MX MM) : qX11_arrives y1 MX (fun z MX1 => qX12_arrives y1 MM (fun b MM1 => z = b ∧ Rel (k + 1) MX1 MM1)) :=
  Cl_arrives k MX MM y1 hy1 hk hMX hMM hR
theorem Rl_jam (k : Nat) (MX MM : Mem) (y1 : Int) (hy1 : iR y1) (hk : k < 512) (hMX : MR MX) (hMM : MR MM) (hR : Rel k MX MM) : qX11_jam y1 MX (fun z MX1 => qX12_jam y1 MM (fun b MM1 => Rel (k + 1) MX1 MM1)) :=
  Rk_jam k MX MM y1 hy1 hk hMX hMM hR
theorem Rl_passes (k : Nat) (MX MM : Mem) (y1 y2 : Int) (hy1 : iR y1) (hy2 : iR y2) (hk : k < 512) (hMX : MR MX) (hMM : MR MM) (hR : Rel k MX MM) : qX11_passes y1 y2 MX (fun z MX1 => qX12_passes y1 y2 MM (fun b MM1 => Rel (k + 1) MX1 MM1)) :=
  fmX11_passes (Cl_passes k MX MM y1 y2 hy1 hy2 hk hMX hMM hR) (fun _ _ _ h => fmX12_passes h (fun _ _ _ h2 => h2.2))
theorem Rl_ends (k : Nat) (MX MM : Mem) (y1 : Int) (hy1 : iR y1) (hk : k < 512) (hMX : MR MX) (hMM : MR MM) (hR : Rel k MX MM) : qX11_ends y1 MX (fun z MX1 => qX12_ends y1 MM (fun b MM1 => Rel (k + 1) MX1 MM1)) :=
  fmX11_ends (Cl_ends k MX MM y1 hy1 hk hMX hMM hR) (fun _ _ _ h => fmX12_ends h (fun _ _ _ h2 => h2.2))
theorem Rl_right (k : Nat) (MX MM : Mem)  (hk : k < 512) (hMX : MR MX) (hMM : MR MM) (hR : Rel k MX MM) : qX11_right  MX (fun z MX1 => qX12_right  MM (fun b MM1 => Rel (k + 1) MX1 MM1)) :=
  Rk_right k MX MM   hk hMX hMM hR
theorem Rl_order (k : Nat) (MX MM : Mem)  (hk : k < 512) (hMX : MR MX) (hMM : MR MM) (hR : Rel k MX MM) : qX11_order  MX (fun z MX1 => qX12_order  MM (fun b MM1 => Rel (k + 1) MX1 MM1)) :=
  Rk_order k MX MM   hk hMX hMM hR
theorem Rl_stands (k : Nat) (MX MM : Mem) (y1 : Int) (hy1 : iR y1) (hk : k < 512) (hMX : MR MX) (hMM : MR MM) (hR : Rel k MX MM) : qX11_stands y1 MX (fun z MX1 => qX12_stands y1 MM (fun b MM1 => Rel (k + 1) MX1 MM1)) :=
  Rk_stands k MX MM y1 hy1 hk hMX hMM hR
theorem Rl_when (k : Nat) (MX MM : Mem) (y1 : Int) (hy1 : iR y1) (hk : k < 512) (hMX : MR MX) (hMM : MR MM) (hR : Rel k MX MM) : qX11_when y1 MX (fun z MX1 => qX12_when y1 MM (fun b MM1 => Rel (k + 1) MX1 MM1)) :=
  Rk_when k MX MM y1 hy1 hk hMX hMM hR
theorem Rl_mends (k : Nat) (MX MM : Mem) (y1 : Int) (hy1 : iR y1) (hk : k < 512) (hMX : MR MX) (hMM : MR MM) (hR : Rel k MX MM) : qX11_mends y1 MX (fun z MX1 => qX12_mends y1 MM (fun b MM1 => Rel (k + 1) MX1 MM1)) :=
  Rk_mends k MX MM y1 hy1 hk hMX hMM hR
theorem Rl_misleads (k : Nat) (MX MM : Mem)  (hk : k < 512) (hMX : MR MX) (hMM : MR MM) (hR : Rel k MX MM) : qX11_misleads  MX (fun z MX1 => qX12_misleads  MM (fun b MM1 => Rel (k + 1) MX1 MM1)) :=
  Rk_misleads k MX MM   hk hMX hMM hR
theorem Rl_crowd (k : Nat) (MX MM : Mem)  (hk : k < 512) (hMX : MR MX) (hMM : MR MM) (hR : Rel k MX MM) : qX11_crowd  MX (fun z MX1 => qX12_crowd  MM (fun b MM1 => Rel (k + 1) MX1 MM1)) :=
  Rk_crowd k MX MM   hk hMX hMM hR
theorem Rl_shares (k : Nat) (MX MM : Mem) (y1 : Int) (hy1 : iR y1) (hk : k < 512) (hMX : MR MX) (hMM : MR MM) (hR : Rel k MX MM) : qX11_shares y1 MX (fun z MX1 => qX12_shares y1 MM (fun b MM1 => Rel (k + 1) MX1 MM1)) :=
  Rk_shares k MX MM y1 hy1 hk hMX hMM hR
theorem Rl_strangers (k : Nat) (MX MM : Mem)  (hk : k < 512) (hMX : MR MX) (hMM : MR MM) (hR : Rel k MX MM) : qX11_strangers  MX (fun z MX1 => qX12_strangers  MM (fun b MM1 => Rel (k + 1) MX1 MM1)) :=
  Rk_strangers k MX MM   hk hMX hMM hR
theorem Rl_doubts (k : Nat) (MX MM : Mem)  (hk : k < 512) (hMX : MR MX) (hMM : MR MM) (hR : Rel k MX MM) : qX11_doubts  MX (fun z MX1 => qX12_doubts  MM (fun b MM1 => Rel (k + 1) MX1 MM1)) :=
  Rk_doubts k MX MM   hk hMX hMM hR
theorem Rl_heard (k : Nat) (MX MM : Mem) (y1 y2 : Int) (hy1 : iR y1) (hy2 : iR y2) (hk : k < 512) (hMX : MR MX) (hMM : MR MM) (hR : Rel k MX MM) : qX11_heard y1 y2 MX (fun z MX1 => qX12_heard y1 y2 MM (fun b MM1 => Rel (k + 1) MX1 MM1)) :=
  fmX11_heard (Cl_heard k MX MM y1 y2 hy1 hy2 hk hMX hMM hR) (fun _ _ _ h => fmX12_heard h (fun _ _ _ h2 => h2.2))
theorem Rl_forget (k : Nat) (MX MM : Mem)  (hk : k < 512) (hMX : MR MX) (hMM : MR MM) (hR : Rel k MX MM) : qX11_forget  MX (fun z MX1 => qX12_forget  MM (fun b MM1 => Rel (k + 1) MX1 MM1)) :=
  fmX11_forget (Cl_forget k MX MM   hk hMX hMM hR) (fun _ _ _ h => fmX12_forget h (fun _ _ _ h2 => h2.2))
theorem Rl_fits (k : Nat) (MX MM : Mem)  (hk : k < 512) (hMX : MR MX) (hMM : MR MM) (hR : Rel k MX MM) : qX11_fits  MX (fun z MX1 => qX12_fits  MM (fun b MM1 => Rel (k + 1) MX1 MM1)) :=
  Rk_fits k MX MM   hk hMX hMM hR
theorem Rl_rains (k : Nat) (MX MM : Mem) (y1 y2 y3 : Int) (hy1 : iR y1) (hy2 : iR y2) (hy3 : iR y3) (hk : k < 512) (hMX : MR MX) (hMM : MR MM) (hR : Rel k MX MM) : qX11_rains y1 y2 y3 MX (fun z MX1 => qX12_rains y1 y2 y3 MM (fun b MM1 => Rel (k + 1) MX1 MM1)) :=
  fmX11_rains (Cl_rains k MX MM y1 y2 y3 hy1 hy2 hy3 hk hMX hMM hR) (fun _ _ _ h => fmX12_rains h (fun _ _ _ h2 => h2.2))
theorem Rl_law (k : Nat) (MX MM : Mem)  (hk : k < 512) (hMX : MR MX) (hMM : MR MM) (hR : Rel k MX MM) : qX11_law  MX (fun z MX1 => qX12_law  MM (fun b MM1 => Rel (k + 1) MX1 MM1)) :=
  Rk_law k MX MM   hk hMX hMM hR
theorem Rl_rests (k : Nat) (MX MM : Mem) (y1 : Int) (hy1 : iR y1) (hk : k < 512) (hMX : MR MX) (hMM : MR MM) (hR : Rel k MX MM) : qX11_rests y1 MX (fun z MX1 => qX12_rests y1 MM (fun b MM1 => Rel (k + 1) MX1 MM1)) :=
  fmX11_rests (Cl_rests k MX MM y1 hy1 hk hMX hMM hR) (fun _ _ _ h => fmX12_rests h (fun _ _ _ h2 => h2.2))
theorem Rl_years (k : Nat) (MX MM : Mem) (y1 y2 : Int) (hy1 : iR y1) (hy2 : iR y2) (hk : k < 512) (hMX : MR MX) (hMM : MR MM) (hR : Rel k MX MM) : qX11_years y1 y2 MX (fun z MX1 => qX12_years y1 y2 MM (fun b MM1 => Rel (k + 1) MX1 MM1)) :=
  fmX11_years (Cl_years k MX MM y1 y2 hy1 hy2 hk hMX hMM hR) (fun _ _ _ h => fmX12_years h (fun _ _ _ h2 => h2.2))
theorem Rl_keep (k : Nat) (MX MM : Mem) (y1 : Int) (hy1 : iR y1) (hk : k < 512) (hMX : MR MX) (hMM : MR MM) (hR : Rel k MX MM) : qX11_keep y1 MX (fun z MX1 => qX12_keep y1 MM (fun b MM1 => Rel (k + 1) MX1 MM1)) :=
  fmX11_keep (Cl_keep k MX MM y1 hy1 hk hMX hMM hR) (fun _ _ _ h => fmX12_keep h (fun _ _ _ h2 => h2.2))
theorem Rl_again (k : Nat) (MX MM : Mem) (y1 : Int) (hy1 : iR y1) (hk : k < 512) (hMX : MR MX) (hMM : MR MM) (hR : Rel k MX MM) : qX11_again y1 MX (fun z MX1 => qX12_again y1 MM (fun b MM1 => Rel (k + 1) MX1 MM1)) :=
  fmX11_again (Cl_again k MX MM y1 hy1 hk hMX hMM hR) (fun _ _ _ h => fmX12_again h (fun _ _ _ h2 => h2.2))
theorem Rl_count (k : Nat) (MX MM : Mem) (y1 : Int) (hy1 : iR y1) (hk : k < 512) (hMX : MR MX) (hMM : MR MM) (hR : Rel k MX MM) : qX11_count y1 MX (fun z MX1 => qX12_count y1 MM (fun b MM1 => Rel (k + 1) MX1 MM1)) :=
  Rk_count k MX MM y1 hy1 hk hMX hMM hR
theorem Rl_row (k : Nat) (MX MM : Mem) (y1 : Int) (hy1 : iR y1) (hk : k < 512) (hMX : MR MX) (hMM : MR MM) (hR : Rel k MX MM) : qX11_row y1 MX (fun z MX1 => qX12_row y1 MM (fun b MM1 => Rel (k + 1) MX1 MM1)) (fun MX1 => qX12_row y1 MM (fun b MM1 => Rel (k + 1) MX1 MM1)) :=
  Rk_row k MX MM y1 hy1 hk hMX hMM hR
theorem BM_0 {k : Nat} {j : Int} (h : ¬ (k = 1 ∧ j = 3)) (h2 : ¬ (k = 1 ∧ j = 7)) : BM 0 k j 0 := by
  by_cases c : k = 5 ∨ k = 6
  · exact (bm_n c).mpr ⟨by omega, by omega, by omega, by omega⟩
  by_cases c15 : k = 15
  · subst c15; exact bm_c15.mpr ⟨by omega, by omega, by omega, by omega⟩
  by_cases c31 : k = 31
  · subst c31; exact bm_c31.mpr ⟨by omega, by omega, by omega, by omega⟩
  by_cases c1 : k = 1
  · subst c1
    by_cases d1 : j = 1
    · subst d1; exact bm_c1_1.mpr (by decide)
    by_cases d3 : j = 3
    · exact absurd ⟨rfl, d3⟩ h
    by_cases d4 : j = 4
    · subst d4; exact bm_c1_4.mpr (by decide)
    by_cases d5 : j = 5
    · subst d5; exact bm_c1_5.mpr (by decide)
    by_cases d6 : j = 6
    · subst d6; exact bm_c1_6.mpr (by decide)
    by_cases d7 : j = 7
    · exact absurd ⟨rfl, d7⟩ h2
    by_cases d14 : j = 14
    · subst d14; exact bm_c1_14.mpr (by decide)
    by_cases d15 : j = 15
    · subst d15; exact bm_c1_15.mpr (by decide)
    by_cases d16 : j = 16
    · subst d16; exact bm_c1_16.mpr (by decide)
    by_cases d20 : j = 20
    · subst d20; exact bm_c1_20.mpr (by decide)
    by_cases d24 : j = 24
    · subst d24; exact bm_c1_24.mpr (by decide)
    by_cases d25 : j = 25
    · subst d25; exact bm_c1_25.mpr (by decide)
    by_cases d28 : j = 28
    · subst d28; exact bm_c1_28.mpr (by decide)
    by_cases d35 : j = 35
    · subst d35; exact bm_c1_35.mpr (by decide)
    by_cases d39 : j = 39
    · subst d39; exact bm_c1_39.mpr (by decide)
    by_cases d45 : j = 45
    · subst d45; exact bm_c1_45.mpr (by decide)
    simp [BM, d1, d3, d4, d5, d6, d7, d14, d15, d16, d20, d24, d25, d28, d35, d39, d45]
  by_cases c3 : k = 3
  · subst c3; exact bm_c3.mpr (by decide)
  by_cases c7 : k = 7
  · subst c7; exact bm_c7.mpr (by decide)
  by_cases c8 : k = 8
  · subst c8; exact bm_c8.mpr (by decide)
  by_cases c9 : k = 9
  · subst c9; exact bm_c9.mpr (by decide)
  by_cases c18 : k = 18
  · subst c18; exact bm_c18.mpr (by decide)
  by_cases c20 : k = 20
  · subst c20; exact bm_c20.mpr (by decide)
  by_cases c21 : k = 21
  · subst c21; exact bm_c21.mpr (by decide)
  by_cases c22 : k = 22
  · subst c22; exact bm_c22.mpr (by decide)
  unfold BM
  rw [if_neg c, if_neg (by omega)]
  simp [c1, c3, c7, c8, c9, c18, c20, c21, c22]
theorem BX_0 {k : Nat} {j : Int} (h : ¬ (k = 158 ∧ j = 1)) : BX k j 0 := by
  by_cases h0 : k = 0
  · simp [BX, h0]
  by_cases h155 : k < 155
  · unfold BX
    rw [if_neg h0, if_pos h155]
    by_cases r0 : (k - 1) % 7 = 0
    · rw [if_pos r0]
      by_cases d6 : j = 6
      · rw [if_pos d6]; decide
      · rw [if_neg d6]
        by_cases d7 : j = 7
        · rw [if_pos d7]; decide
        · rw [if_neg d7]; trivial
    · rw [if_neg r0]
      by_cases r1 : (k - 1) % 7 = 1
      · rw [if_pos r1]; decide
      · rw [if_neg r1]
        by_cases r3 : (k - 1) % 7 = 3
        · rw [if_pos r3]; decide
        · rw [if_neg r3]
          by_cases r4 : (k - 1) % 7 = 4
          · rw [if_pos r4]; decide
          · rw [if_neg r4]
            by_cases r5 : (k - 1) % 7 = 5
            · rw [if_pos r5]; decide
            · rw [if_neg r5]; trivial
  by_cases c156 : k = 156
  · subst c156
    by_cases d1 : j = 1
    · subst d1; exact bx_c156_1.mpr (by decide)
    by_cases d2 : j = 2
    · subst d2; exact bx_c156_2.mpr (by decide)
    by_cases d3 : j = 3
    · subst d3; exact bx_c156_3.mpr (by decide)
    simp [BX, d1, d2, d3]
  by_cases c157 : k = 157
  · subst c157; exact bx_c157.mpr (by decide)
  by_cases c158 : k = 158
  · subst c158
    by_cases d1 : j = 1
    · exact absurd ⟨rfl, d1⟩ h
    by_cases d3 : j = 3
    · subst d3; exact bx_c158_3.mpr (by decide)
    simp [BX, d1, d3]
  by_cases c163 : k = 163
  · subst c163
    by_cases d1 : j = 1
    · subst d1; exact bx_c163_1.mpr (by decide)
    by_cases d2 : j = 2
    · subst d2; exact bx_c163_2.mpr (by decide)
    simp [BX, d1, d2]
  by_cases c167 : k = 167
  · subst c167
    by_cases d1 : j = 1
    · subst d1; exact bx_c167_1.mpr (by decide)
    simp [BX, d1]
  by_cases c168 : k = 168
  · subst c168
    by_cases d1 : j = 1
    · subst d1; exact bx_c168_1.mpr (by decide)
    simp [BX, d1]
  by_cases c179 : k = 179
  · subst c179
    by_cases d2 : j = 2
    · subst d2; exact bx_c179_2.mpr (by decide)
    simp [BX, d2]
  by_cases c180 : k = 180
  · subst c180; exact bx_c180.mpr (by decide)
  by_cases c182 : k = 182
  · subst c182
    by_cases d2 : j = 2
    · subst d2; exact bx_c182_2.mpr (by decide)
    simp [BX, d2]
  by_cases c185 : k = 185
  · subst c185
    by_cases d1 : j = 1
    · subst d1; exact bx_c185_1.mpr (by decide)
    by_cases d2 : j = 2
    · subst d2; exact bx_c185_2.mpr (by decide)
    simp [BX, d1, d2]
  by_cases cl : k = 187 ∨ k = 192
  · by_cases d4 : j = 4
    · subst d4; exact (bx_l4 cl).mpr (by decide)
    · exact bx_lf0 cl d4
  by_cases cr : 170 ≤ k ∧ k ≤ 178
  · have e : k = 170 + ((k : Int) - 170).toNat := by omega
    rw [e]
    exact (bx_sh (e := (k : Int) - 170) (by omega) (by omega)).mpr ⟨by omega, by omega⟩
  unfold BX
  rw [if_neg h0, if_neg h155]
  simp only [if_neg cl, if_neg cr, if_neg c156, if_neg c157, if_neg c158, if_neg c163, if_neg c167, if_neg c168, if_neg c179, if_neg c180, if_neg c182, if_neg c185]
theorem IX_MX0 : IX MX0 := by
  refine ⟨fun k j => ?_, Or.inl ⟨by simp [MX0], by simp [MX0]⟩, fun k j hk he => ?_⟩
  · unfold MX0
    split
    · rename_i c; rw [c.1, c.2]; exact bx_c158_1.mpr (by decide)
    · rename_i c1
      split
      · rename_i c; rw [c.1, c.2]; exact bx_c158_3.mpr (by decide)
      · split
        · rename_i c; rw [c.1, c.2]; simp [BX]
        · split
          · rename_i c; rw [c.1, c.2]; simp [BX]
          · split
            · rename_i c; rw [c.1, c.2]; simp [BX]
            · exact BX_0 c1
  · exfalso
    have : MX0 (k + 1) j = 0 := by
      unfold MX0
      rcases hk with rfl | rfl <;> simp
    omega
theorem IM_MM0 : IM 0 MM0 := by
  refine ⟨fun k j => ?_, ?_⟩
  · unfold MM0
    split
    · rename_i c; rw [c.1, c.2]; exact bm_c1_3.mpr (by decide)
    · rename_i c1
      split
      · rename_i c; rw [c.1, c.2]; exact bm_c1_7.mpr (by decide)
      · rename_i c2
        exact BM_0 c1 c2
  · intro j hj
    exfalso
    have : MM0 1 24 = 0 := by simp [MM0]
    omega
theorem Rel_init : qInit (fun MX => Rel 0 MX MM0) := by
  unfold qInit
  refine gX2_plain (k0 := 187) IX_MX0 (Or.inl rfl) ?_
  intro M1 h1 f1 o1
  refine ⟨h1.l17, ?_⟩
  have e17 : (M1 155 17).toNat = 192 := by rw [f1 155 17 (by omega)]; simp [MX0]
  rw [e17]
  refine gX2_plain (k0 := 192) h1 (Or.inr rfl) ?_
  intro M2 h2 f2 _
  have K : ∀ (k : Nat) (j : Int), k < 187 → M2 k j = MX0 k j := fun k j h => by rw [f2 k j (by omega), f1 k j (by omega)]
  have Z : ∀ (k : Nat) (j : Int), k < 155 → M2 k j = 0 := fun k j h => by
    rw [K k j (by omega)]
    unfold MX0
    rw [if_neg (by omega), if_neg (by omega), if_neg (by omega), if_neg (by omega), if_neg (by omega)]
  have Y : ∀ (k : Nat) (j : Int), ¬ (k = 1 ∧ j = 3) → ¬ (k = 1 ∧ j = 7) → MM0 k j = 0 := fun k j h h' => by
    unfold MM0
    rw [if_neg h, if_neg h']
  have C : ∀ (k : Nat) (j : Int), ¬ (k = 1 ∧ j = 3) → ¬ (k = 1 ∧ j = 7) → cut MM0 k j = 0 := fun k j h h' => by
    unfold cut
    split
    · exact Y k j h h'
    · rfl
  have c3 : cut MM0 1 3 = 4 := by rw [cut13]; simp [MM0]
  have c4 : cut MM0 1 4 = 0 := C 1 4 (by omega) (by omega)
  have c5 : cut MM0 1 5 = 0 := C 1 5 (by omega) (by omega)
  have c7 : cut MM0 1 7 = 1 := by rw [cut17]; simp [MM0]
  have e0 : eO (cut MM0) = 0 := by show (cut MM0 1 5).toNat = 0; rw [c5]; rfl
  have eh : eH (cut MM0) = 0 := by show (cut MM0 1 4).toNat = 0; rw [c4]; rfl
  refine ⟨h2, IM_MM0.mono (by omega), ?_, ?_, fun j a q => ?_, ⟨?_, ?_, ?_, ?_, ?_, ?_⟩, FOLS.z (Y 1 5 (by omega) (by omega)), HRD.nil (by rw [K 182 2 (by omega)]; simp [MX0])⟩
  · rw [K 156 1 (by omega)]; simp [MX0, MM0]
  · rw [K 182 2 (by omega)]; simp [MX0, MM0]
  · rw [K 156 1 (by omega)] at q
    simp [MX0] at q
    omega
  · unfold STR
    rw [c3, c4, c5, c7]
    refine ⟨by rw [K 158 1 (by omega)]; simp [MX0], by decide, fun c hc => ?_, by rw [K 158 3 (by omega)]; simp [MX0], by decide, fun j p q => ?_, by decide, by decide, fun m p q => by omega⟩
    · have e2 : M2 158 2 = 0 := by rw [K 158 2 (by omega)]; simp [MX0]
      rw [e2, show iI 0 = (0 : Int32) from rfl, b_0, C 2 c (by omega) (by omega)]
      exact ⟨fun q => absurd q (by decide), fun q => absurd rfl q⟩
    · rw [K 159 j (by omega), C 4 j (by omega) (by omega)]
      unfold MX0
      rw [if_neg (by omega), if_neg (by omega), if_neg (by omega), if_neg (by omega), if_neg (by omega)]
  · have e16 : (M2 155 16).toNat = 187 := by rw [K 155 16 (by omega)]; simp [MX0]
    rw [e16]
    refine Or.inr ⟨C 1 24 (by omega) (by omega), ?_⟩
    have o2 : ROl 187 M2 plO := o1.fr (f2 _ _ (by omega)) (f2 _ _ (by omega)) (funext fun j => f2 _ j (by omega)) (funext fun j => f2 _ j (by omega))
    exact ⟨o2.1, SO_SCd o2.2 SCd_pl⟩
  · unfold SC
    rw [c4, c5, e0]
    refine ⟨Z 1 6 (by omega), Z 1 7 (by omega), fun j p q => ?_, fun j p q => ?_, ?_, fun m p q => ?_, fun m p q => ?_, fun m p q => ?_, fun m p q => ?_, ?_, ?_⟩
    · rw [Z _ _ (by omega), Y 5 _ (by omega) (by omega)]
    · rw [Z _ _ (by omega), Y 5 _ (by omega) (by omega)]
    · rw [Z 1 8 (by omega), Y 5 _ (by omega) (by omega)]
    · rw [Z _ _ (by omega), Y 5 _ (by omega) (by omega)]
    · rw [Z _ _ (by omega), C 3 _ (by omega) (by omega)]
    · rw [Z _ _ (by omega), Y 5 _ (by omega) (by omega)]
    · rw [Z _ _ (by omega), Y 5 _ (by omega) (by omega)]
    · rw [Z 1 10 (by omega), Y 5 _ (by omega) (by omega)]
    · rw [Z 1 9 (by omega)]
      rfl
  · unfold WR
    rw [c4, c5, eh]
    refine ⟨fun i j p q => by omega, fun i p q => by omega, fun i p q => by omega, ?_, ?_⟩
    · rw [Y 5 12 (by omega) (by omega)]
      rfl
    · rw [Y 5 37 (by omega) (by omega)]
      decide
  · exact HIS.nil (by rw [K 163 2 (by omega)]; simp [MX0]) (Y 1 28 (by omega) (by omega))
  · intro i p q
    have x0 : M2 166 i = 0 := by
      rw [K 166 i (by omega)]
      unfold MX0
      rw [if_neg (by omega), if_neg (by omega), if_neg (by omega), if_neg (by omega), if_neg (by omega)]
    exact ⟨⟨fun _ => Y 29 i (by omega) (by omega), fun _ => x0⟩, fun h => absurd x0 h⟩
end
