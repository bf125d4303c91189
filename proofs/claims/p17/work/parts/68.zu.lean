/-! HOUR: the calls -/
/-- where an hour's text of len signs can't stand (-1: it can); what is done by it -/
def hRD (f : Int → Int) (len : Int) : Int × Int := hrd f (min len 60) 31 0
def hfz (f : Int → Int) (len : Int) : Int := if (hRD f len).1 = 1 ∧ len ≤ (hRD f len).2 then -1 else (hRD f len).2
noncomputable def hGO (E : Mem) (f : Int → Int) (len : Int) (r : Int → Int) : Int × Int × (Int → Int) := hrG E f (min len 60) 31 0 r
theorem hRD_b {f : Int → Int} {len : Int} (h : 0 ≤ len) : (0 ≤ (hRD f len).2 ∧ (hRD f len).2 ≤ min len 60) ∧ ((hRD f len).1 = 0 ∨ (hRD f len).1 = 1) := hrd_b (f := f) (t := min len 60) 31 0 ⟨Int.le_refl _, by omega⟩
theorem hfz_b {f : Int → Int} {len : Int} (h : 0 ≤ len) : -1 ≤ hfz f len ∧ hfz f len ≤ 60 := by
  have b := hRD_b (f := f) h
  unfold hfz
  split <;> omega
theorem hrG_b {E : Mem} {f : Int → Int} {t : Int} : ∀ (n : Nat) (a : Int) (r : Int → Int), 0 ≤ (hrG E f t n a r).1 ∧ (hrG E f t n a r).1 ≤ n ∧ ((hrG E f t n a r).1 = 0 → (hrG E f t n a r).2.2 = r) := by
  intro n
  induction n with
  | zero => intro a r; exact ⟨Int.le_refl _, Int.le_refl _, fun _ => rfl⟩
  | succ n ih =>
    intro a r
    unfold hrG
    split
    · refine ⟨Int.le_refl _, ?_, fun _ => rfl⟩
      show (0 : Int) ≤ ((n + 1 : Nat) : Int)
      omega
    · split
      · have i := ih (prA f t a).2.1 (doR E r (prA f t a))
        refine ⟨?_, ?_, fun q => ?_⟩
        · show 0 ≤ (hrG E f t n (prA f t a).2.1 (doR E r (prA f t a))).1 + 1
          omega
        · show (hrG E f t n (prA f t a).2.1 (doR E r (prA f t a))).1 + 1 ≤ _
          omega
        · have q' : (hrG E f t n (prA f t a).2.1 (doR E r (prA f t a))).1 + 1 = 0 := q
          omega
      · refine ⟨Int.le_refl _, ?_, fun _ => rfl⟩
        show (0 : Int) ≤ ((n + 1 : Nat) : Int)
        omega
theorem hrG_f {E : Mem} {f : Int → Int} {t : Int} : ∀ (n : Nat) (a : Int) (r : Int → Int), (hrG E f t n a r).2.1 = 0 ∨ (hrG E f t n a r).2.1 = 1 := by
  intro n
  induction n with
  | zero => intro a r; exact Or.inl rfl
  | succ n ih =>
    intro a r
    unfold hrG
    split
    · exact Or.inl rfl
    · split
      · exact ih _ _
      · exact Or.inr rfl
/-- the text may be told alike alone up to its end -/
theorem prA_cg {f g : Int → Int} {t a : Int} (ha : 0 ≤ a) (h : ∀ j, 0 ≤ j → j < t → f j = g j) : prA f t a = prA g t a := by
  by_cases c : a < t
  · have e0 := h a ha c
    by_cases c1 : a + 1 < t
    · have e1 := h (a + 1) (by omega) c1
      by_cases c2 : a + 2 < t
      · have e2 := h (a + 2) (by omega) c2
        unfold prA dg1 dg2
        rw [e0, e1, e2]
      · have n2 : ∀ g : Int → Int, ¬ dg2 g t a := fun g q => c2 q.1
        unfold prA
        rw [if_pos (n2 f), if_pos (n2 g)]
        unfold dg1
        rw [e0, e1]
    · have n1 : ∀ g : Int → Int, ¬ dg1 g t a := fun g q => c1 q.1
      unfold prA
      rw [if_pos (n1 f), if_pos (n1 g), e0]
  · rw [prA_0 (fun q => c q.1), prA_0 (fun q => c q.1)]
theorem hrd_cg {f g : Int → Int} {t : Int} (h : ∀ j, 0 ≤ j → j < t → f j = g j) : ∀ (n : Nat) (a : Int), 0 ≤ a → hrd f t n a = hrd g t n a := by
  intro n
  induction n with
  | zero => intro a _; rfl
  | succ n ih =>
    intro a ha
    unfold hrd
    by_cases c : t ≤ a
    · rw [if_pos c, if_pos c]
    · have b := prA_b (f := g) (t := t) (a := a) (by omega)
      rw [if_neg c, if_neg c, prA_cg ha h, ih _ (by omega)]
theorem hrG_cg {E : Mem} {f g : Int → Int} {t : Int} (h : ∀ j, 0 ≤ j → j < t → f j = g j) : ∀ (n : Nat) (a : Int) (r : Int → Int), 0 ≤ a → hrG E f t n a r = hrG E g t n a r := by
  intro n
  induction n with
  | zero => intro a r _; rfl
  | succ n ih =>
    intro a r ha
    unfold hrG
    by_cases c : t ≤ a
    · rw [if_pos c, if_pos c]
    · have b := prA_b (f := g) (t := t) (a := a) (by omega)
      rw [if_neg c, if_neg c, prA_cg ha h, ih _ _ (by omega)]
theorem hfz_cg {f g : Int → Int} {len : Int} (h : ∀ j, 0 ≤ j → j < len → f j = g j) : hfz f len = hfz g len := by
  have e : hRD f len = hRD g len := hrd_cg (fun j p q => h j p (by omega)) 31 0 (Int.le_refl _)
  unfold hfz
  rw [e]
theorem hGO_cg {E : Mem} {f g : Int → Int} {len : Int} {r : Int → Int} (h : ∀ j, 0 ≤ j → j < len → f j = g j) : hGO E f len r = hGO E g len r := hrG_cg (fun j p q => h j p (by omega)) 31 0 r (Int.le_refl _)
theorem gX11_hourFault {M : Mem} {Q : Int → Mem → Prop} (hI : IX M) (hQ : ∀ M' : Mem, IX M' → Ks (fun k j => k = 156 ∧ (j = 2 ∨ j = 3)) M M' → Q (hfz (M 157) (M 156 1)) M') : qX11_hourFault M Q := by
  have bL := bx_c156_1.mp (hI.bx 156 1)
  unfold qX11_hourFault
  refine gX9_open (p1 := 60) hI (by decide) ?_
  intro M1 i1 k1 a1 t1
  have s1 : M1 157 = M 157 := funext fun j => k1 157 j (by omega)
  have hT : hrd (M1 157) (M1 156 3) 31 (M1 156 2) = hRD (M 157) (M 156 1) := by rw [s1, t1, a1]; rfl
  have b := hRD_b (f := M 157) bL.1
  refine ⟨32, gX11_hourFault_L11 (M0 := M1) (T := hRD (M 157) (M 156 1)) (by omega) ?_ ?_ 31 0 M1 i1 Ks.rf hT (by omega) (by omega) (by omega)⟩
  · intro h1 M2 i2 k2 a2
    have l2 : M2 156 1 = M 156 1 := by rw [k2 156 1 (by omega), k1 156 1 (by omega)]
    unfold qX11_hourFault_J48 qX9_isWhole
    intro x1 e1 _ x2 e2 _
    have K2 : Ks (fun k j => k = 156 ∧ (j = 2 ∨ j = 3)) M M2 := k1.tr (k2.mono (by intro k j h; omega))
    have H := hQ M2 i2 K2
    unfold hfz at H
    refine ⟨fun c => ?_, fun c => ?_⟩
    · intro _ _
      refine ⟨fun _ => ?_, fun q => absurd rfl q⟩
      intro x12 e12 _
      rw [if_neg (by omega)] at H
      rw [e12, a2]
      exact H
    · intro _ _
      refine ⟨fun q => absurd q (by decide), fun _ => ?_⟩
      rw [if_pos ⟨h1, by omega⟩] at H
      exact H
  · intro h0 M2 i2 k2 a2
    have K2 : Ks (fun k j => k = 156 ∧ (j = 2 ∨ j = 3)) M M2 := k1.tr (k2.mono (by intro k j h; omega))
    have H := hQ M2 i2 K2
    unfold hfz at H
    rw [if_neg (by omega)] at H
    exact H
theorem gX11_hour {M E : Mem} {r : Int → Int} {Q : Int → Mem → Prop} (hI : IX M) (hS : STR E M) (hL : LAW E M (M 155 16).toNat) (hw : WFC (E 11) (E 1 24)) (hC : SC E M 1 r) (hW : WR E r) (h37 : r 37 ≤ 1999990000) (hQ1 : hfz (M 157) (M 156 1) = -1 → ∀ M' : Mem, IX M' → WR E (hGO E (M 157) (M 156 1) r).2.2 → (0 < (hGO E (M 157) (M 156 1) r).1 → CACT E M M' r (hGO E (M 157) (M 156 1) r).2.2) → (¬ 0 < (hGO E (M 157) (M 156 1) r).1 → CNOP E M M' r) → Q (hGO E (M 157) (M 156 1) r).1 M') (hQ2 : hfz (M 157) (M 156 1) ≠ -1 → ∀ M' : Mem, IX M' → CNOP E M M' r → Q (-1 - hfz (M 157) (M 156 1)) M') : qX11_hour M Q := by
  have bL := bx_c156_1.mp (hI.bx 156 1)
  have el : (M 155 16).toNat = 187 ∨ (M 155 16).toNat = 192 := hI.l16
  have hb := hfz_b (f := M 157) bL.1
  unfold qX11_hour
  refine gX11_hourFault hI ?_
  intro M1 i1 k1 _
  have C1 : SC E M1 1 r := hC.fr (fun i j hi => k1 _ j (by omega))
  refine gX6_copyFrom i1 (show isS 22 by decide) (show isS 1 by decide) (by decide) ?_
  intro M2 i2 k2 s2 _
  refine gX9_open (p1 := 60) i2 (by decide) ?_
  intro M3 i3 k3 a3 t3
  rw [k2 156 1 (by omega), k1 156 1 (by omega)] at t3
  have K3 : Ks (fun k j => (22 ≤ k ∧ k ≤ 28) ∨ (k = 156 ∧ (j = 2 ∨ j = 3))) M M3 := ((k1.mono (by intro k j h; omega)).tr (k2.mono (by intro k j h; omega))).tr (k3.mono (by intro k j h; omega))
  have s3 : SC E M3 22 r := (s2 E r C1).fr (fun i j hi => k3 _ j (by omega))
  have C3 : SC E M3 1 r := hC.fr (fun i j hi => K3 _ j (by omega))
  by_cases hf : hfz (M 157) (M 156 1) = -1
  · rw [hf]
    have g157 : M3 157 = M 157 := funext fun j => K3 157 j (by omega)
    have g16 : M3 155 16 = M 155 16 := K3 155 16 (by omega)
    have S3 : STR E M3 := hS.fr (K3 _ _ (by omega)) (K3 _ _ (by omega)) (K3 _ _ (by omega)) (fun j => K3 159 j (by omega))
    have L3 : LAW E M3 (M3 155 16).toNat := by rw [g16]; exact hL.fr (K3 _ _ (by omega)) (K3 _ _ (by omega)) (fun j => K3 _ j (by omega)) (fun j => K3 _ j (by omega))
    have hd1 : (hrd (M3 157) (M3 156 3) 31 (M3 156 2)).1 = 1 := by
      rw [g157, t3, a3]
      unfold hfz hRD at hf
      by_cases c : (hrd (M 157) (min (M 156 1) 60) 31 0).1 = 1 ∧ M 156 1 ≤ (hrd (M 157) (min (M 156 1) 60) 31 0).2
      · exact c.1
      · rw [if_neg c] at hf
        have b := hRD_b (f := M 157) bL.1
        unfold hRD at b
        omega
    have eG : hrG E (M3 157) (M3 156 3) 31 (M3 156 2) r = hGO E (M 157) (M 156 1) r := by rw [g157, t3, a3]; rfl
    have gb := hrG_b (E := E) (f := M 157) (t := min (M 156 1) 60) 31 0 r
    have gb' : 0 ≤ (hGO E (M 157) (M 156 1) r).1 ∧ (hGO E (M 157) (M 156 1) r).1 ≤ ((31 : Nat) : Int) ∧ ((hGO E (M 157) (M 156 1) r).1 = 0 → (hGO E (M 157) (M 156 1) r).2.2 = r) := gb
    refine ⟨32, gX11_hour_L32 (M0 := M3) (E := E) (T := hGO E (M 157) (M 156 1) r) i3 S3 L3 hw (by omega) ?_ 31 0 0 M3 r i3 Ks.rf C3 hW hd1 (by rw [eG]; omega) (by rw [eG]) (by omega) (by omega) (by omega) (by omega) (by omega)⟩
    intro M4 i4 k4 c4 w4
    rw [g16] at k4
    unfold qX11_hour_J92
    unfold qX9_clear
    intro M18 h18
    have i18 : IX M18 := by rw [h18]; exact i4.up (by decide) (bx_c156_1.mpr (by decide))
    refine ⟨by decide, ⟨fun _ => ⟨⟨by omega, by omega⟩, ?_⟩, fun q => absurd rfl q⟩⟩
    have K18 : Ks (fun k j => kDo (M 155 16).toNat k j ∨ (22 ≤ k ∧ k ≤ 28) ∨ (k = 156 ∧ (j = 1 ∨ j = 2 ∨ j = 3))) M M18 := by
      rw [h18]
      exact ((K3.mono (by intro k j h; omega)).tr (k4.mono (by intro k j h; exact Or.inl h))).wr (by omega)
    have c18 : SC E M18 1 (hGO E (M 157) (M 156 1) r).2.2 := c4.fr (fun i j hi => by rw [h18, up2_n (by omega)])
    have s18 : SC E M18 22 r := s3.fr (fun i j hi => by rw [h18, up2_n (by omega)]; exact k4 _ j (by omega))
    -- what is told
    have TELL : ∀ (t0 : Int) (M5 : Mem), (t0 = 0 ∨ t0 = 1) → IX M5 → (∀ M' : Mem, IX M' → Ks (fun k j => k = 0 ∨ (k = 167 ∧ (j = 1))) M5 M' → Q (hGO E (M 157) (M 156 1) r).1 M') → qX11_hour_J136 Q (hGO E (M 157) (M 156 1) r).1 t0 M5 := by
      intro t0 M5 h0 i5 hq
      unfold qX11_hour_J136
      intro x25 e25 _
      refine ⟨⟨by omega, by omega⟩, ?_⟩
      refine fmX4_tellTwo (sX4_tellTwo (p1 := t0) (p3 := x25) i5 (Q := fun M' => IX M') (fun _ h => h)) ?_
      intro M27 k27 i27
      exact ⟨⟨by omega, by omega⟩, hq M27 i27 k27⟩
    have J123 : ∀ (v3 : Int) (M5 : Mem), (v3 = 0 ∨ v3 = 1) → IX M5 → (∀ M' : Mem, IX M' → Ks (fun k j => k = 0 ∨ (k = 167 ∧ (j = 1))) M5 M' → Q (hGO E (M 157) (M 156 1) r).1 M') → qX11_hour_J123 Q (hGO E (M 157) (M 156 1) r).1 v3 M5 := by
      intro v3 M5 h0 i5 hq
      unfold qX11_hour_J123
      exact ⟨⟨by omega, by omega⟩, ⟨fun _ => TELL 0 M5 (Or.inl rfl) i5 hq, fun _ => TELL 1 M5 (Or.inr rfl) i5 hq⟩⟩
    have hv3 : (hGO E (M 157) (M 156 1) r).2.1 = 0 ∨ (hGO E (M 157) (M 156 1) r).2.1 = 1 := hrG_f 31 0 r
    refine ⟨fun c => ?_, fun c => ?_⟩
    · refine J123 _ M18 hv3 i18 ?_
      intro M' i' k'
      have e0 : (hGO E (M 157) (M 156 1) r).1 = 0 := by omega
      refine hQ1 hf M' i' w4 (fun q => absurd q (by omega)) (fun _ => ⟨fun k j h h2 => ?_, ?_⟩)
      · rw [k' k j (by omega), K18 k j (by omega)]
      · rw [gb'.2.2 e0] at c18
        exact c18.fr (fun i j hi => k' _ j (by omega))
    · refine gX1_add i18 (show isS 22 by decide) (by decide) ?_
      intro M29 i29 k29 a29
      refine J123 _ M29 hv3 i29 ?_
      intro M' i' k'
      refine hQ1 hf M' i' w4 (fun _ => ⟨fun k j h h2 h3 => ?_, ?_, M18, ?_, s18, ?_⟩) (fun q => absurd (show 0 < (hGO E (M 157) (M 156 1) r).1 by omega) q)
      · rw [k' k j (by omega), k29 k j h3, K18 k j (by omega)]
      · exact (c18.fr (M' := M29) (fun i j hi => k29 _ j (by omega))).fr (fun i j hi => k' _ j (by omega))
      · intro k j h
        exact K18 k j (by omega)
      · obtain ⟨u1, u2, u3⟩ := a29
        refine ⟨fun E' r' hs => (u1 E' r' hs).fr (fun i j hi => k' _ j (by omega)), fun s i j h0 h1 h2 h3 => ?_, ?_⟩
        · rw [k' _ j (by omega)]
          exact u2 s i j h0 h1 h2 h3
        · rw [k' 163 1 (by omega), k' 163 2 (by omega)]
          exact u3
  · refine ⟨1, ?_⟩
    rw [qX11_hour_L32]
    have FIN : qX11_hour_J92 Q (hfz (M 157) (M 156 1)) 0 0 M3 := by
      unfold qX11_hour_J92
      unfold qX9_clear
      intro M18 h18
      have i18 : IX M18 := by rw [h18]; exact i3.up (by decide) (bx_c156_1.mpr (by decide))
      refine ⟨⟨by omega, by omega⟩, ⟨fun q => absurd q hf, fun _ => ⟨⟨by omega, by omega⟩, ?_⟩⟩⟩
      refine hQ2 hf M18 i18 ⟨fun k j h h2 => ?_, ?_⟩
      · rw [h18, up2_n (by omega)]
        exact K3 k j (by omega)
      · exact C3.fr (fun i j hi => by rw [h18, up2_n (by omega)])
    exact ⟨by decide, ⟨fun _ => FIN, fun _ => ⟨⟨by omega, by omega⟩, ⟨fun _ => FIN, fun q => absurd q hf⟩⟩⟩⟩
theorem gX12_hour {b : Int} {M E : Mem} {Q : Int → Mem → Prop} (hI : IM b M) (hE : CE E M) (hE0 : EBx E) (hW : WR E (M 5)) (ho : ∀ m, 0 ≤ m → m < E 1 5 → 0 ≤ E 3 m ∧ E 3 m < E 1 4) (hb : b + 300 ≤ 2000000000) (hQ1 : hfz (M 7) (M 1 14) = -1 → ∀ M' : Mem, IM (b + 300) M' → (0 < (hGO E (M 7) (M 1 14) (M 5)).1 → RACT M M' (hGO E (M 7) (M 1 14) (M 5)).2.2) → (¬ 0 < (hGO E (M 7) (M 1 14) (M 5)).1 → RNOP M M') → Q (hGO E (M 7) (M 1 14) (M 5)).1 M') (hQ2 : hfz (M 7) (M 1 14) ≠ -1 → ∀ M' : Mem, IM (b + 300) M' → RNOP M M' → Q (-1 - hfz (M 7) (M 1 14)) M') : qX12_hour M Q := by
  have bL := bm_c1_14.mp (hI.bx 1 14)
  have rb := hRD_b (f := M 7) bL.1
  have hb2 := hfz_b (f := M 7) bL.1
  unfold qX12_hour
  intro M1 h1
  have i1 : IM b M1 := by rw [h1]; exact hI.up (by omega) (by simp [BM])
  have l1 : M1 1 14 = M 1 14 := by rw [h1, up2_j (by decide)]
  have f1 : FrJ (fun k j => k = 1 ∧ (j = 0 ∨ j = 14 ∨ j = 15 ∨ j = 16 ∨ j = 17 ∨ j = 39)) M M1 := by rw [h1]; exact FrJ.rf.up (by omega)
  refine gX12_begins (p1 := 60) i1 (by decide) ?_
  intro M2 i2 g2 a15 a16 _ a14 _ M3 h3
  rw [l1] at a16 ⊢
  have i3 : IM b M3 := by rw [h3]; exact i2.up (by omega) (bm_c1_39.mpr (by decide))
  have F3 : FrJ (fun k j => k = 1 ∧ (j = 0 ∨ j = 14 ∨ j = 15 ∨ j = 16 ∨ j = 17 ∨ j = 39)) M M3 := by rw [h3]; exact (f1.tr (g2.mono (by intro k j h; omega))).up (by omega)
  have s3 : M3 7 = M 7 := funext fun j => F3 7 j (by omega)
  have t3 : M3 1 16 = min (M 1 14) 60 := by rw [h3, up2_j (by decide)]; exact a16
  have p3 : M3 1 15 = 0 := by rw [h3, up2_j (by decide)]; exact a15
  have n3 : M3 1 39 = 0 := by rw [h3, up2_s]
  have hT : hrd (M3 7) (M3 1 16) 31 (M3 1 15) = hRD (M 7) (M 1 14) := by rw [s3, t3, p3]; rfl
  refine ⟨33, gX12_hour_L19 (b := b) (M0 := M3) (T := hRD (M 7) (M 1 14)) (by omega) ?_ 31 M3 i3 FrJ.rf hT (by omega) (by omega) (by rw [n3]; intro i p q; omega) (by rw [n3, p3]; rfl) (by omega)⟩
  intro M4 i4 f4 a4 hA
  have t4 : M4 1 16 = min (M 1 14) 60 := by rw [f4 1 16 (by omega)]; exact t3
  have F4 : ∀ (k : Nat) (j : Int), stM k j → M4 k j = M k j := by
    intro k j h
    rw [f4 k j (by omega), F3 k j (by omega)]
  unfold qX12_hour_J42
  refine ⟨⟨by omega, by omega⟩, ⟨by omega, by omega⟩, ?_⟩
  refine gX12_faultOf i4 rb.2 (by decide) bL t4 (by omega) ?_
  intro _
  by_cases hf : hfz (M 7) (M 1 14) = -1
  · have hc : (hRD (M 7) (M 1 14)).1 = 1 ∧ M 1 14 ≤ (hRD (M 7) (M 1 14)).2 := by
      unfold hfz at hf
      by_cases c : (hRD (M 7) (M 1 14)).1 = 1 ∧ M 1 14 ≤ (hRD (M 7) (M 1 14)).2
      · exact c
      · rw [if_neg c] at hf
        omega
    rw [if_pos ⟨hc.1, by omega⟩]
    obtain ⟨k0, k30, hACS, hpo⟩ := hA hc.1 (by omega)
    rw [s3, t3] at hACS hpo
    refine ⟨fun _ => ?_, fun q => absurd (Int.le_refl _) q⟩
    refine gX12_putsBy i4 ?_
    intro M5 i5 f5 p5
    have g28 : M4 1 28 = M 1 28 := F4 1 28 (by omega)
    rw [g28] at f5 p5
    have k5 : M5 5 = M 5 := funext fun j => by rw [f5 5 j (by omega)]; exact F4 5 j (by omega)
    have E5 : CE E M5 := fun k j h => by
      rw [f5 k j (by omega), F4 k j (Or.inl h)]
      exact hE k j h
    have c39 : M5 1 39 = M4 1 39 := f5 1 39 (by omega)
    have A5 : ACS M5 (M 7) (min (M 1 14) 60) (M4 1 39) := ACS.fr hACS (fun k j hk _ _ => f5 k j (by omega))
    have gb : 0 ≤ (hGO E (M 7) (M 1 14) (M 5)).1 ∧ (hGO E (M 7) (M 1 14) (M 5)).1 ≤ ((31 : Nat) : Int) ∧ ((hGO E (M 7) (M 1 14) (M 5)).1 = 0 → (hGO E (M 7) (M 1 14) (M 5)).2.2 = M 5) := hrG_b (E := E) (f := M 7) (t := min (M 1 14) 60) 31 0 (M 5)
    refine ⟨31, gX12_hour_L64 (b := b) (E := E) (M0 := M5) (f := M 7) (t := min (M 1 14) 60) (K := M4 1 39) (T := hGO E (M 7) (M 1 14) (M 5)) hE0 ho ⟨k0, k30⟩ hb (by rw [hpo]; omega) ?_ 31 0 M5 (M 5) (i5.mono (by omega)) E5 Ks.rf k5 hW c39 A5 ?_ rfl ⟨Int.le_refl _, k0⟩ (by omega)⟩
    · intro v4 M6 i6 E6 kd k6 c6 hv hz
      unfold qX12_hour_J88
      intro M22 h22
      have i22 : IM (b + 300) M22 := by rw [h22]; exact i6.up (by omega) (bm_c1_1.mpr (by decide))
      have t22 : M22 1 1 = 0 := by rw [h22, up2_s]
      have K22 : Ks (fun k j => k = 1 ∧ j = 1) M6 M22 := by rw [h22]; exact Ks.rf.wr ⟨rfl, rfl⟩
      have J108 : ∀ t0 : Int, (t0 = 0 ∨ t0 = 1) → qX12_hour_J108 Q v4 t0 M22 := by
        intro t0 h0
        unfold qX12_hour_J108
        refine ⟨⟨by omega, by omega⟩, ?_⟩
        have hfl : ∀ Q' : Int → Mem → Prop, (∀ x : Int, Q' x M22) → qX12_flag t0 M22 Q' := fun Q' hq => ⟨fun _ => hq 0, fun _ => hq 1⟩
        refine hfl _ ?_
        intro x27 _
        refine fmX12_enters (sX12_enters (p1 := x27) i22 (by omega) (Q := fun M' => IM (b + 300) M' ∧ M' 1 1 = 1) (fun M' a c => ⟨a, by omega⟩)) ?_
        intro M28 f28 ⟨i28, t28⟩ x29 e29 _
        refine fmX12_enters (sX12_enters (p1 := x29) i28 (by omega) (Q := fun M' => IM (b + 300) M') (fun M' a _ => a)) ?_
        intro M30 f30 i30
        have K30 : ∀ (k : Nat) (j : Int), k ≠ 0 → ¬ (k = 1 ∧ j = 1) → M30 k j = M6 k j := by
          intro k j h h'
          rw [f30 k j (by omega), f28 k j (by omega), K22 k j h']
        have st : ∀ (k : Nat) (j : Int), stM k j → k ≠ 5 → k ≠ 15 → M30 k j = M k j := by
          intro k j h n5 n15
          rw [K30 k j (by omega) (by omega), kd k j (by omega), f5 k j (by omega), F4 k j h]
        have s15 : ∀ j, 0 ≤ j → j < 38 * M 1 28 → M30 15 j = M 15 j := by
          intro j p q
          rw [K30 15 j (by decide) (by omega), kd 15 j (by omega), f5 15 j (by omega), F4 15 j (by omega)]
        have sp : ∀ j, 0 ≤ j → j < 38 → M30 15 (38 * M 1 28 + j) = M 5 j := by
          intro j p q
          rw [K30 15 _ (by decide) (by omega), kd 15 _ (by omega), p5 j p q]
          exact F4 5 j (by omega)
        have k30' : M30 5 = (hGO E (M 7) (M 1 14) (M 5)).2.2 := by
          rw [← k6]
          exact funext fun j => K30 5 j (by decide) (by omega)
        refine ⟨⟨by omega, by omega⟩, ⟨fun c => ?_, fun c => ?_⟩⟩
        · have e0 : (hGO E (M 7) (M 1 14) (M 5)).1 = 0 := by
            have := gb.1
            omega
          have H := hQ1 hf M30 i30 (fun q => absurd q (by omega)) (fun _ => ⟨st, ?_, s15⟩)
          · rw [e0] at H
            exact H
          · rw [k30']
            exact gb.2.2 e0
        · rw [hv]
          refine gX12_addsR (M0 := M) i30 st s15 sp k30' ?_
          intro M' i' a' _
          exact hQ1 hf M' i' (fun _ => a') (fun q => absurd (show 0 < (hGO E (M 7) (M 1 14) (M 5)).1 by omega) q)
      intro x23 e23 _
      refine ⟨⟨by omega, by omega⟩, ⟨fun _ => J108 0 (Or.inl rfl), fun _ => J108 1 (Or.inr rfl)⟩⟩
    · show 0 + (hGO E (M 7) (M 1 14) (M 5)).1 = (hGO E (M 7) (M 1 14) (M 5)).1
      omega
  · have hn : ¬ ((hRD (M 7) (M 1 14)).1 = 1 ∧ M 1 14 ≤ (hRD (M 7) (M 1 14)).2) := by
      intro c
      unfold hfz at hf
      rw [if_pos c] at hf
      exact hf rfl
    have ez : hfz (M 7) (M 1 14) = (hRD (M 7) (M 1 14)).2 := by unfold hfz; rw [if_neg hn]
    rw [if_neg (fun q => hn ⟨q.1, by omega⟩)]
    refine ⟨fun q => by omega, fun _ => ?_⟩
    have H := hQ2 hf M4 (i4.mono (by omega)) ⟨fun k j h _ _ => F4 k j h, funext fun j => F4 5 j (by omega), fun j _ _ => F4 15 j (by omega)⟩
    rw [ez, ← a4] at H
    exact H
