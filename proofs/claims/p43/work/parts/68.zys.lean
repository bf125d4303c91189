/-! ONCE MORE, WITH THE ROW'S LENGTH -/
theorem gX11_endsN {p1 : Int} {M E : Mem} {r : Int → Int} {Q : Int → Mem → Prop} (hI : IX M) (hS : STR E M) (hL : LAW E M (M 155 16).toNat) (hw : WFC (E 11) (E 1 24)) (hC : SC E M 1 r) (hW : WR E r) (h37 : r 37 ≤ 1999999000) (hQ : ∀ M' : Mem, IX M' → (edA E r p1 = -2 → M' 14 p1 = -1) → Q (edA E r p1) M') : qX11_ends p1 M Q := by
  have el : (M 155 16).toNat = 187 ∨ (M 155 16).toNat = 192 := hI.l16
  have e5 := hS.eb.2.2
  unfold edA at hQ
  unfold qX11_ends
  refine gX6_isMourner hC ?_
  intro x1 h1 _ _
  refine ⟨fun c => ?_, fun c => by have := hQ M hI (fun q => by rw [if_neg (by omega)] at q; exact absurd q (by decide)); rw [if_neg (by omega)] at this; exact this⟩
  have hp : 0 ≤ p1 ∧ p1 < E 1 5 := by omega
  rw [if_pos hp] at hQ
  refine gX6_copyFrom hI (show isS 8 by decide) (show isS 1 by decide) (by decide) ?_
  intro M2 i2 k2 s2 _
  refine fmX10_forgetTallies (sX10_forgetTallies i2 (Q := fun M' => IX M') (fun _ h => h)) ?_
  intro M3 k23 i3
  have k3 : Ks (fun k _ => (8 ≤ k ∧ k ≤ 14) ∨ (160 ≤ k ∧ k ≤ 162)) M M3 := (k2.mono (by intro k j h; omega)).tr (k23.mono (by intro k j h; omega))
  have g16 : M3 155 16 = M 155 16 := k3 155 16 (by omega)
  have S3 : STR E M3 := hS.fr (k3 _ _ (by omega)) (k3 _ _ (by omega)) (k3 _ _ (by omega)) (fun j => k3 159 j (by omega))
  have L3 : LAW E M3 (M3 155 16).toNat := by rw [g16]; exact hL.fr (k3 _ _ (by omega)) (k3 _ _ (by omega)) (fun j => k3 _ j (by omega)) (fun j => k3 _ j (by omega))
  refine ⟨201, gX11_ends_L33 (E := E) (r := r) (M0 := M3) (T := edF E r p1 201 0) hp i3 S3 L3 hw hW h37 ?_ 201 0 M3 i3 Ks.rf ((s2 E r hC).fr (fun i j hi => k23 _ j (by omega))) rfl (by omega)⟩
  intro v M4 i4 c4 hv hT
  have W := WR.it hS.eb hW v.toNat
  have w := W.2.2.1 p1 hp.1 hp.2
  have c2 : M4 (8 + 6) p1 = itF E v.toNat r (29 + p1) := c4.2.2.2.2.2.2.2.2.1 p1 hp.1 (by omega)
  unfold qX11_ends_J72
  refine gX6_hasEnded (k0 := 8) (by omega) ?_
  intro x6 h6 _ _
  rw [c2] at h6
  refine ⟨fun d => ?_, fun d => ?_⟩
  · refine ⟨⟨by omega, by omega⟩, by omega, by omega, ?_⟩
    intro x17 _ _
    refine tell2 i4 ?_
    intro M18 i18 k18 x19 e19 _
    have := hQ M18 i18 (fun q => by omega)
    rw [show edF E r p1 201 0 = itF E v.toNat r (29 + p1) from by omega, ← c2] at this
    rw [e19, show M18 14 p1 = M4 (8 + 6) p1 from k18 14 p1 (by omega)]
    exact this
  · have := hQ M4 i4 (fun _ => by rw [show M4 14 p1 = M4 (8 + 6) p1 from rfl, c2]; omega)
    rw [show edF E r p1 201 0 = -2 from by omega] at this
    exact this
theorem edF_b2 {E : Mem} {r : Int → Int} {m : Int} : ∀ (n : Nat) (v : Int), -2 ≤ edF E r m n v := by
  intro n
  induction n with
  | zero => intro v; unfold edF; decide
  | succ n ih =>
    intro v
    unfold edF
    split
    · omega
    · exact ih _
theorem edA_b2 {E : Mem} {r : Int → Int} {m : Int} : -2 ≤ edA E r m := by
  unfold edA
  split
  · exact edF_b2 _ _
  · decide
theorem Cn_ends (k : Nat) (MX MM : Mem) (y1 : Int) (hy1 : iR y1) (hk : k < 512) (hMX : MR MX) (hMM : MR MM) (hR : Rel k MX MM) : qX11_ends y1 MX (fun z MX1 => qX12_ends y1 MM (fun b MM1 => z = b ∧ (-2 ≤ z ∧ (z = -2 → MX1 14 y1 = -1)) ∧ Rel (k + 1) MX1 MM1)) := by
  have S := hR.S
  have r37 := hR.r37 hk
  have h37 : (cr (MM 5) (MM 6)) 37 ≤ 1999999000 := by rw [cr_i (by decide) (by decide)]; omega
  have C := S.2.2.1.cr hR.E0 (g := MM 6)
  have W := S.2.2.2.1.cr hR.E0 (g := MM 6)
  refine fmX11_ends (gX11_endsN (E := cut MM) (r := (cr (MM 5) (MM 6))) (p1 := y1) hR.1 S.1 S.2.1 hR.W C W h37 (Q := fun z M' => z = edA (cut MM) (cr (MM 5) (MM 6)) y1 ∧ IX M' ∧ (z = -2 → M' 14 y1 = -1)) (fun M' i n => ⟨rfl, i, n⟩)) ?_
  intro z MX1 fX hX
  refine fmX12_ends (gX12_ends (E := cut MM) (p1 := y1) hR.2.1 (cut_CE MM) hR.E0 (by omega) (Q := fun z M' => z = edA (cut MM) (cr (MM 5) (MM 6)) y1 ∧ IM (60000 * (k : Int) + 401) M') (fun M' i => ⟨rfl, i.mono (by omega)⟩)) ?_
  intro b MM1 fM hM
  exact ⟨by rw [hX.1, hM.1], ⟨by rw [hX.1]; exact edA_b2, hX.2.2⟩, hR.q hX.2.1 hM.2 (by omega) (fX 156 1 (by first | omega | exact fun h => h)) (fM 1 14 (by first | omega | exact fun h => h)) (fX 182 2 (by first | omega | exact fun h => h)) (fM 1 45 (by first | omega | exact fun h => h)) (fun j => fX 157 j (by first | omega | exact fun h => h)) (fun j => fM 7 j (by first | omega | exact fun h => h)) (fun j => ⟨fX 183 j (by first | omega | exact fun h => h), fX 184 j (by first | omega | exact fun h => h), fM 26 j (by first | omega | exact fun h => h), fM 27 j (by first | omega | exact fun h => h)⟩) (fun k j q => fX k j (by first | omega | exact fun h => h)) (fun k j q => fM k j (by first | omega | exact fun h => h))⟩
/-- no corner stands beyond the avenue -/
def CNR (M : Mem) : Prop := ∀ c : Nat, c < 32 → bt (iI (M 158 2)) c = true → (c : Int) < M 158 1
theorem CNR.fr {M M' : Mem} (h : CNR M) (e1 : M' 158 1 = M 158 1) (e2 : M' 158 2 = M 158 2) : CNR M' := by
  intro c hc hb
  rw [e2] at hb
  rw [e1]
  exact h c hc hb
theorem Cn_avenue (k : Nat) (MX MM : Mem)  (hk : k < 512) (hMX : MR MX) (hMM : MR MM) (hR : Rel k MX MM) (hN : CNR MX) : qX11_avenue  MX (fun z MX1 => qX12_avenue  MM (fun b MM1 => z = b ∧ CNR MX1 ∧ Rel (k + 1) MX1 MM1)) := by
  refine fmX11_avenue (gX11_avenueC hR.1 (Q := fun z M' => ∃ q, z = avz (MX 156 1) q ∧ IX M' ∧ AV (MX 157) (MX 156 1) q ∧ M' 156 1 = 0 ∧ (q = MX 156 1 ∧ 4 ≤ q → Ks kAv MX M' ∧ M' 158 1 = MX 156 1 ∧ (∀ c : Nat, c < 32 → (bt (iI (M' 158 2)) c = true ↔ (c : Int) < MX 156 1 ∧ MX 157 c = 99)) ∧ M' 163 2 = 0 ∧ (∀ i, 0 ≤ i → i < 3 → M' 166 i = 0) ∧ M' 1 6 = 0 ∧ M' 1 7 = 0 ∧ M' 1 8 = 0 ∧ M' 1 9 = 0 ∧ M' 1 10 = 0) ∧ (¬ (q = MX 156 1 ∧ 4 ≤ q) → Ks (fun k j => k = 156 ∧ j = 1) MX M')) (fun q M' i a l y n => ⟨q, rfl, i, a, l, y, n⟩)) ?_
  intro z MX1 fX hX
  obtain ⟨q, ez, iX, aX, lX, yX, nX⟩ := hX
  refine fmX12_avenue (gX12_avenueC hR.2.1 (by omega) (Q := fun z M' => ∃ q, z = avz (MM 1 14) q ∧ IM (60000 * (k : Int) + 1) M' ∧ AV (MM 7) (MM 1 14) q ∧ M' 1 14 = 0 ∧ (q = MM 1 14 ∧ 4 ≤ q → FrJ kAw MM M' ∧ M' 1 3 = MM 1 14 ∧ (∀ i, 0 ≤ i → i < MM 1 14 → (M' 2 i = 0 ↔ MM 7 i ≠ 99)) ∧ M' 1 4 = 0 ∧ M' 1 5 = 0 ∧ M' 5 = up (up (MM 5) 12 0) 37 0 ∧ M' 1 28 = 0 ∧ (∀ i, 0 ≤ i → i < 3 → M' 29 i = 0)) ∧ (¬ (q = MM 1 14 ∧ 4 ≤ q) → FrJ (fun k j => k = 8 ∨ (k = 1 ∧ (j = 0 ∨ j = 14 ∨ j = 15 ∨ j = 16 ∨ j = 17))) MM M')) (fun q M' i a l y n => ⟨q, rfl, i, a, l, y, n⟩)) ?_
  intro b MM1 fM hM
  obtain ⟨q2, eb, iM, aM, lM, yM, nM⟩ := hM
  have e := hR.2.2.1
  rw [← e] at eb aM yM nM
  have eq := aX.uq aM hR.2.2.2.2.1
  subst eq
  have hF : FOLS MM1 := by
    by_cases c : q = MX 156 1 ∧ 4 ≤ q
    · obtain ⟨m0, m1, m2, m3, m4, m5, m6, m7⟩ := yM c
      exact FOLS.z m4
    · exact hR.F.fr (fun k j h => nM c k j (by omega))
  have hcn : CNR MX1 := by
    by_cases c : q = MX 156 1 ∧ 4 ≤ q
    · obtain ⟨x0, x1, x2, _⟩ := yX c
      intro i hi hb
      rw [x1]
      exact ((x2 i hi).mp hb).1
    · exact hN.fr (nX c 158 1 (by omega)) (nX c 158 2 (by omega))
  refine ⟨by rw [ez, eb], hcn, hR.t iX iM (by omega) lX lM (fX 182 2 (by omega)) (fM 1 45 (by omega)) (fun j => ⟨fX 183 j (by omega), fX 184 j (by omega), fM 26 j (by omega), fM 27 j (by omega)⟩) hF ?_⟩
  by_cases c : q = MX 156 1 ∧ 4 ≤ q
  · obtain ⟨x0, x1, x2, x3, x4, x5, x6, x7, x8, x9⟩ := yX c
    obtain ⟨m0, m1, m2, m3, m4, m5, m6, m7⟩ := yM c
    have ck : ∀ (k : Nat) (j : Int), cE k j → k ≠ 2 → ¬ (k = 1 ∧ (j = 3 ∨ j = 4 ∨ j = 5)) → cut MM1 k j = cut MM k j := by
      intro k j h1 h2 h3
      rw [cut_p h1, cut_p h1]
      exact m0 k j (by omega)
    have a30 := aX.1
    refine hR.S.avenue hR.1 (len := MX 156 1) (f := MX 157) (by omega) (by rw [cut13]; exact m1) (by rw [cut14]; exact m3) (by rw [cut15]; exact m4) (ck 1 7 (by omega) (by decide) (by omega)) (ck 1 24 (by omega) (by decide) (by omega)) (fun i p q => ?_) (funext fun j => ck 3 j (by omega) (by decide) (by omega)) (funext fun j => ck 4 j (by omega) (by decide) (by omega)) (funext fun j => ck 11 j (by omega) (by decide) (by omega)) x0 x1 x2 x3 x4 x5 x6 x7 x8 x9 m5 m6 m7
    rw [cut2, hR.2.2.2.2.1 i p q]
    exact m2 i p q
  · have x0 := nX c
    have m0 := nM c
    rw [cut_of (M0 := MM) (fun k j h => m0 k j (by omega))]
    exact hR.S.fr hR.E0 hR.1 (fun k j q => x0 k j (by omega)) (fun k j q => m0 k j (by omega))
theorem gX11_hourN {M E : Mem} {r : Int → Int} {Q : Int → Mem → Prop} (hI : IX M) (hS : STR E M) (hL : LAW E M (M 155 16).toNat) (hw : WFC (E 11) (E 1 24)) (hC : SC E M 1 r) (hW : WR E r) (h37 : r 37 ≤ 1999990000) (hQ1 : hfz (M 157) (M 156 1) = -1 → ∀ M' : Mem, IX M' → M' 167 1 = 2 → WR E (hGO E (M 157) (M 156 1) r).2.2 → (0 < (hGO E (M 157) (M 156 1) r).1 → CACT E M M' r (hGO E (M 157) (M 156 1) r).2.2) → (¬ 0 < (hGO E (M 157) (M 156 1) r).1 → CNOP E M M' r) → Q (hGO E (M 157) (M 156 1) r).1 M') (hQ2 : hfz (M 157) (M 156 1) ≠ -1 → ∀ M' : Mem, IX M' → M' 167 1 = M 167 1 → CNOP E M M' r → Q (-1 - hfz (M 157) (M 156 1)) M') : qX11_hour M Q := by
  have bL := bx_c156_1.mp (hI.bx 156 1)
  have el : (M 155 16).toNat = 187 ∨ (M 155 16).toNat = 192 := hI.l16
  have hb := hfz_b (f := M 157) bL.1
  unfold qX11_hour
  refine gX11_hourFault hI ?_
  intro M1 i1 k1 _
  have C1 : SC E M1 1 r := hC.fr (fun i j hi => k1 _ j (by omega))
  refine gX6_copyFrom i1 (show isS 22 by decide) (show isS 1 by decide) (by decide) ?_
  intro M2 i2 k2 s2 _
  refine gX9_open (p1 := 60) i2 (by decide) ?_
  intro M3 i3 k3 a3 t3
  rw [k2 156 1 (by omega), k1 156 1 (by omega)] at t3
  have K3 : Ks (fun k j => (22 ≤ k ∧ k ≤ 28) ∨ (k = 156 ∧ (j = 2 ∨ j = 3))) M M3 := ((k1.mono (by intro k j h; omega)).tr (k2.mono (by intro k j h; omega))).tr (k3.mono (by intro k j h; omega))
  have s3 : SC E M3 22 r := (s2 E r C1).fr (fun i j hi => k3 _ j (by omega))
  have C3 : SC E M3 1 r := hC.fr (fun i j hi => K3 _ j (by omega))
  by_cases hf : hfz (M 157) (M 156 1) = -1
  · rw [hf]
    have g157 : M3 157 = M 157 := funext fun j => K3 157 j (by omega)
    have g16 : M3 155 16 = M 155 16 := K3 155 16 (by omega)
    have S3 : STR E M3 := hS.fr (K3 _ _ (by omega)) (K3 _ _ (by omega)) (K3 _ _ (by omega)) (fun j => K3 159 j (by omega))
    have L3 : LAW E M3 (M3 155 16).toNat := by rw [g16]; exact hL.fr (K3 _ _ (by omega)) (K3 _ _ (by omega)) (fun j => K3 _ j (by omega)) (fun j => K3 _ j (by omega))
    have hd1 : (hrd (M3 157) (M3 156 3) 31 (M3 156 2)).1 = 1 := by
      rw [g157, t3, a3]
      unfold hfz hRD at hf
      by_cases c : (hrd (M 157) (min (M 156 1) 60) 31 0).1 = 1 ∧ M 156 1 ≤ (hrd (M 157) (min (M 156 1) 60) 31 0).2
      · exact c.1
      · rw [if_neg c] at hf
        have b := hRD_b (f := M 157) bL.1
        unfold hRD at b
        omega
    have eG : hrG E (M3 157) (M3 156 3) 31 (M3 156 2) r = hGO E (M 157) (M 156 1) r := by rw [g157, t3, a3]; rfl
    have gb := hrG_b (E := E) (f := M 157) (t := min (M 156 1) 60) 31 0 r
    have gb' : 0 ≤ (hGO E (M 157) (M 156 1) r).1 ∧ (hGO E (M 157) (M 156 1) r).1 ≤ ((31 : Nat) : Int) ∧ ((hGO E (M 157) (M 156 1) r).1 = 0 → (hGO E (M 157) (M 156 1) r).2.2 = r) := gb
    refine ⟨32, gX11_hour_L32 (M0 := M3) (E := E) (T := hGO E (M 157) (M 156 1) r) i3 S3 L3 hw (by omega) ?_ 31 0 0 M3 r i3 Ks.rf C3 hW hd1 (by rw [eG]; omega) (by rw [eG]) (by omega) (by omega) (by omega) (by omega) (by omega)⟩
    intro M4 i4 k4 c4 w4
    rw [g16] at k4
    unfold qX11_hour_J92
    unfold qX9_clear
    intro M18 h18
    have i18 : IX M18 := by rw [h18]; exact i4.up (by decide) (bx_c156_1.mpr (by decide))
    refine ⟨by decide, ⟨fun _ => ⟨⟨by omega, by omega⟩, ?_⟩, fun q => absurd rfl q⟩⟩
    have K18 : Ks (fun k j => kDo (M 155 16).toNat k j ∨ (22 ≤ k ∧ k ≤ 28) ∨ (k = 156 ∧ (j = 1 ∨ j = 2 ∨ j = 3))) M M18 := by
      rw [h18]
      exact ((K3.mono (by intro k j h; omega)).tr (k4.mono (by intro k j h; exact Or.inl h))).wr (by omega)
    have c18 : SC E M18 1 (hGO E (M 157) (M 156 1) r).2.2 := c4.fr (fun i j hi => by rw [h18, up2_n (by omega)])
    have s18 : SC E M18 22 r := s3.fr (fun i j hi => by rw [h18, up2_n (by omega)]; exact k4 _ j (by omega))
    -- what is told
    have TELL : ∀ (t0 : Int) (M5 : Mem), (t0 = 0 ∨ t0 = 1) → IX M5 → (∀ M' : Mem, IX M' → M' 167 1 = 2 → Ks (fun k j => k = 0 ∨ (k = 167 ∧ (j = 1))) M5 M' → Q (hGO E (M 157) (M 156 1) r).1 M') → qX11_hour_J136 Q (hGO E (M 157) (M 156 1) r).1 t0 M5 := by
      intro t0 M5 h0 i5 hq
      unfold qX11_hour_J136
      intro x25 e25 _
      refine ⟨⟨by omega, by omega⟩, ?_⟩
      refine fmX4_tellTwo (cmX4_tellTwo (sX4_tellTwo (p1 := t0) (p3 := x25) i5 (Q := fun M' => IX M') (fun _ h => h)) (fun M' a q => (And.intro a q))) ?_
      intro M27 k27 q27
      exact ⟨⟨by omega, by omega⟩, hq M27 q27.2 q27.1 k27⟩
    have J123 : ∀ (v3 : Int) (M5 : Mem), (v3 = 0 ∨ v3 = 1) → IX M5 → (∀ M' : Mem, IX M' → M' 167 1 = 2 → Ks (fun k j => k = 0 ∨ (k = 167 ∧ (j = 1))) M5 M' → Q (hGO E (M 157) (M 156 1) r).1 M') → qX11_hour_J123 Q (hGO E (M 157) (M 156 1) r).1 v3 M5 := by
      intro v3 M5 h0 i5 hq
      unfold qX11_hour_J123
      exact ⟨⟨by omega, by omega⟩, ⟨fun _ => TELL 0 M5 (Or.inl rfl) i5 hq, fun _ => TELL 1 M5 (Or.inr rfl) i5 hq⟩⟩
    have hv3 : (hGO E (M 157) (M 156 1) r).2.1 = 0 ∨ (hGO E (M 157) (M 156 1) r).2.1 = 1 := hrG_f 31 0 r
    refine ⟨fun c => ?_, fun c => ?_⟩
    · refine J123 _ M18 hv3 i18 ?_
      intro M' i' c' k'
      have e0 : (hGO E (M 157) (M 156 1) r).1 = 0 := by omega
      refine hQ1 hf M' i' c' w4 (fun q => absurd q (by omega)) (fun _ => ⟨fun k j h h2 => ?_, ?_⟩)
      · rw [k' k j (by omega), K18 k j (by omega)]
      · rw [gb'.2.2 e0] at c18
        exact c18.fr (fun i j hi => k' _ j (by omega))
    · refine gX1_add i18 (show isS 22 by decide) (by decide) ?_
      intro M29 i29 k29 a29
      refine J123 _ M29 hv3 i29 ?_
      intro M' i' c' k'
      refine hQ1 hf M' i' c' w4 (fun _ => ⟨fun k j h h2 h3 => ?_, ?_, M18, ?_, s18, ?_⟩) (fun q => absurd (show 0 < (hGO E (M 157) (M 156 1) r).1 by omega) q)
      · rw [k' k j (by omega), k29 k j h3, K18 k j (by omega)]
      · exact (c18.fr (M' := M29) (fun i j hi => k29 _ j (by omega))).fr (fun i j hi => k' _ j (by omega))
      · intro k j h
        exact K18 k j (by omega)
      · obtain ⟨u1, u2, u3⟩ := a29
        refine ⟨fun E' r' hs => (u1 E' r' hs).fr (fun i j hi => k' _ j (by omega)), fun s i j h0 h1 h2 h3 => ?_, ?_⟩
        · rw [k' _ j (by omega)]
          exact u2 s i j h0 h1 h2 h3
        · rw [k' 163 1 (by omega), k' 163 2 (by omega)]
          exact u3
  · refine ⟨1, ?_⟩
    rw [qX11_hour_L32]
    have FIN : qX11_hour_J92 Q (hfz (M 157) (M 156 1)) 0 0 M3 := by
      unfold qX11_hour_J92
      unfold qX9_clear
      intro M18 h18
      have i18 : IX M18 := by rw [h18]; exact i3.up (by decide) (bx_c156_1.mpr (by decide))
      refine ⟨⟨by omega, by omega⟩, ⟨fun q => absurd q hf, fun _ => ⟨⟨by omega, by omega⟩, ?_⟩⟩⟩
      refine hQ2 hf M18 i18 (by rw [h18, up2_n (by decide)]; exact K3 167 1 (by omega)) ⟨fun k j h h2 => ?_, ?_⟩
      · rw [h18, up2_n (by omega)]
        exact K3 k j (by omega)
      · exact C3.fr (fun i j hi => by rw [h18, up2_n (by omega)])
    exact ⟨by decide, ⟨fun _ => FIN, fun _ => ⟨⟨by omega, by omega⟩, ⟨fun _ => FIN, fun q => absurd q hf⟩⟩⟩⟩
theorem Rn_hour (k : Nat) (MX MM : Mem)  (hk : k < 512) (hMX : MR MX) (hMM : MR MM) (hR : Rel k MX MM) : qX11_hour  MX (fun z MX1 => qX12_hour  MM (fun b MM1 => z = b ∧ (MX1 167 1 = 2 ∧ 0 ≤ z ∨ MX1 167 1 = MX 167 1 ∧ z < 0) ∧ Rel (k + 1) MX1 MM1)) := by
  have bZ := hfz_b (f := MM 7) (bm_c1_14.mp (hR.2.1.bx 1 14)).1
  have bG := hrG_b (E := cut MM) (f := MM 7) (t := min (MM 1 14) 60) 31 0 (MM 5)
  have bG : 0 ≤ (hGO (cut MM) (MM 7) (MM 1 14) (MM 5)).1 := bG.1
  have S := hR.S
  have r37 := hR.r37 hk
  have e := hR.2.2.1
  have eZ : hfz (MX 157) (MX 156 1) = hfz (MM 7) (MM 1 14) := by
    rw [e]
    exact hfz_cg (fun j p q => hR.2.2.2.2.1 j p (by omega))
  have eG' : hGO (cut MM) (MX 157) (MX 156 1) (MM 5) = (hGO (cut MM) (MM 7) (MM 1 14) (MM 5)) := by
    rw [e]
    exact hGO_cg (fun j p q => hR.2.2.2.2.1 j p (by omega))
  refine fmX11_hour (fzX11_hour (gX11_hourN (E := cut MM) (r := MM 5) hR.1 S.1 S.2.1 hR.W S.2.2.1 S.2.2.2.1 r37 (Q := fun z M' => IX M' ∧ (hfz (MM 7) (MM 1 14) = -1 → M' 167 1 = 2 ∧ z = (hGO (cut MM) (MM 7) (MM 1 14) (MM 5)).1 ∧ WR (cut MM) (hGO (cut MM) (MM 7) (MM 1 14) (MM 5)).2.2 ∧ (0 < (hGO (cut MM) (MM 7) (MM 1 14) (MM 5)).1 → CACT (cut MM) MX M' (MM 5) (hGO (cut MM) (MM 7) (MM 1 14) (MM 5)).2.2) ∧ (¬ 0 < (hGO (cut MM) (MM 7) (MM 1 14) (MM 5)).1 → CNOP (cut MM) MX M' (MM 5))) ∧ (hfz (MM 7) (MM 1 14) ≠ -1 → M' 167 1 = MX 167 1 ∧ z = -1 - hfz (MM 7) (MM 1 14) ∧ CNOP (cut MM) MX M' (MM 5))) (fun c M' i ct wr a n => by rw [eZ] at c; rw [eG'] at wr a n ⊢; exact ⟨i, fun _ => ⟨ct, rfl, wr, a, n⟩, fun q => absurd c q⟩) (fun c M' i ct n => by rw [eZ] at c ⊢; exact ⟨i, fun q => absurd q c, fun _ => ⟨ct, rfl, n⟩⟩)) (Q' := fun z M' => M' 156 1 = 0 ∧ IX M' ∧ (hfz (MM 7) (MM 1 14) = -1 → M' 167 1 = 2 ∧ z = (hGO (cut MM) (MM 7) (MM 1 14) (MM 5)).1 ∧ WR (cut MM) (hGO (cut MM) (MM 7) (MM 1 14) (MM 5)).2.2 ∧ (0 < (hGO (cut MM) (MM 7) (MM 1 14) (MM 5)).1 → CACT (cut MM) MX M' (MM 5) (hGO (cut MM) (MM 7) (MM 1 14) (MM 5)).2.2) ∧ (¬ 0 < (hGO (cut MM) (MM 7) (MM 1 14) (MM 5)).1 → CNOP (cut MM) MX M' (MM 5))) ∧ (hfz (MM 7) (MM 1 14) ≠ -1 → M' 167 1 = MX 167 1 ∧ z = -1 - hfz (MM 7) (MM 1 14) ∧ CNOP (cut MM) MX M' (MM 5))) (fun _ M' z h => ⟨z, h⟩)) ?_
  intro z MX1 fX hX
  obtain ⟨lX, iX, yX, nX⟩ := hX
  refine fmX12_hour (fzX12_hour (gX12_hour (E := cut MM) hR.2.1 (cut_CE MM) hR.E0 S.2.2.2.1 hR.own (by omega) (Q := fun z M' => IM (60000 * (k : Int) + 300) M' ∧ (hfz (MM 7) (MM 1 14) = -1 → z = (hGO (cut MM) (MM 7) (MM 1 14) (MM 5)).1 ∧ (0 < (hGO (cut MM) (MM 7) (MM 1 14) (MM 5)).1 → RACT MM M' (hGO (cut MM) (MM 7) (MM 1 14) (MM 5)).2.2) ∧ (¬ 0 < (hGO (cut MM) (MM 7) (MM 1 14) (MM 5)).1 → RNOP MM M')) ∧ (hfz (MM 7) (MM 1 14) ≠ -1 → z = -1 - hfz (MM 7) (MM 1 14) ∧ RNOP MM M')) (fun c M' i a n => ⟨i, fun _ => ⟨rfl, a, n⟩, fun q => absurd c q⟩) (fun c M' i n => ⟨i, fun q => absurd q c, fun _ => ⟨rfl, n⟩⟩)) (Q' := fun z M' => M' 1 14 = 0 ∧ IM (60000 * (k : Int) + 300) M' ∧ (hfz (MM 7) (MM 1 14) = -1 → z = (hGO (cut MM) (MM 7) (MM 1 14) (MM 5)).1 ∧ (0 < (hGO (cut MM) (MM 7) (MM 1 14) (MM 5)).1 → RACT MM M' (hGO (cut MM) (MM 7) (MM 1 14) (MM 5)).2.2) ∧ (¬ 0 < (hGO (cut MM) (MM 7) (MM 1 14) (MM 5)).1 → RNOP MM M')) ∧ (hfz (MM 7) (MM 1 14) ≠ -1 → z = -1 - hfz (MM 7) (MM 1 14) ∧ RNOP MM M')) (fun _ M' z h => ⟨z, h⟩)) ?_
  intro b MM1 fM hM
  obtain ⟨lM, iM, yM, nM⟩ := hM
  have ec : cut MM1 = cut MM := cut_of (fun k j h => fM k j (by omega))
  have fin : z = b → (MX1 167 1 = 2 ∧ 0 ≤ z ∨ MX1 167 1 = MX 167 1 ∧ z < 0) → FOLS MM1 → STA (cut MM) MX1 MM1 → z = b ∧ (MX1 167 1 = 2 ∧ 0 ≤ z ∨ MX1 167 1 = MX 167 1 ∧ z < 0) ∧ Rel (k + 1) MX1 MM1 := fun q ct hF s => ⟨q, ct, hR.t iX iM (by omega) lX lM (fX 182 2 (by omega)) (fM 1 45 (by omega)) (fun j => ⟨fX 183 j (by omega), fX 184 j (by omega), fM 26 j (by omega), fM 27 j (by omega)⟩) hF (by rw [ec]; exact s)⟩
  by_cases c : hfz (MM 7) (MM 1 14) = -1
  · obtain ⟨cX, ez, wr, aX, oX⟩ := yX c
    obtain ⟨eb, aM, oM⟩ := yM c
    by_cases d : 0 < (hGO (cut MM) (MM 7) (MM 1 14) (MM 5)).1
    · exact fin (by rw [ez, eb]) (Or.inl ⟨cX, by omega⟩) (hR.F.act S hR.E0 (aM d) (fol_hr hR.E0 hR.own _ _ _ hR.f S.2.2.2.1)) (S.act hR.E0 hR.1 (aX d) (aM d) wr)
    · exact fin (by rw [ez, eb]) (Or.inl ⟨cX, by omega⟩) (hR.F.nop S hR.E0 (oM d)) (S.nop hR.E0 hR.1 (oX d) (oM d))
  · obtain ⟨cX, ez, aX⟩ := nX c
    obtain ⟨eb, aM⟩ := nM c
    exact fin (by rw [ez, eb]) (Or.inr ⟨cX, by omega⟩) (hR.F.nop S hR.E0 aM) (S.nop hR.E0 hR.1 aX aM)
theorem Cn_order (k : Nat) (MX MM : Mem)  (hk : k < 512) (hMX : MR MX) (hMM : MR MM) (hR : Rel k MX MM) : qX11_order  MX (fun z MX1 => qX12_order  MM (fun b MM1 => z = b ∧ MX1 179 2 = unF (cr (MM 5) (MM 6)) (eH (cut MM)) ∧ Rel (k + 1) MX1 MM1)) := by
  have S := hR.S
  have r37 := hR.r37 hk
  have h37 : (cr (MM 5) (MM 6)) 37 ≤ 1999990000 := by rw [cr_i (by decide) (by decide)]; omega
  have C := S.2.2.1.cr hR.E0 (g := MM 6)
  have W := S.2.2.2.1.cr hR.E0 (g := MM 6)
  have Fo : fol (cut MM) (cr (MM 5) (MM 6)) := hR.f.cg hR.E0 S.2.2.2.1 (fun j p q => cr_i p q)
  refine fmX11_order (gX11_order (E := cut MM) (r := (cr (MM 5) (MM 6))) hR.tb C W Fo (by omega) (Q := fun z M' => ODA (cut MM) (cr (MM 5) (MM 6)) z ∧ IX M' ∧ M' 179 2 = unF (cr (MM 5) (MM 6)) (eH (cut MM))) (fun z M' i h u => ⟨h, i, u⟩)) ?_
  intro z MX1 fX hX
  refine fmX12_order (gX12_order (E := cut MM) hR.2.1 (cut_CE MM) hR.own W (by omega) (Q := fun z M' => ODA (cut MM) (cr (MM 5) (MM 6)) z ∧ IM (60000 * (k : Int) + 200) M') (fun z M' i h => ⟨h, i⟩)) ?_
  intro b MM1 fM hM
  exact ⟨hX.1.uq hM.1, hX.2.2, hR.q hX.2.1 hM.2 (by omega) (fX 156 1 (by first | omega | exact fun h => h)) (fM 1 14 (by first | omega | exact fun h => h)) (fX 182 2 (by first | omega | exact fun h => h)) (fM 1 45 (by first | omega | exact fun h => h)) (fun j => fX 157 j (by first | omega | exact fun h => h)) (fun j => fM 7 j (by first | omega | exact fun h => h)) (fun j => ⟨fX 183 j (by first | omega | exact fun h => h), fX 184 j (by first | omega | exact fun h => h), fM 26 j (by first | omega | exact fun h => h), fM 27 j (by first | omega | exact fun h => h)⟩) (fun k j q => fX k j (by first | omega | exact fun h => h)) (fun k j q => fM k j (by first | omega | exact fun h => h))⟩
theorem unF_cg {r s : Int → Int} : ∀ n : Nat, (∀ i : Int, 0 ≤ i → i < n → r i = s i) → unF r n = unF s n := by
  intro n
  induction n with
  | zero => intro _; rfl
  | succ n ih =>
    intro h
    unfold unF
    rw [ih (fun i p q => h i p (by omega)), h n (by omega) (by omega)]
theorem cmX12_isOn {k0 : Nat} {p1 : Int} {M : Mem} {Q Q' : Int → Mem → Prop} (h : qX12_isOn k0 p1 M Q) (hQ : ∀ z : Int, (z = 1 ∧ 0 ≤ M k0 p1 ∨ z = 0 ∧ M k0 p1 < 0) → Q z M → Q' z M) : qX12_isOn k0 p1 M Q' := by
  unfold qX12_isOn at h ⊢
  obtain ⟨v1, v2, h3⟩ := h
  refine ⟨v1, v2, fun x3 e3 r3 => ?_⟩
  have h4 := h3 x3 e3 r3
  exact ⟨fun c => hQ _ (Or.inr ⟨rfl, by omega⟩) (h4.1 c), fun c => hQ _ (Or.inl ⟨rfl, by omega⟩) (h4.2 c)⟩
theorem cmX12_order_L23 {r5 : Int → Int} {H : Int} {Q Q' : Int → Mem → Prop} (hQ : ∀ (w0 : Int) (M' : Mem), M' 1 1 = unF r5 H.toNat → Q w0 M' → Q' w0 M') : ∀ (n : Nat) (v1 : Int) (M : Mem), M 5 = r5 → M 1 4 = H → (0 ≤ v1 ∧ (v1 = 0 ∨ v1 ≤ H)) → M 1 1 = unF r5 v1.toNat → qX12_order_L23 Q n v1 M → qX12_order_L23 Q' n v1 M := by
  intro n
  induction n with
  | zero => intro v1 M _ _ _ _ h; exact h.elim
  | succ n ih =>
    intro v1 M h5 h4 hv hc h
    rw [qX12_order_L23] at h
    rw [qX12_order_L23]
    intro x6 e6 r6
    have h7 := h x6 e6 r6
    refine ⟨h7.1, fun c => ?_, fun c => ?_⟩
    · intro x9 e9 r9
      exact hQ _ _ (by rw [hc, show v1.toNat = H.toNat from by omega]) (h7.2.1 c x9 e9 r9)
    · have us := unF_s (r := r5) hv.1
      refine cmX12_isOn (h7.2.2 c) ?_
      intro x10 hz h8 a10 b10
      rw [h5] at hz
      have h9 := h8 a10 b10
      refine ⟨fun d => ?_, fun d => ?_⟩
      · refine ih (v1 + 1) M h5 h4 (by omega) ?_ (h9.1 d)
        rw [us, if_pos (by omega), hc]
        omega
      · have h10 := h9.2 d
        refine ⟨h10.1, h10.2.1, fun x14 e14 r14 => ?_⟩
        have h11 := h10.2.2 x14 e14 r14
        refine fmX12_enters (cmX12_enters h11 (fun M' a q => (And.intro a q))) ?_
        intro M15 f15 q15
        refine ih (v1 + 1) M15 ?_ (by rw [f15 1 4 (by omega)]; exact h4) (by omega) ?_ q15.2
        · rw [← h5]
          exact funext fun j => f15 5 j (by omega)
        · rw [us, if_neg (by omega), q15.1, hc]
theorem cmX12_order {M : Mem} {Q Q' : Int → Mem → Prop} (h : qX12_order M Q) (hQ : ∀ (w0 : Int) (M' : Mem), M' 1 1 = unF (M 5) (M 1 4).toNat → Q w0 M' → Q' w0 M') : qX12_order M Q' := by
  unfold qX12_order at h ⊢
  intro M1 e1 M2 e2
  obtain ⟨d, hd, h3⟩ := h M1 e1 M2 e2
  refine ⟨d, hd, fmX12_places h3 ?_⟩
  intro M3 f3 h4 M5 e5
  obtain ⟨n, h5⟩ := h4 M5 e5
  have k2 : M2 5 = M 5 := by rw [e2, up2_n (by decide), e1, up2_n (by decide)]
  have k3 : M3 5 = M 5 := by rw [← k2]; exact funext fun j => f3 5 j (by omega)
  have g3 : M3 1 4 = M 1 4 := by rw [f3 1 4 (by omega), e2, up2_j (by decide), e1, up2_j (by decide)]
  refine ⟨n, cmX12_order_L23 (r5 := M 5) (H := M 1 4) hQ n 0 M5 ?_ ?_ (by omega) ?_ h5⟩
  · rw [e5, up2_n (by decide)]; exact k3
  · rw [e5, up2_j (by decide)]; exact g3
  · rw [e5, up2_s]; rfl
