/-! HOUR: acts are done -/
noncomputable def doA (E : Mem) (r : Int → Int) (P : Int × Int × Int × Int × Int) : Int := if P.2.2.1 = 110 then itF E P.2.2.2.1.toNat r 12 else if P.2.2.1 = 116 then tnA E r P.2.2.2.1 else if P.2.2.1 = 112 then psA E r P.2.2.2.1 P.2.2.2.2 else if P.2.2.1 = 98 then psA E r P.2.2.2.1 (-P.2.2.2.2) else swA E r P.2.2.2.1 P.2.2.2.2
noncomputable def doR (E : Mem) (r : Int → Int) (P : Int × Int × Int × Int × Int) : Int → Int := if P.2.2.1 = 110 then itF E P.2.2.2.1.toNat r else if P.2.2.1 = 116 then tnR E r P.2.2.2.1 else if P.2.2.1 = 112 then psR E r P.2.2.2.1 P.2.2.2.2 else if P.2.2.1 = 98 then psR E r P.2.2.2.1 (-P.2.2.2.2) else swR E r P.2.2.2.1 P.2.2.2.2
/-- what an act that can stand is -/
theorem prA_ok {f : Int → Int} {t a : Int} (h : (prA f t a).1 = 1) : (a < t ∧ sgn (f a)) ∧ dg1 f t a ∧ ((f a = 110 ∨ f a = 116) ∧ prA f t a = (1, a + 2, f a, f (a + 1) - 48, 0) ∨ ¬ (f a = 110 ∨ f a = 116) ∧ dg2 f t a ∧ prA f t a = (1, a + 3, f a, f (a + 1) - 48, f (a + 2) - 48)) := by
  by_cases c : a < t ∧ sgn (f a)
  · by_cases c1 : dg1 f t a
    · by_cases c2 : f a = 110 ∨ f a = 116
      · exact ⟨c, c1, Or.inl ⟨c2, prA_2 c c1 c2⟩⟩
      · by_cases c3 : dg2 f t a
        · exact ⟨c, c1, Or.inr ⟨c2, c3, prA_4 c c1 c2 c3⟩⟩
        · rw [prA_3 c c1 c2 c3] at h
          exact absurd h (by show ¬ (0 : Int) = 1; decide)
    · rw [prA_1 c c1] at h
      exact absurd h (by show ¬ (0 : Int) = 1; decide)
  · rw [prA_0 c] at h
    exact absurd h (by show ¬ (0 : Int) = 1; decide)
abbrev kDo (kl k : Nat) (j : Int) : Prop := (k = 156 ∧ j = 2) ∨ (1 ≤ k ∧ k ≤ 7) ∨ (160 ≤ k ∧ k ≤ 162) ∨ k = kl + 3 ∨ k = kl + 4
theorem gX11_doAct {M E : Mem} {r : Int → Int} {Q : Int → Mem → Prop} (hI : IX M) (hS : STR E M) (hL : LAW E M (M 155 16).toNat) (hw : WFC (E 11) (E 1 24)) (hC : SC E M 1 r) (hW : WR E r) (h37 : r 37 ≤ 1999999000) (h1 : (prA (M 157) (M 156 3) (M 156 2)).1 = 1) (hQ : ∀ M' : Mem, IX M' → Ks (kDo (M 155 16).toNat) M M' → M' 156 2 = (prA (M 157) (M 156 3) (M 156 2)).2.1 → SC E M' 1 (doR E r (prA (M 157) (M 156 3) (M 156 2))) → WR E (doR E r (prA (M 157) (M 156 3) (M 156 2))) → Q (doA E r (prA (M 157) (M 156 3) (M 156 2))) M') : qX11_doAct M Q := by
  obtain ⟨c0, c1, c2⟩ := prA_ok h1
  have el : (M 155 16).toNat = 187 ∨ (M 155 16).toNat = 192 := hI.l16
  have eb := hS.eb
  have is1 : isS 1 := by decide
  unfold qX11_doAct
  refine gX9_look hI ?_
  intro x1 p1 _
  have f1 : x1 = M 157 (M 156 2) := by rcases p1 with q | q <;> omega
  refine gX9_pass hI ?_
  intro M2 i2 k2 p2
  have a2 : M2 156 2 = M 156 2 + 1 := by rcases p2 with q | q <;> omega
  have g157 : M2 157 = M 157 := funext fun j => k2 157 j (by omega)
  have g3 : M2 156 3 = M 156 3 := k2 156 3 (by omega)
  refine gX9_digit i2 ?_
  intro x3 M3 i3 k3 p3 _
  rw [g157, g3, a2] at p3
  have w1 : M 156 2 + 1 < M 156 3 := c1.1
  have w2 := c1.2.1
  have w3 := c1.2.2
  have v3 : x3 = M 157 (M 156 2 + 1) - 48 ∧ M3 156 2 = M 156 2 + 2 := by
    rcases p3 with q | q
    · exact ⟨q.2.1, by omega⟩
    · exact absurd ⟨w1, w2, w3⟩ q.1
  have K3 : Ks kA M M3 := k2.tr k3
  have h157 : M3 157 = M 157 := funext fun j => K3 157 j (by omega)
  have h3 : M3 156 3 = M 156 3 := K3 156 3 (by omega)
  have S3 : STR E M3 := hS.fr (K3 _ _ (by omega)) (K3 _ _ (by omega)) (K3 _ _ (by omega)) (fun j => K3 159 j (by omega))
  have C3 : SC E M3 1 r := hC.fr (fun i j hi => K3 _ j (by omega))
  have KD : ∀ M' : Mem, Ks (kDo (M 155 16).toNat) M3 M' → Ks (kDo (M 155 16).toNat) M M' := fun M' h => (K3.mono (fun k j q => Or.inl q)).tr h
  have own : ∀ m, 0 ≤ m → m < E 1 5 → 0 ≤ E 3 m ∧ E 3 m < E 1 4 := hS.2.2.2.2.2.2.2.2
  have DIG : ¬ (M 157 (M 156 2) = 110 ∨ M 157 (M 156 2) = 116) → ∀ Q' : Int → Mem → Prop, (∀ M5 : Mem, IX M5 → Ks kA M3 M5 → M5 156 2 = M 156 2 + 3 → Q' (M 157 (M 156 2 + 2) - 48) M5) → qX9_digit M3 Q' := by
    intro hn Q' hq
    have d2 : dg2 (M 157) (M 156 3) (M 156 2) := by
      rcases c2 with q | q
      · exact absurd q.1 hn
      · exact q.2.1
    refine gX9_digit i3 ?_
    intro x5 M5 i5 k5 p5
    rw [h157, h3, v3.2] at p5
    rcases p5 with q | q
    · rw [q.2.1]
      exact hq M5 i5 k5 (by omega)
    · exact absurd ⟨d2.1, d2.2.2.1, d2.2.2.2⟩ q.1
  have E4 : ¬ (M 157 (M 156 2) = 110 ∨ M 157 (M 156 2) = 116) → prA (M 157) (M 156 3) (M 156 2) = (1, M 156 2 + 3, M 157 (M 156 2), M 157 (M 156 2 + 1) - 48, M 157 (M 156 2 + 2) - 48) := by
    intro hn
    rcases c2 with q | q
    · exact absurd q.1 hn
    · exact q.2.2
  have E2 : (M 157 (M 156 2) = 110 ∨ M 157 (M 156 2) = 116) → prA (M 157) (M 156 3) (M 156 2) = (1, M 156 2 + 2, M 157 (M 156 2), M 157 (M 156 2 + 1) - 48, 0) := by
    intro hn
    rcases c2 with q | q
    · exact q.2
    · exact absurd hn q.1
  refine ⟨fun d => ?_, fun d => ?_, fun d => ?_, fun d => ?_, fun d => ?_⟩
  · have hn : ¬ (M 157 (M 156 2) = 110 ∨ M 157 (M 156 2) = 116) := by omega
    rw [E4 hn] at hQ
    refine DIG hn _ ?_
    intro M5 i5 k5 a5 _
    have S5 : STR E M5 := S3.fr (k5 _ _ (by omega)) (k5 _ _ (by omega)) (k5 _ _ (by omega)) (fun j => k5 159 j (by omega))
    have C5 : SC E M5 1 r := C3.fr (fun i j hi => k5 _ j (by omega))
    have b5 := bx_c157.mp (hI.bx 157 (M 156 2 + 2))
    refine ⟨⟨by omega, by omega⟩, ?_⟩
    rw [v3.1]
    refine gX6_shove i5 is1 S5 C5 hW ?_
    intro M7 i7 k7 c7 _
    have v : doA E r (1, M 156 2 + 3, M 157 (M 156 2), M 157 (M 156 2 + 1) - 48, M 157 (M 156 2 + 2) - 48) = psA E r (M 157 (M 156 2 + 1) - 48) (-(M 157 (M 156 2 + 2) - 48)) := by
      show (if M 157 (M 156 2) = 110 then _ else if M 157 (M 156 2) = 116 then _ else if M 157 (M 156 2) = 112 then _ else if M 157 (M 156 2) = 98 then _ else _) = _
      rw [if_neg (by omega), if_neg (by omega), if_neg (by omega), if_pos (by omega)]
    have w : doR E r (1, M 156 2 + 3, M 157 (M 156 2), M 157 (M 156 2 + 1) - 48, M 157 (M 156 2 + 2) - 48) = psR E r (M 157 (M 156 2 + 1) - 48) (-(M 157 (M 156 2 + 2) - 48)) := by
      show (if M 157 (M 156 2) = 110 then _ else if M 157 (M 156 2) = 116 then _ else if M 157 (M 156 2) = 112 then _ else if M 157 (M 156 2) = 98 then _ else _) = _
      rw [if_neg (by omega), if_neg (by omega), if_neg (by omega), if_pos (by omega)]
    rw [v, w] at hQ
    exact hQ M7 i7 (KD M7 ((k5.mono (fun k j q => Or.inl q)).tr (k7.mono (by intro k j q; omega)))) (by rw [k7 156 2 (by omega)]; exact a5) c7 (hW.ps eb)
  · have hn : M 157 (M 156 2) = 110 ∨ M 157 (M 156 2) = 116 := by omega
    rw [E2 hn] at hQ
    have g16 : M3 155 16 = M 155 16 := K3 155 16 (by omega)
    have L3 : LAW E M3 (M 155 16).toNat := hL.fr (K3 _ _ (by omega)) (K3 _ _ (by omega)) (fun j => K3 _ j (by omega)) (fun j => K3 _ j (by omega))
    rw [g16]
    refine ⟨hI.l16, ?_⟩
    refine gX10_walk i3 is1 hI.l16 S3 L3 hw C3 hW h37 (by omega) ?_
    intro M9 i9 k9 c9 w9 x10 e10 _
    have v : doA E r (1, M 156 2 + 2, M 157 (M 156 2), M 157 (M 156 2 + 1) - 48, 0) = itF E x3.toNat r 12 := by
      show (if M 157 (M 156 2) = 110 then itF E (M 157 (M 156 2 + 1) - 48).toNat r 12 else _) = _
      rw [if_pos (by omega), ← v3.1]
    have w : doR E r (1, M 156 2 + 2, M 157 (M 156 2), M 157 (M 156 2 + 1) - 48, 0) = itF E x3.toNat r := by
      show (if M 157 (M 156 2) = 110 then itF E (M 157 (M 156 2 + 1) - 48).toNat r else _) = _
      rw [if_pos (by omega), ← v3.1]
    rw [v, w] at hQ
    have f10 : x10 = itF E x3.toNat r 12 := by rw [e10]; exact c9.2.2.2.2.1
    rw [f10]
    exact hQ M9 i9 (KD M9 (k9.mono (by intro k j q; omega))) (by rw [k9 156 2 (by unfold kAd; omega)]; exact v3.2) c9 w9
  · have hn : ¬ (M 157 (M 156 2) = 110 ∨ M 157 (M 156 2) = 116) := by omega
    rw [E4 hn] at hQ
    refine DIG hn _ ?_
    intro M5 i5 k5 a5 _
    have S5 : STR E M5 := S3.fr (k5 _ _ (by omega)) (k5 _ _ (by omega)) (k5 _ _ (by omega)) (fun j => k5 159 j (by omega))
    have C5 : SC E M5 1 r := C3.fr (fun i j hi => k5 _ j (by omega))
    rw [v3.1]
    refine gX6_shove i5 is1 S5 C5 hW ?_
    intro M7 i7 k7 c7 _
    have v : doA E r (1, M 156 2 + 3, M 157 (M 156 2), M 157 (M 156 2 + 1) - 48, M 157 (M 156 2 + 2) - 48) = psA E r (M 157 (M 156 2 + 1) - 48) (M 157 (M 156 2 + 2) - 48) := by
      show (if M 157 (M 156 2) = 110 then _ else if M 157 (M 156 2) = 116 then _ else if M 157 (M 156 2) = 112 then _ else _) = _
      rw [if_neg (by omega), if_neg (by omega), if_pos (by omega)]
    have w : doR E r (1, M 156 2 + 3, M 157 (M 156 2), M 157 (M 156 2 + 1) - 48, M 157 (M 156 2 + 2) - 48) = psR E r (M 157 (M 156 2 + 1) - 48) (M 157 (M 156 2 + 2) - 48) := by
      show (if M 157 (M 156 2) = 110 then _ else if M 157 (M 156 2) = 116 then _ else if M 157 (M 156 2) = 112 then _ else _) = _
      rw [if_neg (by omega), if_neg (by omega), if_pos (by omega)]
    rw [v, w] at hQ
    exact hQ M7 i7 (KD M7 ((k5.mono (fun k j q => Or.inl q)).tr (k7.mono (by intro k j q; omega)))) (by rw [k7 156 2 (by omega)]; exact a5) c7 (hW.ps eb)
  · have hn : M 157 (M 156 2) = 110 ∨ M 157 (M 156 2) = 116 := by omega
    rw [E2 hn] at hQ
    refine gX6_turn i3 is1 S3 C3 hW ?_
    intro M7 i7 k7 c7 _
    have v : doA E r (1, M 156 2 + 2, M 157 (M 156 2), M 157 (M 156 2 + 1) - 48, 0) = tnA E r x3 := by
      show (if M 157 (M 156 2) = 110 then _ else if M 157 (M 156 2) = 116 then tnA E r (M 157 (M 156 2 + 1) - 48) else _) = _
      rw [if_neg (by omega), if_pos (by omega), ← v3.1]
    have w : doR E r (1, M 156 2 + 2, M 157 (M 156 2), M 157 (M 156 2 + 1) - 48, 0) = tnR E r x3 := by
      show (if M 157 (M 156 2) = 110 then _ else if M 157 (M 156 2) = 116 then tnR E r (M 157 (M 156 2 + 1) - 48) else _) = _
      rw [if_neg (by omega), if_pos (by omega), ← v3.1]
    rw [v, w] at hQ
    exact hQ M7 i7 (KD M7 (k7.mono (by intro k j q; omega))) (by rw [k7 156 2 (by omega)]; exact v3.2) c7 (hW.tn eb own)
  · have hn : ¬ (M 157 (M 156 2) = 110 ∨ M 157 (M 156 2) = 116) := by omega
    rw [E4 hn] at hQ
    refine DIG hn _ ?_
    intro M5 i5 k5 a5 _
    have S5 : STR E M5 := S3.fr (k5 _ _ (by omega)) (k5 _ _ (by omega)) (k5 _ _ (by omega)) (fun j => k5 159 j (by omega))
    have C5 : SC E M5 1 r := C3.fr (fun i j hi => k5 _ j (by omega))
    rw [v3.1]
    refine gX6_exchange i5 is1 S5 C5 hW ?_
    intro M7 i7 k7 c7 _
    have v : doA E r (1, M 156 2 + 3, M 157 (M 156 2), M 157 (M 156 2 + 1) - 48, M 157 (M 156 2 + 2) - 48) = swA E r (M 157 (M 156 2 + 1) - 48) (M 157 (M 156 2 + 2) - 48) := by
      show (if M 157 (M 156 2) = 110 then _ else if M 157 (M 156 2) = 116 then _ else if M 157 (M 156 2) = 112 then _ else if M 157 (M 156 2) = 98 then _ else _) = _
      rw [if_neg (by omega), if_neg (by omega), if_neg (by omega), if_neg (by omega)]
    have w : doR E r (1, M 156 2 + 3, M 157 (M 156 2), M 157 (M 156 2 + 1) - 48, M 157 (M 156 2 + 2) - 48) = swR E r (M 157 (M 156 2 + 1) - 48) (M 157 (M 156 2 + 2) - 48) := by
      show (if M 157 (M 156 2) = 110 then _ else if M 157 (M 156 2) = 116 then _ else if M 157 (M 156 2) = 112 then _ else if M 157 (M 156 2) = 98 then _ else _) = _
      rw [if_neg (by omega), if_neg (by omega), if_neg (by omega), if_neg (by omega)]
    rw [v, w] at hQ
    exact hQ M7 i7 (KD M7 ((k5.mono (fun k j q => Or.inl q)).tr (k7.mono (by intro k j q; omega)))) (by rw [k7 156 2 (by omega)]; exact a5) c7 (hW.sw eb)
