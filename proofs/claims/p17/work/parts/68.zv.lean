/-! THE RELATION over the whole state -/
theorem dgC_cg {f g : Int → Int} {t : Int} (h : ∀ j, 0 ≤ j → j < t → f j = g j) : ∀ (p : Nat) (a : Int), 0 ≤ a → dgC f t p a = dgC g t p a := by
  intro p
  induction p with
  | zero => intro a _; rfl
  | succ p ih =>
    intro a ha
    unfold dgC
    by_cases c : a < t
    · rw [h a ha c, ih (a + 1) (by omega)]
    · rw [if_neg (fun q => c q.1), if_neg (fun q => c q.1)]
theorem nuZ_cg {f g : Int → Int} {t : Int} (h : ∀ j, 0 ≤ j → j < t → f j = g j) (p : Nat) {a : Int} (ha : 0 ≤ a) : nuZ f t p a = nuZ g t p a := by
  have e := dgC_cg h p a ha
  have c := dgC_c (f := g) (t := t) p a
  unfold nuZ
  rw [e, nmV_cg (f := f) (g := g) (dgC g t p a) (fun i p q => h _ (by omega) (c.2.1 i p q).1)]
theorem rd1_cg {f g : Int → Int} {t gg H : Int} {r : Int → Int} {a : Int} (h : ∀ j, 0 ≤ j → j < t → f j = g j) (ha : 0 ≤ a) : rd1 f t gg H r a = rd1 g t gg H r a := by
  unfold rd1
  rw [nuZ_cg h 2 ha, dgC_cg h 2 a ha]
theorem rdH_cg {f g : Int → Int} {t gg : Int} (h : ∀ j, 0 ≤ j → j < t → f j = g j) : ∀ (n : Nat) (H : Int) (r : Int → Int) (a : Int), 0 ≤ a → a ≤ t → rdH f t gg n H r a = rdH g t gg n H r a := by
  intro n
  induction n with
  | zero => intro H r a _ _; rfl
  | succ n ih =>
    intro H r a ha ht
    have b := (rd1_b (f := g) (t := t) (g := gg) (H := H) (r := r) ⟨ha, ht⟩).1
    unfold rdH
    rw [rd1_cg h ha]
    by_cases c : (rd1 g t gg H r a).2 < t
    · rw [h _ b.1 c]
      by_cases c3 : g (rd1 g t gg H r a).2 = 59
      · have e := ih (H + 1) (adH r H (rd1 g t gg H r a).1) ((rd1 g t gg H r a).2 + 1) (by omega) (by omega)
        rw [e]
      · have n3 : ¬ ((rd1 g t gg H r a).2 < t ∧ g (rd1 g t gg H r a).2 = 59) := fun q => c3 q.2
        rw [if_neg n3, if_neg n3]
    · rw [if_neg (c := (rd1 g t gg H r a).2 < t ∧ f (rd1 g t gg H r a).2 = 59) (fun q => c q.1), if_neg (c := (rd1 g t gg H r a).2 < t ∧ g (rd1 g t gg H r a).2 = 59) (fun q => c q.1)]
theorem rd2_cg {f g : Int → Int} {t gg H m a : Int} (h : ∀ j, 0 ≤ j → j < t → f j = g j) (ha : 0 ≤ a) : rd2 f t gg H m a = rd2 g t gg H m a := by
  unfold rd2
  rw [nuZ_cg h 2 ha, dgC_cg h 2 a ha]
  by_cases c : a + dgC g t 2 a < t
  · rw [h _ (by omega) c]
  · rw [if_neg (c := a + dgC g t 2 a < t ∧ 97 ≤ f (a + dgC g t 2 a) ∧ f (a + dgC g t 2 a) < 97 + H) (fun q => c q.1), if_neg (c := a + dgC g t 2 a < t ∧ 97 ≤ g (a + dgC g t 2 a) ∧ g (a + dgC g t 2 a) < 97 + H) (fun q => c q.1)]
theorem rdM_cg {f g : Int → Int} {t gg H : Int} (h : ∀ j, 0 ≤ j → j < t → f j = g j) : ∀ (n : Nat) (m : Int) (r w : Int → Int) (a : Int), 0 ≤ a → a ≤ t → rdM f t gg H n m r w a = rdM g t gg H n m r w a := by
  intro n
  induction n with
  | zero => intro m r w a _ _; rfl
  | succ n ih =>
    intro m r w a ha ht
    have b := (rd2_b (f := g) (t := t) (g := gg) (H := H) (m := m) ⟨ha, ht⟩).1
    unfold rdM
    rw [rd2_cg h ha]
    by_cases c : (rd2 g t gg H m a).2.2 < t
    · rw [h _ b.1 c]
      by_cases c3 : g (rd2 g t gg H m a).2.2 = 59
      · have e := ih (m + 1) (adM r m (rd2 g t gg H m a).1) (up w m (rd2 g t gg H m a).2.1) ((rd2 g t gg H m a).2.2 + 1) (by omega) (by omega)
        rw [e]
      · have n3 : ¬ ((rd2 g t gg H m a).2.2 < t ∧ g (rd2 g t gg H m a).2.2 = 59) := fun q => c3 q.2
        rw [if_neg n3, if_neg n3]
    · rw [if_neg (c := (rd2 g t gg H m a).2.2 < t ∧ f (rd2 g t gg H m a).2.2 = 59) (fun q => c q.1), if_neg (c := (rd2 g t gg H m a).2.2 < t ∧ g (rd2 g t gg H m a).2.2 = 59) (fun q => c q.1)]
/-- both in their boxes; the texts alike, as much heard; the two states are one -/
def Rel (k : Nat) (MX MM : Mem) : Prop := IX MX ∧ IM (60000 * (k : Int)) MM ∧ MX 156 1 = MM 1 14 ∧ MX 182 2 = MM 1 45 ∧ (∀ j, 0 ≤ j → j < MX 156 1 → MX 157 j = MM 7 j) ∧ STA (cut MM) MX MM ∧ FOLS MM ∧ HRD MX MM
theorem Rel_skip {k : Nat} {MX MM : Mem} (h : Rel k MX MM) : Rel (k + 1) MX MM := ⟨h.1, h.2.1.mono (by omega), h.2.2⟩
theorem Rel.S {k : Nat} {MX MM : Mem} (h : Rel k MX MM) : STA (cut MM) MX MM := h.2.2.2.2.2.1
theorem Rel.F {k : Nat} {MX MM : Mem} (h : Rel k MX MM) : FOLS MM := h.2.2.2.2.2.2.1
theorem Rel.H {k : Nat} {MX MM : Mem} (h : Rel k MX MM) : HRD MX MM := h.2.2.2.2.2.2.2
theorem Rel.f {k : Nat} {MX MM : Mem} (h : Rel k MX MM) : fol (cut MM) (MM 5) := h.F.1.e (cut15 MM)
theorem Rel.E0 {k : Nat} {MX MM : Mem} (h : Rel k MX MM) : EBx (cut MM) := cut_EB h.2.1
theorem Rel.W {k : Nat} {MX MM : Mem} (h : Rel k MX MM) : WFC (cut MM 11) (cut MM 1 24) := cut_W h.2.1
theorem Rel.own {k : Nat} {MX MM : Mem} (h : Rel k MX MM) : ∀ m, 0 ≤ m → m < cut MM 1 5 → 0 ≤ cut MM 3 m ∧ cut MM 3 m < cut MM 1 4 := h.S.1.2.2.2.2.2.2.2.2
theorem Rel.r37 {k : Nat} {MX MM : Mem} (h : Rel k MX MM) (hk : k < 512) : MM 5 37 ≤ 1999990000 := by
  have := ((bm_n (Or.inl rfl)).mp (h.2.1.bx 5 37)).2.2.2 rfl
  omega
/-- a question: what it writes is none of the state -/
theorem Rel.q {k : Nat} {MX MM MX1 MM1 : Mem} {b : Int} (h : Rel k MX MM) (iX : IX MX1) (iM : IM b MM1) (hb : b ≤ 60000 * ((k : Int) + 1)) (x1 : MX1 156 1 = MX 156 1) (m1 : MM1 1 14 = MM 1 14) (x2 : MX1 182 2 = MX 182 2) (m2 : MM1 1 45 = MM 1 45) (x3 : ∀ j, MX1 157 j = MX 157 j) (m3 : ∀ j, MM1 7 j = MM 7 j) (hh : ∀ j, MX1 183 j = MX 183 j ∧ MX1 184 j = MX 184 j ∧ MM1 26 j = MM 26 j ∧ MM1 27 j = MM 27 j) (hx : ∀ (k : Nat) (j : Int), stX k j → MX1 k j = MX k j) (hm : ∀ (k : Nat) (j : Int), stM k j → MM1 k j = MM k j) : Rel (k + 1) MX1 MM1 := by
  have ec : cut MM1 = cut MM := cut_of (fun k j c => hm k j (Or.inl c))
  refine ⟨iX, iM.mono (by omega), by rw [x1, m1]; exact h.2.2.1, by rw [x2, m2]; exact h.2.2.2.1, fun j a q => ?_, ?_, h.F.fr (fun k j c => hm k j (by omega)), h.H.fr x2 hh⟩
  · rw [x3, m3]
    exact h.2.2.2.2.1 j a (by rw [x1] at q; exact q)
  · rw [ec]
    exact h.S.fr h.E0 h.1 hx hm
/-- a call that changes the state, not the text -/
theorem Rel.s {k : Nat} {MX MM MX1 MM1 : Mem} {b : Int} (h : Rel k MX MM) (iX : IX MX1) (iM : IM b MM1) (hb : b ≤ 60000 * ((k : Int) + 1)) (x1 : MX1 156 1 = MX 156 1) (m1 : MM1 1 14 = MM 1 14) (x2 : MX1 182 2 = MX 182 2) (m2 : MM1 1 45 = MM 1 45) (x3 : ∀ j, MX1 157 j = MX 157 j) (m3 : ∀ j, MM1 7 j = MM 7 j) (hh : ∀ j, MX1 183 j = MX 183 j ∧ MX1 184 j = MX 184 j ∧ MM1 26 j = MM 26 j ∧ MM1 27 j = MM 27 j) (ec : ∀ (k : Nat) (j : Int), cE k j → MM1 k j = MM k j) (hF : FOLS MM1) (hS : STA (cut MM) MX1 MM1) : Rel (k + 1) MX1 MM1 := by
  refine ⟨iX, iM.mono (by omega), by rw [x1, m1]; exact h.2.2.1, by rw [x2, m2]; exact h.2.2.2.1, fun j a q => ?_, ?_, hF, h.H.fr x2 hh⟩
  · rw [x3, m3]
    exact h.2.2.2.2.1 j a (by rw [x1] at q; exact q)
  · rw [cut_of ec]
    exact hS
/-- a call that reads the text -/
theorem Rel.t {k : Nat} {MX MM MX1 MM1 : Mem} {b : Int} (h : Rel k MX MM) (iX : IX MX1) (iM : IM b MM1) (hb : b ≤ 60000 * ((k : Int) + 1)) (x1 : MX1 156 1 = 0) (m1 : MM1 1 14 = 0) (x2 : MX1 182 2 = MX 182 2) (m2 : MM1 1 45 = MM 1 45) (hh : ∀ j, MX1 183 j = MX 183 j ∧ MX1 184 j = MX 184 j ∧ MM1 26 j = MM 26 j ∧ MM1 27 j = MM 27 j) (hF : FOLS MM1) (hS : STA (cut MM1) MX1 MM1) : Rel (k + 1) MX1 MM1 :=
  ⟨iX, iM.mono (by omega), by rw [x1, m1], by rw [x2, m2]; exact h.2.2.2.1, fun j a q => by omega, hS, hF, h.H.fr x2 hh⟩
theorem STA.c {E E' MX MM : Mem} (h : STA E MX MM) (e : E' = E) : STA E' MX MM := by rw [e]; exact h
-- another rule leaves the rule as it was
theorem LAW.ce {E E' M : Mem} {kl : Nat} (h : LAW E M kl) (e : E' 1 24 = E 1 24) (e11 : ∀ j, 0 ≤ j → j < E 1 24 → E' 11 j = E 11 j) : LAW E' M kl := by
  unfold LAW LWf at h ⊢
  rw [e]
  rcases h with ⟨h1, h2, h3⟩ | h
  · exact Or.inl ⟨h1, h2, fun i p q => by rw [e11 i p q]; exact h3 i p q⟩
  · exact Or.inr h
theorem keX11_law {M : Mem} {Q : Int → Mem → Prop} (hI : IX M) (hQ : ∀ (z : Int) (M' : Mem), IX M' → M' 155 16 = M 155 16 → (∀ (k : Nat) (j : Int), (M 155 16).toNat ≤ k → k ≤ (M 155 16).toNat + 2 → M' k j = M k j) → Q z M') : qX11_law M Q := by
  have l16 : (M 155 16).toNat = 187 ∧ (M 155 17).toNat = 192 ∨ (M 155 16).toNat = 192 ∧ (M 155 17).toNat = 187 := by
    rcases hI.2.1 with q | q <;> rw [q.1, q.2] <;> decide
  unfold qX11_law
  refine ⟨hI.l17, ?_⟩
  refine fmX5_read (sX5_read hI hI.l17 (Q := fun z M' => IX M' ∧ -1 ≤ z ∧ z ≤ 80) (fun z M' i p => ⟨i, p⟩)) ?_
  intro x2 M2 k2 h2
  obtain ⟨i2, p2⟩ := h2
  intro _
  unfold qX9_clear
  intro M3 h3
  have i3 : IX M3 := by rw [h3]; exact i2.up (by decide) (bx_c156_1.mpr (by decide))
  have K3 : ∀ (k : Nat) (j : Int), ((M 155 16).toNat ≤ k ∧ k ≤ (M 155 16).toNat + 2) ∨ k = 155 → M3 k j = M k j := by
    intro k j h
    rw [h3, up2_n (by omega)]
    exact k2 k j (by omega)
  refine ⟨fun c => ?_, fun c => ?_⟩
  · refine fmX6_copyFrom (sX6_copyFrom i3 (show isS 8 by decide) (show isS 1 by decide) (Q := fun M' => IX M') (fun M' i _ => i)) ?_
    intro M5 k5 i5
    have K5 : ∀ (k : Nat) (j : Int), ((M 155 16).toNat ≤ k ∧ k ≤ (M 155 16).toNat + 2) ∨ k = 155 → M5 k j = M k j := by
      intro k j h
      rw [k5 k j (by omega)]
      exact K3 k j h
    refine ⟨i5.l17, ?_⟩
    refine fmX11_rightOnesOfTrial (sX11_rightOnesOfTrial i5 i5.l17 (Q := fun _ M' => IX M') (fun _ _ i => i)) ?_
    intro x7 M7 k7 i7 _
    rw [K5 155 17 (Or.inr rfl)] at k7
    have K7 : ∀ (k : Nat) (j : Int), ((M 155 16).toNat ≤ k ∧ k ≤ (M 155 16).toNat + 2) ∨ k = 155 → M7 k j = M k j := by
      intro k j h
      rw [k7 k j (by omega)]
      exact K5 k j h
    refine sJ6_bitCount_0f7a4 (p0 := x7) i7 ?_
    intro x8 p8 _
    refine fmX6_copyFrom (sX6_copyFrom i7 (show isS 8 by decide) (show isS 1 by decide) (Q := fun M' => IX M') (fun M' i _ => i)) ?_
    intro M9 k9 i9
    have K9 : ∀ (k : Nat) (j : Int), ((M 155 16).toNat ≤ k ∧ k ≤ (M 155 16).toNat + 2) ∨ k = 155 → M9 k j = M k j := by
      intro k j h
      rw [k9 k j (by omega)]
      exact K7 k j h
    refine ⟨i9.l16, ?_⟩
    refine fmX11_rightOnesOfTrial (sX11_rightOnesOfTrial i9 i9.l16 (Q := fun _ M' => IX M') (fun _ _ i => i)) ?_
    intro x11 M11 k11 i11 _
    rw [K9 155 16 (Or.inr rfl)] at k11
    have K11 : ∀ (k : Nat) (j : Int), ((M 155 16).toNat ≤ k ∧ k ≤ (M 155 16).toNat + 2) ∨ k = 155 → M11 k j = M k j := by
      intro k j h
      rw [k11 k j (by omega)]
      exact K9 k j h
    refine sJ6_bitCount_0f7a4 (p0 := x11) i11 ?_
    intro x12 p12 _
    refine fmX4_tellTwo (sX4_tellTwo (p1 := x8) (p3 := x12) i11 (Q := fun M' => IX M') (fun _ h => h)) ?_
    intro M13 k13 i13
    refine ⟨⟨by omega, by omega⟩, hQ _ _ i13 ?_ (fun k j h1 h2 => ?_)⟩
    · rw [k13 155 16 (by omega)]
      exact K11 155 16 (Or.inr rfl)
    · rw [k13 k j (by omega)]
      exact K11 k j (Or.inl ⟨h1, h2⟩)
  · exact ⟨⟨by omega, by omega⟩, hQ _ _ i3 (K3 155 16 (Or.inr rfl)) (fun k j h1 h2 => K3 k j (Or.inl ⟨h1, h2⟩))⟩
theorem keX12_law {b : Int} {M : Mem} {Q : Int → Mem → Prop} (hI : IM b M) (hb : b + 400 ≤ 2000000000) (hQ : ∀ (z : Int) (M' : Mem), IM (b + 400) M' → M' 1 24 = M 1 24 → (∀ j, 0 ≤ j → j < M 1 24 → M' 11 j = M 11 j) → Q z M') : qX12_law M Q := by
  unfold qX12_law
  intro M1 h1
  have i1 : IM b M1 := by rw [h1]; exact hI.up (by omega) (by simp [BM])
  have g24 : M1 1 24 = M 1 24 := by rw [h1, up2_j (by decide)]
  have g11 : M1 11 = M 11 := by rw [h1, up2_n (by decide)]
  refine fmX12_readsRule (sX12_readsRule i1 (Q := fun z M' => IM b M' ∧ (-100 ≤ z ∧ z ≤ 0) ∧ (z = 0 → WFC (M' 12) (M' 1 25))) (fun z M' i p w => ⟨i, p, w⟩)) ?_
  intro x2 M2 f2 hh
  obtain ⟨h2, p2, w2⟩ := hh
  intro _
  refine ⟨fun c => ?_, fun c => ⟨⟨by omega, by omega⟩, hQ _ _ (h2.mono (by omega)) (by rw [f2 1 24 (by omega)]; exact g24) (fun j _ _ => by rw [f2 11 j (by omega), g11])⟩⟩
  have w := w2 (by omega)
  refine fmX12_copies (sX12_copies h2 (Q := fun M' => IM b M') (fun _ h => h)) ?_
  intro M4 f4 h4
  refine fmX12_rightThen (sX12_rightThen h4 (by omega) (Q := fun _ M' => IM (b + 200) M') (fun _ _ h => h)) ?_
  intro x5 M5 f5 h5 _
  have g5 : M5 1 24 = M 1 24 := by rw [f5 1 24 (by omega), f4 1 24 (by omega), f2 1 24 (by omega)]; exact g24
  have c5 : ∀ j, M5 11 j = M 11 j := fun j => by rw [f5 11 j (by omega), f4 11 j (by omega), f2 11 j (by omega), g11]
  refine sJ6_bitCountM h5 ?_
  intro x6 p6 _ x7 e7 _
  have b7 : 0 ≤ x7 ∧ x7 ≤ 80 := by rw [e7]; exact bm_c1_24.mp (h5.bx _ _)
  refine ⟨81, sX12_law_L42 (b := b + 200) (M0 := M5) ?_ _ _ _ h5 (fun j a q => by omega) FrJ.rf (by omega) (by omega)⟩
  intro M' i' j' f' x16 e16 _
  have b16 : 0 ≤ x16 ∧ x16 ≤ 80 := by rw [e16]; exact bm_c1_25.mp (i'.bx _ _)
  have e12 : M' 12 = M2 12 := funext fun j => by rw [f' 12 j (by omega), f5 12 j (by omega), f4 12 j (by omega)]
  have e25 : M' 1 25 = M2 1 25 := by rw [f' 1 25 (by omega), f5 1 25 (by omega), f4 1 25 (by omega)]
  refine sX12_laysCode i' b16 (by decide) (by rw [e12, e16, e25]; exact w) ?_
  intro M17 h17 f17
  refine fmX12_copies (sX12_copies h17 (Q := fun M' => IM (b + 200) M') (fun _ h => h)) ?_
  intro M18 f18 h18
  refine fmX12_rightThen (sX12_rightThen h18 (by omega) (Q := fun _ M' => IM (b + 200 + 200) M') (fun _ _ h => h)) ?_
  intro x19 M19 f19 h19 _
  refine sJ6_bitCountM h19 ?_
  intro x20 p20 _
  refine ⟨⟨by omega, by omega⟩, ?_⟩
  have c19 : ∀ j, 0 ≤ j → j < M5 1 24 → M19 28 j = M5 11 j := by
    intro j a q
    rw [f19 28 j (by omega), f18 28 j (by omega), f17 28 j (by omega)]
    exact j' j a q
  have w28 : WFC (M19 28) x7 := by
    have hw := h5.2
    rw [← e7] at hw
    exact hw.cg (fun j a q => c19 j a (by omega))
  refine gX12_laysCode h19 b7 (by decide) w28 ?_
  intro M22 h22 _ n22 c22 M23 h23
  have i23 : IM (b + 200 + 200) M23 := by rw [h23]; exact h22.up (by omega) (bm_c1_1.mpr (by decide))
  have k23 : M23 1 1 = 0 := by rw [h23, up2_s]
  refine fmX12_enters (sX12_enters (p1 := x20) i23 (by omega) (Q := fun M' => IM (b + 200 + 200) M' ∧ M' 1 1 = M23 1 1 + 1) (fun M' i g => ⟨i, g⟩)) ?_
  intro M24 f24 hh
  obtain ⟨h24, g24'⟩ := hh
  refine ⟨⟨by omega, by omega⟩, ?_⟩
  refine fmX12_enters (sX12_enters h24 (by omega) (Q := fun M' => IM (b + 200 + 200) M') (fun M' i g => i)) ?_
  intro M26 f26 h26
  refine ⟨⟨by omega, by omega⟩, hQ _ _ (h26.mono (by omega)) ?_ (fun j a q => ?_)⟩
  · rw [f26 1 24 (by omega), f24 1 24 (by omega), h23, up2_j (by decide), n22, e7]
    exact g5
  · rw [f26 11 j (by omega), f24 11 j (by omega), h23, up2_n (by decide), c22 j a (by omega), c19 j a (by omega)]
    exact c5 j
