/-! ANOTHER RULE, up to THE END -/
/-- of a rule only its own rows count -/
def EQ (E F : Mem) : Prop := (∀ (k : Nat) (j : Int), k ≠ 11 → E k j = F k j) ∧ ∀ i, 0 ≤ i → i < E 1 24 → E 11 i = F 11 i
theorem evS_f {f f' e : Int → Int} : ∀ n : Nat, (∀ i : Int, 0 ≤ i → i < n → f i = f' i) → dpc f n = dpc f' n ∧ evS f e n = evS f' e n := by
  intro n
  induction n with
  | zero => intro _; exact ⟨rfl, rfl⟩
  | succ n ih =>
    intro h
    obtain ⟨i1, i2⟩ := ih (fun i p q => h i p (by omega))
    have e := h n (by omega) (by omega)
    refine ⟨?_, ?_⟩
    · unfold dpc
      rw [i1, e]
    · unfold evS
      rw [i1, i2, e]
theorem EQ.hp {E F : Mem} (h : EQ E F) : eH E = eH F ∧ eO E = eO F ∧ eG E = eG F ∧ E 2 = F 2 ∧ E 3 = F 3 ∧ E 4 = F 4 := by
  refine ⟨?_, ?_, ?_, funext fun j => h.1 2 j (by decide), funext fun j => h.1 3 j (by decide), funext fun j => h.1 4 j (by decide)⟩
  · show (E 1 4).toNat = (F 1 4).toNat
    rw [h.1 1 4 (by decide)]
  · show (E 1 5).toNat = (F 1 5).toNat
    rw [h.1 1 5 (by decide)]
  · show E 1 3 - 1 = F 1 3 - 1
    rw [h.1 1 3 (by decide)]
theorem EQ.pa {E F : Mem} (h : EQ E F) (r : Int → Int) (x : Int) : paF E r x = paF F r x := by
  obtain ⟨a, b, c, d, _, f⟩ := h.hp
  have e : envF E r x = envF F r x := by
    funext j
    unfold envF
    rw [a, b, c, d, f, h.1 1 7 (by decide)]
  unfold paF ruF
  rw [e, h.1 1 24 (by decide)]
  by_cases z : F 1 24 = 0
  · rw [if_pos z, if_pos z]
  · rw [if_neg z, if_neg z]
    have := (evS_f (f := E 11) (f' := F 11) (e := envF F r x) (F 1 24).toNat (fun i p q => h.2 i p (by rw [h.1 1 24 (by decide)]; omega))).2
    rw [this]
theorem EQ.go {E F : Mem} (h : EQ E F) (r : Int → Int) (x p : Int) : goF E r x p = goF F r x p := by
  obtain ⟨a, b, c, d, _, f⟩ := h.hp
  have e : okF E r (r x) = okF F r (r x) := by
    funext z
    unfold okF
    rw [a, c, d]
  unfold goF
  rw [e, c]
theorem EQ.mh {E F : Mem} (h : EQ E F) (r : Int → Int) (x : Int) : mhF E r x = mhF F r x := by
  obtain ⟨a, b, c, d, _, f⟩ := h.hp
  unfold mhF
  rw [h.pa, h.go, c]
theorem EQ.hs {E F : Mem} (h : EQ E F) : ∀ (l : List Int) (r : Int → Int), hsF E l r = hsF F l r := by
  intro l
  induction l with
  | nil => intro r; rfl
  | cons a t ih =>
    intro r
    show hsF E t (mhF E r a) = hsF F t (mhF F r a)
    rw [h.mh, ih]
theorem EQ.mm {E F : Mem} (h : EQ E F) (r : Int → Int) (m : Int) : mmF E r m = mmF F r m := by
  obtain ⟨a, b, c, d, _, f⟩ := h.hp
  unfold mmF chF
  rw [a]
theorem EQ.ms {E F : Mem} (h : EQ E F) (r : Int → Int) : ∀ n : Nat, msF E n r = msF F n r := by
  intro n
  induction n with
  | zero => rfl
  | succ n ih =>
    show (if 0 ≤ msF E n r (29 + n) then msF E n r else mmF E (msF E n r) n) = (if 0 ≤ msF F n r (29 + n) then msF F n r else mmF F (msF F n r) n)
    rw [ih, h.mm]
theorem EQ.st {E F : Mem} (h : EQ E F) (r : Int → Int) : stF E r = stF F r := by
  obtain ⟨a, b, c, d, _, f⟩ := h.hp
  unfold stF
  rw [a, b, c, h.hs, h.ms]
theorem EQ.it {E F : Mem} (h : EQ E F) (r : Int → Int) : ∀ n : Nat, itF E n r = itF F n r := by
  intro n
  induction n with
  | zero => rfl
  | succ n ih =>
    show stF E (itF E n r) = stF F (itF F n r)
    rw [ih, h.st]
theorem EQ.rg {E F : Mem} (h : EQ E F) (r : Int → Int) : rgE E r = rgE F r := by
  obtain ⟨a, b, c, d, e, f⟩ := h.hp
  unfold rgE rgB
  rw [b, e, h.it]
theorem SCd_u {c d : Int → Int} : ∀ {O : List (Int × Int)}, SCd c O → SCd d O → ∀ i : Int, 0 ≤ i → i < O.length → c i = d i
  | [], _, _ => fun i p q => by
    have : ((([] : List (Int × Int)).length : Nat) : Int) = 0 := rfl
    omega
  | p :: O, s, t => fun i a q => by
    have l : ((p :: O).length : Int) = O.length + 1 := by show ((O.length + 1 : Nat) : Int) = _; omega
    by_cases e : i = O.length
    · rw [e, s.1, t.1]
    · exact SCd_u s.2 t.2 i a (by omega)
/-- E2 is E with the rule that the text tells -/
def LAQ (E : Mem) (f : Int → Int) (len : Int) (E2 : Mem) : Prop := (∀ (k : Nat) (j : Int), k ≠ 11 → ¬ (k = 1 ∧ j = 24) → E2 k j = E k j) ∧ ((len = 0 → E2 1 24 = 0) ∧ (len ≠ 0 → 1 ≤ E2 1 24 ∧ E2 1 24 = (rlO f len).length ∧ SCd (E2 11) (rlO f len))) ∧ WFC (E2 11) (E2 1 24) ∧ 0 ≤ E2 1 24
theorem LAQ.eq {E E2 E3 : Mem} {f : Int → Int} {len : Int} (h : LAQ E f len E2) (g : LAQ E f len E3) : EQ E2 E3 := by
  obtain ⟨h1, h2, _⟩ := h
  obtain ⟨g1, g2, _⟩ := g
  have e24 : E2 1 24 = E3 1 24 := by
    by_cases c : len = 0
    · rw [h2.1 c, g2.1 c]
    · rw [(h2.2 c).2.1, (g2.2 c).2.1]
  refine ⟨fun k j hk => ?_, fun i p q => ?_⟩
  · by_cases c : k = 1 ∧ j = 24
    · rw [c.1, c.2]; exact e24
    · rw [h1 k j hk c, g1 k j hk c]
  · by_cases c : len = 0
    · have := h2.1 c
      omega
    · exact SCd_u (h2.2 c).2.2 (g2.2 c).2.2 i p (by have := (h2.2 c).2.1; omega)
theorem LAQ.rul {E E2 : Mem} {f : Int → Int} {len : Int} (h : LAQ E f len E2) : RUL E2 f len := by
  by_cases c : len = 0
  · exact Or.inl ⟨c, h.2.1.1 c⟩
  · exact Or.inr (h.2.1.2 c)
theorem LAQ.hp {E E2 : Mem} {f : Int → Int} {len : Int} (h : LAQ E f len E2) : E2 1 3 = E 1 3 ∧ E2 1 4 = E 1 4 ∧ E2 1 5 = E 1 5 ∧ E2 1 7 = E 1 7 ∧ E2 2 = E 2 ∧ E2 3 = E 3 ∧ E2 4 = E 4 ∧ eO E2 = eO E ∧ eH E2 = eH E ∧ eG E2 = eG E := by
  have e := h.1
  have e13 : E2 1 3 = E 1 3 := e 1 3 (by decide) (by omega)
  have e14 : E2 1 4 = E 1 4 := e 1 4 (by decide) (by omega)
  have e15 : E2 1 5 = E 1 5 := e 1 5 (by decide) (by omega)
  have e17 : E2 1 7 = E 1 7 := e 1 7 (by decide) (by omega)
  exact ⟨e13, e14, e15, e17, funext fun j => e 2 j (by decide) (by omega), funext fun j => e 3 j (by decide) (by omega), funext fun j => e 4 j (by decide) (by omega), by show (E2 1 5).toNat = (E 1 5).toNat; rw [e15], by show (E2 1 4).toNat = (E 1 4).toNat; rw [e14], by show E2 1 3 - 1 = E 1 3 - 1; rw [e13]⟩
theorem LAQ.toSTR {E E2 M : Mem} {f : Int → Int} {len : Int} (h : LAQ E f len E2) (s : STR E M) : STR E2 M := by
  obtain ⟨e13, e14, e15, e17, r2, r3, r4, _⟩ := h.hp
  unfold STR at s ⊢
  rw [e13, e14, e15, e17, r2, r3, r4]
  exact s
theorem LAQ.toSC {E E2 M : Mem} {f : Int → Int} {len : Int} {k0 : Nat} {r : Int → Int} (h : LAQ E f len E2) (s : SC E M k0 r) : SC E2 M k0 r := by
  obtain ⟨e13, e14, e15, e17, r2, r3, r4, eo, _⟩ := h.hp
  unfold SC at s ⊢
  rw [e14, e15, r3, eo]
  exact s
theorem LAQ.toWR {E E2 : Mem} {f : Int → Int} {len : Int} {r : Int → Int} (h : LAQ E f len E2) (s : WR E r) : WR E2 r := by
  obtain ⟨e13, e14, e15, e17, r2, r3, r4, eo, eh, eg⟩ := h.hp
  unfold WR at s ⊢
  rw [e14, e15, eg, eh]
  exact s
theorem LAQ.toLAW {E E2 M : Mem} {f : Int → Int} {len : Int} {kl : Nat} (h : LAQ E f len E2) (s : ROl kl M (rlO f len)) : LAW E2 M kl := h.rul.law rfl rfl s
/-- the answer -/
noncomputable def lwA (E E2 : Mem) (f : Int → Int) (len : Int) (r : Int → Int) : Int := if rlz f len = -1 then bcF (rgE E2 r) - bcF (rgE E r) else -10000 - rlz f len
theorem rlz_b {f : Int → Int} {len : Int} (h : 0 ≤ len) : rlz f len = -1 ∨ 0 ≤ rlz f len ∧ rlz f len ≤ 40 := by
  have sb := rlS_b (f := f) h
  unfold rlz
  split
  · exact Or.inl rfl
  · split
    · exact Or.inr ⟨sb.1, by omega⟩
    · exact Or.inl rfl
theorem gX11_lawV {M E E2 : Mem} {l : Nat} {r f : Int → Int} {Q : Int → Mem → Prop} (h : TB E M l) (hf' : ∀ j, 0 ≤ j → j < M 156 1 → M 157 j = f j) (hA : LAQ E f (M 156 1) E2) (hC : SC E M 1 r) (hW : WR E r) (hf : fol E r) (h37 : r 37 ≤ 1999999000) (hQ : ∀ M' : Mem, IX M' → M' 155 16 = M 155 16 → (∀ (k : Nat) (j : Int), (M 155 16).toNat ≤ k → k ≤ (M 155 16).toNat + 2 → M' k j = M k j) → Q (lwA E E2 f (M 156 1) r) M') : qX11_law M Q := by
  obtain ⟨hI, hl, hl2, hS, hL, hw, h24⟩ := h
  have bL := bx_c156_1.mp (hI.bx 156 1)
  have zb := rlz_b (f := f) bL.1
  have l16 : (M 155 16).toNat = 187 ∧ (M 155 17).toNat = 192 ∨ (M 155 16).toNat = 192 ∧ (M 155 17).toNat = 187 := by
    rcases hI.2.1 with q | q <;> rw [q.1, q.2] <;> decide
  unfold lwA at hQ
  unfold qX11_law
  refine ⟨hI.l17, ?_⟩
  refine fmX5_read (gX5_read (f := f) hI hI.l17 hf' (Q := fun z M' => z = rlz f (M 156 1) ∧ IX M' ∧ (rlz f (M 156 1) = -1 → ROl (M 155 17).toNat M' (rlO f (M 156 1)))) (fun M' i o => ⟨rfl, i, o⟩)) ?_
  intro x2 M2 k2 h2
  obtain ⟨e2, i2, o2⟩ := h2
  intro _
  unfold qX9_clear
  intro M3 h3
  have i3 : IX M3 := by rw [h3]; exact i2.up (by decide) (bx_c156_1.mpr (by decide))
  have K3 : ∀ (k : Nat) (j : Int), ((M 155 16).toNat ≤ k ∧ k ≤ (M 155 16).toNat + 2) ∨ k = 155 ∨ k ≤ 154 ∨ (k = 158 ∨ k = 159) → M3 k j = M k j := by
    intro k j h
    rw [h3, up2_n (by omega)]
    exact k2 k j (by omega)
  refine ⟨fun c => ?_, fun c => ?_⟩
  · have hz : rlz f (M 156 1) = -1 := by omega
    rw [if_pos hz] at hQ
    have R3 : ROl (M 155 17).toNat M3 (rlO f (M 156 1)) := (o2 hz).fr (by rw [h3, up2_n (by omega)]) (by rw [h3, up2_n (by omega)]) (by rw [h3, up2_n (by omega)]) (by rw [h3, up2_n (by omega)])
    refine fmX6_copyFrom (gX6_copyFrom i3 (show isS 8 by decide) (show isS 1 by decide) (by decide) (Q := fun M' => IX M' ∧ SC E M' 8 r) (fun M' i _ s _ => ⟨i, s E r (hC.fr (fun t j ht => K3 _ j (by omega)))⟩)) ?_
    intro M5 k5 h5
    obtain ⟨i5, c5⟩ := h5
    have K5 : ∀ (k : Nat) (j : Int), ((M 155 16).toNat ≤ k ∧ k ≤ (M 155 16).toNat + 2) ∨ k = 155 ∨ (1 ≤ k ∧ k ≤ 7) ∨ (k = 158 ∨ k = 159) → M5 k j = M k j := by
      intro k j h
      rw [k5 k j (by omega)]
      exact K3 k j (by omega)
    have S5 : STR E M5 := hS.fr (K5 _ _ (by omega)) (K5 _ _ (by omega)) (K5 _ _ (by omega)) (fun j => K5 159 j (by omega))
    have R5 : ROl (M 155 17).toNat M5 (rlO f (M 156 1)) := R3.fr (k5 _ _ (by omega)) (k5 _ _ (by omega)) (funext fun j => k5 _ j (by omega)) (funext fun j => k5 _ j (by omega))
    refine ⟨i5.l17, ?_⟩
    rw [K5 155 17 (by omega)]
    refine fmX11_rightOnesOfTrial (gX11_rightOnesOfTrial (E := E2) (r := r) i5 hI.l17 (hA.toSTR S5) (hA.toLAW R5) hA.2.2.1 hA.2.2.2 (hA.toSC c5) (hA.toWR hW) (hf.e hA.hp.2.2.1) h37 (Q := fun z M' => z = rgE E2 r ∧ IX M') (fun M' T i _ _ _ _ => ⟨rfl, i⟩)) ?_
    intro x7 M7 k7 h7
    obtain ⟨e7, i7⟩ := h7
    intro _
    have K7 : ∀ (k : Nat) (j : Int), ((M 155 16).toNat ≤ k ∧ k ≤ (M 155 16).toNat + 2) ∨ k = 155 ∨ (1 ≤ k ∧ k ≤ 7) ∨ (k = 158 ∨ k = 159) → M7 k j = M k j := by
      intro k j h
      rw [k7 k j (by omega)]
      exact K5 k j h
    rw [e7]
    refine gJ6_bitCount ?_
    intro _
    refine fmX6_copyFrom (gX6_copyFrom i7 (show isS 8 by decide) (show isS 1 by decide) (by decide) (Q := fun M' => IX M' ∧ SC E M' 8 r) (fun M' i _ s _ => ⟨i, s E r (hC.fr (fun t j ht => K7 _ j (by omega)))⟩)) ?_
    intro M9 k9 h9
    obtain ⟨i9, c9⟩ := h9
    have K9 : ∀ (k : Nat) (j : Int), ((M 155 16).toNat ≤ k ∧ k ≤ (M 155 16).toNat + 2) ∨ k = 155 ∨ (1 ≤ k ∧ k ≤ 7) ∨ (k = 158 ∨ k = 159) → M9 k j = M k j := by
      intro k j h
      rw [k9 k j (by omega)]
      exact K7 k j h
    have S9 : STR E M9 := hS.fr (K9 _ _ (by omega)) (K9 _ _ (by omega)) (K9 _ _ (by omega)) (fun j => K9 159 j (by omega))
    have L9 : LAW E M9 (M 155 16).toNat := by
      rw [hl]
      exact hL.fr (K9 _ _ (by omega)) (K9 _ _ (by omega)) (fun j => K9 _ j (by omega)) (fun j => K9 _ j (by omega))
    refine ⟨i9.l16, ?_⟩
    rw [K9 155 16 (by omega)]
    refine fmX11_rightOnesOfTrial (gX11_rightOnesOfTrial (E := E) (r := r) i9 hI.l16 S9 L9 hw h24 c9 hW hf h37 (Q := fun z M' => z = rgE E r ∧ IX M') (fun M' T i _ _ _ _ => ⟨rfl, i⟩)) ?_
    intro x11 M11 k11 h11
    obtain ⟨e11, i11⟩ := h11
    intro _
    have K11 : ∀ (k : Nat) (j : Int), ((M 155 16).toNat ≤ k ∧ k ≤ (M 155 16).toNat + 2) ∨ k = 155 → M11 k j = M k j := by
      intro k j h
      rw [k11 k j (by omega)]
      exact K9 k j (by omega)
    rw [e11]
    refine gJ6_bitCount ?_
    intro _
    refine fmX4_tellTwo (sX4_tellTwo (p1 := bcF (rgE E2 r)) (p3 := bcF (rgE E r)) i11 (Q := fun M' => IX M') (fun _ h => h)) ?_
    intro M13 k13 i13
    have b1 := bcF_b (rgE E2 r)
    have b2 := bcF_b (rgE E r)
    refine ⟨⟨by omega, by omega⟩, hQ M13 i13 ?_ (fun k j h1 h2 => ?_)⟩
    · rw [k13 155 16 (by omega)]
      exact K11 155 16 (Or.inr rfl)
    · rw [k13 k j (by omega)]
      exact K11 k j (Or.inl ⟨h1, h2⟩)
  · have hz : rlz f (M 156 1) ≠ -1 := by omega
    rw [if_neg hz] at hQ
    rw [e2]
    exact ⟨⟨by omega, by omega⟩, hQ M3 i3 (K3 155 16 (by omega)) (fun k j h1 h2 => K3 k j (by omega))⟩
theorem gX12_lawV {b : Int} {M : Mem} {f : Int → Int} {Q : Int → Mem → Prop} (hI : IM b M) (ho : ∀ m, 0 ≤ m → m < cut M 1 5 → 0 ≤ cut M 3 m ∧ cut M 3 m < cut M 1 4) (hW : WR (cut M) (cr (M 5) (M 6))) (hb : b + 400 ≤ 2000000000) (hf' : ∀ j, 0 ≤ j → j < M 1 14 → M 7 j = f j) (hQ : ∀ (z : Int) (M' : Mem), IM (b + 400) M' → M' 1 24 = M 1 24 → (∀ j, 0 ≤ j → j < M 1 24 → M' 11 j = M 11 j) → (rlz f (M 1 14) = -1 → ∃ E2, LAQ (cut M) f (M 1 14) E2 ∧ z = lwA (cut M) E2 f (M 1 14) (cr (M 5) (M 6))) → (rlz f (M 1 14) ≠ -1 → z = -10000 - rlz f (M 1 14)) → Q z M') : qX12_law M Q := by
  have bL := bm_c1_14.mp (hI.bx 1 14)
  have zb := rlz_b (f := f) bL.1
  unfold qX12_law
  intro M1 h1
  obtain ⟨i1, E1, k5, k6, kk⟩ := th0 hI (cut_CE M) h1
  have g14 : M1 1 14 = M 1 14 := kk 1 14 (by omega)
  have g24 : M1 1 24 = M 1 24 := kk 1 24 (by omega)
  have g11 : M1 11 = M 11 := funext fun j => kk 11 j (by omega)
  refine fmX12_readsRule (gX12_readsRule (f := f) i1 (fun j p q => by rw [kk 7 j (by omega)]; exact hf' j p (by omega)) (Q := fun z M' => z = rly f (M1 1 14) ∧ IM b M' ∧ (rlz f (M1 1 14) = -1 → WFC (M' 12) (M' 1 25) ∧ (M1 1 14 = 0 → M' 1 25 = 0) ∧ (M1 1 14 ≠ 0 → 1 ≤ M' 1 25 ∧ CK M' (rlO f (M1 1 14))))) (fun M' i w => ⟨rfl, i, w⟩)) ?_
  intro x2 M2 f2 hh
  obtain ⟨e2, h2, w2⟩ := hh
  rw [g14] at e2 w2
  intro _
  unfold rly at e2
  refine ⟨fun c => ?_, fun c => ?_⟩
  · have hz : rlz f (M 1 14) = -1 := by
      by_cases q : rlz f (M 1 14) = -1
      · exact q
      · rw [if_neg q] at e2; omega
    obtain ⟨wf, l0, l1⟩ := w2 hz
    have E2' : CE (cut M) M2 := fun k j c => (f2 k j (by omega)).trans (E1 k j c)
    have t2 : TM (cut M) b (M 5) (M 6) M2 := ⟨h2, E2', by rw [← k5]; exact funext fun j => f2 5 j (by omega), fun j _ => by rw [f2 6 j (by omega), k6]⟩
    refine fmX12_copies (cpM t2 (Q := fun M' => TM (cut M) b (M 5) (M 6) M' ∧ M' 6 = cr (M 5) (M 6)) (fun M' t e => ⟨t, e⟩)) ?_
    intro M4 f4 h4
    obtain ⟨t4, e4⟩ := h4
    refine fmX12_rightThen (rtM t4 ho (by rw [e4]; exact hW) (by omega) (Q := fun z M' => z = rgE (cut M) (cr (M 5) (M 6)) ∧ TM (cut M) (b + 200) (M 5) (M 6) M') (fun M' t _ => ⟨by rw [e4], t⟩)) ?_
    intro x5 M5 f5 h5
    obtain ⟨e5, t5⟩ := h5
    intro _
    have g5 : M5 1 24 = M 1 24 := by rw [f5 1 24 (by omega), f4 1 24 (by omega), f2 1 24 (by omega)]; exact g24
    have c5 : ∀ j, M5 11 j = M 11 j := fun j => by rw [f5 11 j (by omega), f4 11 j (by omega), f2 11 j (by omega), g11]
    rw [e5]
    refine gJ6_bitCount ?_
    intro _ x7 e7 _
    have b7 : 0 ≤ x7 ∧ x7 ≤ 80 := by rw [e7]; exact bm_c1_24.mp (t5.1.bx _ _)
    refine ⟨81, sX12_law_L42 (b := b + 200) (M0 := M5) ?_ _ _ _ t5.1 (fun j a q => by omega) FrJ.rf (by omega) (by omega)⟩
    intro M' i' j' f' x16 e16 _
    have b16 : 0 ≤ x16 ∧ x16 ≤ 80 := by rw [e16]; exact bm_c1_25.mp (i'.bx _ _)
    have e12 : M' 12 = M2 12 := funext fun j => by rw [f' 12 j (by omega), f5 12 j (by omega), f4 12 j (by omega)]
    have e25 : M' 1 25 = M2 1 25 := by rw [f' 1 25 (by omega), f5 1 25 (by omega), f4 1 25 (by omega)]
    refine gX12_laysCode i' b16 (by decide) (by rw [e12, e16, e25]; exact wf) ?_
    intro M17 h17 f17 n17 c17
    have F17 : ∀ (k : Nat) (j : Int), k ≠ 11 → ¬ (k = 1 ∧ j = 24) → k ≠ 28 → M17 k j = M5 k j := fun k j a c d => by rw [f17 k j (by omega), f' k j (by omega)]
    -- the rule that is tried
    have A : LAQ (cut M) f (M 1 14) (cut M17) := by
      refine ⟨fun k j a c => ?_, ⟨fun q => ?_, fun q => ?_⟩, cut_W h17, ?_⟩
      · by_cases hc : cE k j
        · rw [cut_p hc, F17 k j a c (by omega)]
          exact t5.2.1 k j hc
        · unfold cut
          rw [if_neg hc, if_neg hc]
      · rw [cut124, n17, e16, e25]
        exact l0 q
      · obtain ⟨p1, p2, p3⟩ := l1 q
        rw [cut124, n17, e16, e25, cut11]
        refine ⟨p1, p2, p3.cg (fun j a c => ?_)⟩
        rw [c17 j a (by omega), e12]
      · rw [cut124, n17]
        exact b16.1
    have t17 : TM (cut M17) (b + 200) (M 5) (M 6) M17 := ⟨h17, cut_CE M17, by rw [← t5.2.2.1]; exact funext fun j => F17 5 j (by decide) (by omega) (by decide), fun j p => by rw [F17 6 j (by decide) (by omega) (by decide)]; exact t5.2.2.2 j p⟩
    refine fmX12_copies (cpM t17 (Q := fun M' => TM (cut M17) (b + 200) (M 5) (M 6) M' ∧ M' 6 = cr (M 5) (M 6)) (fun M' t e => ⟨t, e⟩)) ?_
    intro M18 f18 h18
    obtain ⟨t18, e18⟩ := h18
    refine fmX12_rightThen (rtM t18 (fun m p q => by
        obtain ⟨_, a4, a5, _, _, a3, _⟩ := A.hp
        rw [a3, a4]
        exact ho m p (by rw [← a5]; exact q)) (by rw [e18]; exact A.toWR hW) (by omega) (Q := fun z M' => z = rgE (cut M17) (cr (M 5) (M 6)) ∧ IM (b + 200 + 200) M') (fun M' t _ => ⟨by rw [e18], t.1⟩)) ?_
    intro x19 M19 f19 hh
    obtain ⟨e19, h19⟩ := hh
    intro _
    rw [e19]
    refine gJ6_bitCount ?_
    intro _
    refine ⟨⟨by omega, by omega⟩, ?_⟩
    have c19 : ∀ j, 0 ≤ j → j < M5 1 24 → M19 28 j = M5 11 j := by
      intro j a q
      rw [f19 28 j (by omega), f18 28 j (by omega), f17 28 j (by omega)]
      exact j' j a q
    have w28 : WFC (M19 28) x7 := by
      have hw := t5.1.2
      rw [← e7] at hw
      exact hw.cg (fun j a q => c19 j a (by omega))
    refine gX12_laysCode h19 b7 (by decide) w28 ?_
    intro M22 h22 _ n22 c22 M23 h23
    have i23 : IM (b + 200 + 200) M23 := by rw [h23]; exact h22.up (by omega) (bm_c1_1.mpr (by decide))
    have k23 : M23 1 1 = 0 := by rw [h23, up2_s]
    refine fmX12_enters (sX12_enters (p1 := bcF (rgE (cut M17) (cr (M 5) (M 6)))) i23 (by omega) (Q := fun M' => IM (b + 200 + 200) M' ∧ M' 1 1 = M23 1 1 + 1) (fun M' i g => ⟨i, g⟩)) ?_
    intro M24 f24 hh
    obtain ⟨h24, g24'⟩ := hh
    have b1 := bcF_b (rgE (cut M17) (cr (M 5) (M 6)))
    have b2 := bcF_b (rgE (cut M) (cr (M 5) (M 6)))
    refine ⟨⟨by omega, by omega⟩, ?_⟩
    refine fmX12_enters (sX12_enters (p1 := bcF (rgE (cut M) (cr (M 5) (M 6)))) h24 (by omega) (Q := fun M' => IM (b + 200 + 200) M') (fun M' i g => i)) ?_
    intro M26 f26 h26
    refine ⟨⟨by omega, by omega⟩, hQ _ M26 (h26.mono (by omega)) ?_ (fun j a q => ?_) (fun _ => ⟨cut M17, A, by unfold lwA; rw [if_pos hz]⟩) (fun q => absurd hz q)⟩
    · rw [f26 1 24 (by omega), f24 1 24 (by omega), h23, up2_j (by decide), n22, e7]
      exact g5
    · rw [f26 11 j (by omega), f24 11 j (by omega), h23, up2_n (by decide), c22 j a (by omega), c19 j a (by omega)]
      exact c5 j
  · have hz : rlz f (M 1 14) ≠ -1 := by
      intro q
      rw [if_pos q] at e2
      omega
    rw [if_neg hz] at e2
    refine ⟨⟨by omega, by omega⟩, hQ _ M2 (h2.mono (by omega)) (by rw [f2 1 24 (by omega)]; exact g24) (fun j _ _ => by rw [f2 11 j (by omega), g11]) (fun q => absurd q hz) (fun _ => by omega)⟩
/-- a text that can't stand: nothing is tried -/
theorem kzX11_law {M : Mem} {f : Int → Int} {Q : Int → Mem → Prop} (hI : IX M) (hf' : ∀ j, 0 ≤ j → j < M 156 1 → M 157 j = f j) (hz : rlz f (M 156 1) ≠ -1) (hQ : ∀ M' : Mem, IX M' → M' 155 16 = M 155 16 → (∀ (k : Nat) (j : Int), (M 155 16).toNat ≤ k → k ≤ (M 155 16).toNat + 2 → M' k j = M k j) → Q (-10000 - rlz f (M 156 1)) M') : qX11_law M Q := by
  have bL := bx_c156_1.mp (hI.bx 156 1)
  have zb := rlz_b (f := f) bL.1
  have l16 : (M 155 16).toNat = 187 ∧ (M 155 17).toNat = 192 ∨ (M 155 16).toNat = 192 ∧ (M 155 17).toNat = 187 := by
    rcases hI.2.1 with q | q <;> rw [q.1, q.2] <;> decide
  unfold qX11_law
  refine ⟨hI.l17, ?_⟩
  refine fmX5_read (gX5_read (f := f) hI hI.l17 hf' (Q := fun z M' => z = rlz f (M 156 1) ∧ IX M') (fun M' i o => ⟨rfl, i⟩)) ?_
  intro x2 M2 k2 h2
  obtain ⟨e2, i2⟩ := h2
  intro _
  unfold qX9_clear
  intro M3 h3
  have i3 : IX M3 := by rw [h3]; exact i2.up (by decide) (bx_c156_1.mpr (by decide))
  have K3 : ∀ (k : Nat) (j : Int), ((M 155 16).toNat ≤ k ∧ k ≤ (M 155 16).toNat + 2) ∨ k = 155 → M3 k j = M k j := by
    intro k j h
    rw [h3, up2_n (by omega)]
    exact k2 k j (by omega)
  refine ⟨fun c => by omega, fun c => ?_⟩
  rw [e2]
  exact ⟨⟨by omega, by omega⟩, hQ M3 i3 (K3 155 16 (by omega)) (fun k j h1 h2 => K3 k j (by omega))⟩
