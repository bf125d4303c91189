/-! THE HEARSE THAT MISLEADS THE MOST -/
def tk0 (r : Int → Int) (h : Int) : Int → Int := up (up (up r 12 (w32 (r 12 + 1))) (6 + h) (w32 (r 12 + 1))) h (-1)
def tqL (h : Int) (a : Int → Int) : Nat → Int → Int
  | 0 => a
  | n + 1 => if a (21 + n) = h then up (tqL h a n) (21 + n) (-1) else tqL h a n
def tfL (h : Int) (a : Int → Int) : Nat → Int → Int
  | 0 => a
  | n + 1 => if a (29 + n) < 0 ∧ a (21 + n) = h then up (tfL h a n) (21 + n) (-1) else tfL h a n
def tkR (E : Mem) (r : Int → Int) (h : Int) : Int → Int := tqL h (tk0 r h) (eO E)
theorem tqL_o {h : Int} {a : Int → Int} : ∀ (n : Nat) (j : Int), n ≤ 8 → (j < 21 ∨ 21 + n ≤ j) → tqL h a n j = a j := by
  intro n
  induction n with
  | zero => intro j _ _; rfl
  | succ n ih =>
    intro j hn hj
    unfold tqL
    split
    · rw [up_j (by omega)]
      exact ih j (by omega) (by omega)
    · exact ih j (by omega) (by omega)
theorem tqL_i {h : Int} {a : Int → Int} : ∀ (n : Nat) (i : Int), n ≤ 8 → 0 ≤ i → i < n → tqL h a n (21 + i) = if a (21 + i) = h then -1 else a (21 + i) := by
  intro n
  induction n with
  | zero => intro i _ p q; omega
  | succ n ih =>
    intro i hn p q
    unfold tqL
    by_cases e : i = n
    · rw [e]
      by_cases c : a (21 + n) = h
      · rw [if_pos c, if_pos c, upS]
      · rw [if_neg c, if_neg c]
        exact tqL_o n (21 + n) (by omega) (by omega)
    · by_cases c : a (21 + n) = h
      · rw [if_pos c, up_j (by omega)]
        exact ih i (by omega) p (by omega)
      · rw [if_neg c]
        exact ih i (by omega) p (by omega)
theorem tfL_o {h : Int} {a : Int → Int} : ∀ (n : Nat) (j : Int), n ≤ 8 → (j < 21 ∨ 21 + n ≤ j) → tfL h a n j = a j := by
  intro n
  induction n with
  | zero => intro j _ _; rfl
  | succ n ih =>
    intro j hn hj
    unfold tfL
    split
    · rw [up_j (by omega)]
      exact ih j (by omega) (by omega)
    · exact ih j (by omega) (by omega)
theorem tfL_i {h : Int} {a : Int → Int} : ∀ (n : Nat) (i : Int), n ≤ 8 → 0 ≤ i → i < n → tfL h a n (21 + i) = if a (29 + i) < 0 ∧ a (21 + i) = h then -1 else a (21 + i) := by
  intro n
  induction n with
  | zero => intro i _ p q; omega
  | succ n ih =>
    intro i hn p q
    unfold tfL
    by_cases e : i = n
    · rw [e]
      by_cases c : a (29 + n) < 0 ∧ a (21 + n) = h
      · rw [if_pos c, if_pos c, upS]
      · rw [if_neg c, if_neg c]
        exact tfL_o n (21 + n) (by omega) (by omega)
    · by_cases c : a (29 + n) < 0 ∧ a (21 + n) = h
      · rw [if_pos c, up_j (by omega)]
        exact ih i (by omega) p (by omega)
      · rw [if_neg c]
        exact ih i (by omega) p (by omega)
theorem tk0_o {r : Int → Int} {h j : Int} (h1 : j ≠ h) (h2 : j ≠ 6 + h) (h3 : j ≠ 12) : tk0 r h j = r j := by unfold tk0; rw [up_j h1, up_j h2, up_j h3]
theorem tkR_m {E : Mem} {r : Int → Int} {h m : Int} (hE : EBx E) (hh : 0 ≤ h ∧ h < 6) (hm : 0 ≤ m ∧ m < E 1 5) : tkR E r h (13 + m) = r (13 + m) ∧ tkR E r h (29 + m) = r (29 + m) ∧ tkR E r h (21 + m) = if r (21 + m) = h then -1 else r (21 + m) := by
  have f := hE.f
  have g := hE.2
  unfold tkR
  rw [tqL_o (eO E) (13 + m) (by omega) (by omega), tqL_o (eO E) (29 + m) (by omega) (by omega), tqL_i (eO E) m (by omega) hm.1 (by omega), tk0_o (by omega) (by omega) (by omega), tk0_o (by omega) (by omega) (by omega), tk0_o (by omega) (by omega) (by omega)]
  exact ⟨rfl, rfl, rfl⟩
theorem tkR_lo {E : Mem} {r : Int → Int} {h j : Int} (hE : EBx E) (hj : j < 13) : tkR E r h j = tk0 r h j := by
  have f := hE.f
  have g := hE.2
  exact tqL_o (eO E) j (by omega) (by omega)
theorem tkR_37 {E : Mem} {r : Int → Int} {h : Int} (hE : EBx E) (hh : 0 ≤ h ∧ h < 6) : tkR E r h 37 = r 37 := by
  have f := hE.f
  have g := hE.2
  unfold tkR
  rw [tqL_o (eO E) 37 (by omega) (by omega), tk0_o (by omega) (by omega) (by omega)]
theorem WR.tk {E : Mem} {r : Int → Int} {h : Int} (hE : EBx E) (hW : WR E r) (hh : 0 ≤ h ∧ h < E 1 4) (hr : 0 ≤ r h) : WR E (tkR E r h) := by
  have f := hE.f
  have g := hE.2
  have ab12 := arF_b r (eH E)
  have a12 : w32 (r 12 + 1) = r 12 + 1 := w32_id ⟨by have := hW.2.2.2.1; omega, by have := hW.2.2.2.1; omega⟩
  have v0 : tkR E r h h = -1 := by rw [tkR_lo hE (by omega)]; unfold tk0; rw [upS]
  have v6 : tkR E r h (6 + h) = r 12 + 1 := by rw [tkR_lo hE (by omega)]; unfold tk0; rw [up_j (by omega), upS, a12]
  have v12 : tkR E r h 12 = r 12 + 1 := by rw [tkR_lo hE (by omega)]; unfold tk0; rw [up_j (by omega), up_j (by omega), upS, a12]
  have oth : ∀ i, 0 ≤ i → i < E 1 4 → i ≠ h → tkR E r h i = r i ∧ tkR E r h (6 + i) = r (6 + i) := fun i a q w => ⟨by rw [tkR_lo hE (by omega), tk0_o w (by omega) (by omega)], by rw [tkR_lo hE (by omega), tk0_o (by omega) (by omega) (by omega)]⟩
  refine ⟨fun i j i0 i1 j0 j1 q p => ?_, fun i i0 i1 => ?_, fun m m0 m1 => ?_, ?_, by rw [tkR_37 hE (by omega)]; exact hW.2.2.2.2⟩
  · by_cases ci : i = h
    · rw [ci, v0] at p; omega
    · by_cases cj : j = h
      · rw [cj, v0] at q; omega
      · rw [(oth i i0 i1 ci).1, (oth j j0 j1 cj).1] at q
        rw [(oth i i0 i1 ci).1] at p
        exact hW.1 i j i0 i1 j0 j1 q p
  · by_cases ci : i = h
    · rw [ci, v0, v6]
      have := hW.2.2.2.1
      exact Or.inl ⟨rfl, by omega⟩
    · rw [(oth i i0 i1 ci).1, (oth i i0 i1 ci).2]
      exact hW.2.1 i i0 i1
  · have b := hW.2.2.1 m m0 m1
    obtain ⟨e1, e2, e3⟩ := tkR_m (r := r) hE (show 0 ≤ h ∧ h < 6 by omega) ⟨m0, m1⟩
    rw [e1, e2, e3]
    refine ⟨?_, b.2.1, b.2.2⟩
    split
    · omega
    · exact b.1
  · rw [v12, hW.2.2.2.1]
    exact (arF_p hh.1 (by omega) hr (by rw [v0]; decide) (fun i i0 i1 ci => (oth i i0 (by omega) ci).1)).symm
theorem fol_tk {E : Mem} {r : Int → Int} {h : Int} (hE : EBx E) (hW : WR E r) (hf : fol E r) (hh : 0 ≤ h ∧ h < E 1 4) : fol E (tkR E r h) := by
  have f := hE.f
  have g := hE.2
  intro m p q w
  have b := (hW.2.2.1 m p q).1
  obtain ⟨e1, e2, e3⟩ := tkR_m (r := r) hE (show 0 ≤ h ∧ h < 6 by omega) ⟨p, q⟩
  rw [e2] at w
  rw [e3]
  by_cases c : r (21 + m) = h
  · rw [if_pos c]
    exact Or.inl (by decide)
  · rw [if_neg c]
    rcases hf m p q w with u | u
    · exact Or.inl u
    · by_cases d : r (21 + m) < 0
      · exact Or.inl d
      · refine Or.inr ?_
        rw [tkR_lo hE (by omega), tk0_o c (by omega) (by omega)]
        exact u
theorem tk_sim {E : Mem} {r : Int → Int} {h : Int} (hE : EBx E) (hh : 0 ≤ h ∧ h < E 1 4) : SIM E (tkR E r h) (tfL h (up r h (-1)) (eO E)) := by
  have f := hE.f
  have g := hE.2
  have lo : ∀ j, 0 ≤ j → j < 6 → tkR E r h j = up r h (-1) j := by
    intro j p q
    rw [tkR_lo hE (by omega)]
    by_cases c : j = h
    · rw [c]
      unfold tk0
      rw [upS, upS]
    · rw [tk0_o c (by omega) (by omega), up_j c]
  refine ⟨fun j p q => ?_, ?_, fun m p q => ?_⟩
  · rw [tfL_o (eO E) j (by omega) (by omega), lo j p q]
  · rw [tfL_o (eO E) 37 (by omega) (by omega), tkR_37 hE (by omega), up_j (by omega)]
  · obtain ⟨e1, e2, e3⟩ := tkR_m (r := r) hE (show 0 ≤ h ∧ h < 6 by omega) ⟨p, q⟩
    rw [e1, e2, e3, tfL_o (eO E) (13 + m) (by omega) (by omega), tfL_o (eO E) (29 + m) (by omega) (by omega), tfL_i (eO E) m (by omega) p (by omega), up_j (show 13 + m ≠ h by omega), up_j (show 29 + m ≠ h by omega), up_j (show 21 + m ≠ h by omega)]
    refine ⟨rfl, rfl, fun u => ?_, fun x x0 x1 xr => ?_⟩
    · by_cases c : r (21 + m) = h
      · rw [if_pos ⟨u, c⟩, if_pos c]
      · rw [if_neg (fun v => c v.2), if_neg c]
    · have xh : x ≠ h := by
        intro e
        rw [lo x x0 (by omega), e, upS] at xr
        omega
      by_cases c : r (21 + m) = h
      · rw [if_pos c]
        by_cases u : r (29 + m) < 0
        · rw [if_pos ⟨u, c⟩]
        · rw [if_neg (fun v => u v.1)]
          exact ⟨fun v => by omega, fun v => by omega⟩
      · rw [if_neg c, if_neg (fun v => c v.2)]
theorem gX6_takeAway_L7 {p1 : Int} {Q : Mem → Prop} {M0 E : Mem} {a : Int → Int} (hE : EBx E) (hQ : ∀ M' : Mem, IX M' → Ks (fun k _ => k = 13) M0 M' → SC E M' 8 (tqL p1 a (eO E)) → Q M') : ∀ (n : Nat) (v2 : Int) (M : Mem), IX M → Ks (fun k _ => k = 13) M0 M → SC E M 8 (tqL p1 a v2.toNat) → (0 ≤ v2 ∧ v2 ≤ E 1 5) → E 1 5 - v2 < (n : Int) → qX6_takeAway_L7 8 p1 Q n v2 M := by
  have f := hE.f
  have g := hE.2
  intro n
  induction n with
  | zero => intro v2 M hI hK hC hv hm; exact absurd hm (by omega)
  | succ n ih =>
    intro v2 M hI hK hC hv hm
    rw [qX6_takeAway_L7]
    intro x2 e2 _
    rw [hC.2.1] at e2
    refine ⟨⟨by omega, by omega⟩, ⟨fun c => ?_, fun c => ⟨hv.1, by omega, ?_⟩⟩⟩
    · rw [show v2.toNat = eO E from by omega] at hC
      exact hQ M hI hK hC
    · intro x7 e7 _
      have c7 : x7 = a (21 + v2) := by
        rw [e7, hC.2.2.2.2.2.2.2.1 v2 hv.1 (by omega)]
        exact tqL_o v2.toNat (21 + v2) (by omega) (by omega)
      have st : tqL p1 a (v2 + 1).toNat = if a (21 + v2) = p1 then up (tqL p1 a v2.toNat) (21 + v2) (-1) else tqL p1 a v2.toNat := by
        rw [show (v2 + 1).toNat = v2.toNat + 1 from by omega]
        show (if a (21 + (v2.toNat : Nat)) = p1 then up (tqL p1 a v2.toNat) (21 + (v2.toNat : Nat)) (-1) else tqL p1 a v2.toNat) = _
        rw [show ((v2.toNat : Nat) : Int) = v2 from by omega]
      refine ⟨fun d => ?_, fun d => ?_⟩
      · exact ih _ M hI hK (by rw [st, if_neg (by omega)]; exact hC) (by omega) (by omega)
      · intro M9 h9
        refine ih _ M9 ?_ ?_ ?_ (by omega) (by omega)
        · rw [h9]
          exact hI.up (by decide) (by simp [BX])
        · rw [h9]
          exact hK.wr (by omega)
        · rw [h9, st, if_pos (by omega)]
          exact hC.foll (by omega)
theorem gX6_takeAway {p1 : Int} {Q : Mem → Prop} {M E : Mem} {r : Int → Int} (hI : IX M) (hE : EBx E) (hC : SC E M 8 r) (hW : WR E r) (hp : 0 ≤ p1 ∧ p1 < E 1 4) (hQ : ∀ M' : Mem, IX M' → Ks (fun k _ => 8 ≤ k ∧ k ≤ 14) M M' → SC E M' 8 (tkR E r p1) → Q M') : qX6_takeAway 8 p1 M Q := by
  have f := hE.f
  have g := hE.2
  have ab12 := arF_b r (eH E)
  have w12 := hW.2.2.2.1
  unfold qX6_takeAway qX6_arrive
  intro x1 e1 _ x2 e2 _ M3 h3 x4 e4 _
  have f1 : x1 = r 12 := by rw [e1]; exact hC.2.2.2.2.1
  have f2 : x2 = w32 (r 12 + 1) := by rw [e2, f1]
  have f2' : x2 = r 12 + 1 := by rw [f2]; exact w32_id ⟨by omega, by omega⟩
  have f4 : x4 = x2 := by rw [e4, h3, up2_s]
  refine ⟨hp.1, by omega, ?_⟩
  intro M7 h7 M8 h8
  have i3 : IX M3 := by rw [h3]; exact hI.up (by decide) (by first | (simp [BX]; done) | (simp [BX]; omega))
  have i7 : IX M7 := by rw [h7]; exact i3.up (by decide) (by first | (simp [BX]; done) | (simp [BX]; omega))
  have i8 : IX M8 := by rw [h8]; exact i7.up (by decide) (by simp [BX])
  have k8 : Ks (fun k _ => 8 ≤ k ∧ k ≤ 14) M M8 := by rw [h8, h7, h3]; exact ((Ks.rf.wr (by omega)).wr (by omega)).wr (by omega)
  have c8 : SC E M8 8 (tk0 r p1) := by
    rw [h8, h7, h3, f4, f2]
    exact hC.arr (by omega)
  refine ⟨9, gX6_takeAway_L7 (M0 := M8) (a := tk0 r p1) hE ?_ 9 0 M8 i8 Ks.rf c8 (by omega) (by omega)⟩
  intro M' i' k' c'
  exact hQ M' i' (k8.tr (k'.mono (by intro k j q; omega))) c'
noncomputable def mlC (E : Mem) (r : Int → Int) (h : Int) : Int := bcF (aI (rgE E (tkR E r h)) (xI (bitF (E 3) h (eO E)) (-1)))
noncomputable def mlF (E : Mem) (r : Int → Int) : Nat → Int → Int → Int → Int
  | 0, w, _, _ => w
  | n + 1, w, most, h => if E 1 4 ≤ h then w else if r h < 0 then mlF E r n w most (h + 1) else if mlC E r h ≤ most then mlF E r n w (max most (mlC E r h)) (h + 1) else mlF E r n h (max most (mlC E r h)) (h + 1)
theorem gX11_misleads_L27 {T : Int} {X129 : Int → Int → Int → Mem → Prop} {Q : Int → Mem → Prop} {M0 E : Mem} {l : Nat} {r : Int → Int} (h : TB E M0 l) (hC0 : SC E M0 1 r) (hW : WR E r) (hf : fol E r) (h37 : r 37 ≤ 1999999000) (hX : ∀ (v1 v2 v3 : Int) (M' : Mem), IX M' → Ks (kTr l) M0 M' → (v2 = -1 ∧ T = -2 ∨ (0 ≤ v2 ∧ v2 ≤ 5) ∧ v2 = T) → (-1 ≤ v3 ∧ v3 ≤ 63) → X129 v1 v2 v3 M') : ∀ (n : Nat) (v1 v2 v3 v4 w : Int) (M : Mem), IX M → Ks (kTr l) M0 M → (v2 = -1 ∧ w = -2 ∨ (0 ≤ v2 ∧ v2 ≤ 5) ∧ v2 = w) → (-1 ≤ v3 ∧ v3 ≤ 63) → (0 ≤ v4 ∧ v4 + n = 6) → mlF E r n w v3 v4 = T → qX11_misleads_L27 X129 Q (n + 1) v1 v2 v3 v4 M := by
  have hE := h.2.2.2.1.eb
  have f := hE.f
  have g := hE.2
  intro n
  induction n with
  | zero =>
    intro v1 v2 v3 v4 w M hI hK hv h3 h4 hT
    rw [qX11_misleads_L27]
    intro x4 e4 _
    have C1 : SC E M 1 r := hC0.fr (fun i j hi => hK _ j (by have := h.2.2.1; omega))
    rw [C1.1] at e4
    refine ⟨⟨by omega, by omega⟩, ⟨fun c => ?_, fun c => by omega⟩⟩
    have : w = T := hT
    rw [this] at hv
    exact hX v1 v2 v3 M hI hK hv h3
  | succ n ih =>
    intro v1 v2 v3 v4 w M hI hK hv h3 h4 hT
    rw [qX11_misleads_L27]
    intro x4 e4 _
    have C1 : SC E M 1 r := hC0.fr (fun i j hi => hK _ j (by have := h.2.2.1; omega))
    rw [C1.1] at e4
    unfold mlF at hT
    refine ⟨⟨by omega, by omega⟩, ⟨fun c => ?_, fun c => ?_⟩⟩
    · rw [if_pos (by omega)] at hT
      rw [hT] at hv
      exact hX v1 v2 v3 M hI hK hv h3
    · rw [if_neg (by omega)] at hT
      have w4 := hW.2.1 v4 h4.1 (by omega)
      refine gX6_hasArrived (k0 := 1) (by omega) ?_
      intro x7 h7 _ _
      have e6 : M (1 + 2) v4 = r (6 + v4) := C1.2.2.2.1 v4 h4.1 (by omega)
      rw [e6] at h7
      refine ⟨fun d => ?_, fun d => ?_⟩
      · rw [if_pos (by omega)] at hT
        exact ih v1 v2 v3 (v4 + 1) w M hI hK hv h3 (by omega) hT
      · rw [if_neg (by omega)] at hT
        refine trC h hC0 hI hK ?_
        intro M9 i9 k9 c9
        refine gX6_takeAway i9 hE c9 hW ⟨h4.1, by omega⟩ ?_
        intro M10 i10 k10 c10
        have K10 : Ks (kTr l) M0 M10 := k9.tr (k10.mono (by intro k j q; omega))
        refine trR h i10 K10 c10 (hW.tk hE ⟨h4.1, by omega⟩ (by omega)) (fol_tk hE hW hf ⟨h4.1, by omega⟩) (by rw [tkR_37 hE (by omega)]; exact h37) ?_
        intro M12 T' i12 k12 _ _ _ _
        have C12 : SC E M12 1 r := hC0.fr (fun i j hi => k12 _ j (by have := h.2.2.1; omega))
        refine gX6_bitsOf (h.S k12) C12.2.1 ?_
        rw [bitF_cg (f := M12 5) (g := E 3) (fun i p q => C12.2.2.2.2.2.2.1 i p (by omega))]
        intro _ x14 e14 _ x15 e15 _
        refine gJ6_bitCount ?_
        rw [e15, e14]
        intro _
        have b := bcF_b (aI (rgE E (tkR E r v4)) (xI (bitF (E 3) v4 (eO E)) (-1)))
        have em : bcF (aI (rgE E (tkR E r v4)) (xI (bitF (E 3) v4 (eO E)) (-1))) = mlC E r v4 := rfl
        rw [em] at b ⊢
        refine ⟨⟨by omega, by omega⟩, ⟨fun d2 => ?_, fun d2 => ?_⟩⟩
        · rw [if_pos d2] at hT
          unfold qX11_misleads_J115
          refine ⟨⟨by omega, by omega⟩, ⟨by omega, by omega⟩, ?_⟩
          intro x21 e21 _
          exact ih v1 v2 x21 (v4 + 1) w M12 i12 k12 hv (by omega) (by omega) (by rw [e21]; exact hT)
        · rw [if_neg d2] at hT
          unfold qX11_misleads_J115
          refine ⟨⟨by omega, by omega⟩, ⟨by omega, by omega⟩, ?_⟩
          intro x21 e21 _
          exact ih v1 v4 x21 (v4 + 1) v4 M12 i12 k12 (Or.inr ⟨by omega, rfl⟩) (by omega) (by omega) (by rw [e21]; exact hT)
theorem gX11_misleads {M E : Mem} {l : Nat} {r : Int → Int} {Q : Int → Mem → Prop} (h : TB E M l) (hC : SC E M 1 r) (hW : WR E r) (hf : fol E r) (h37 : r 37 ≤ 1999999000) (hQ : ∀ M' : Mem, IX M' → Q (mlF E r 6 (-2) (-1) 0) M') : qX11_misleads M Q := by
  have hE := h.2.2.2.1.eb
  have g := hE.2
  unfold qX11_misleads
  refine trC h hC h.1 Ks.rf ?_
  intro M1 i1 k1 c1
  refine trR h i1 k1 c1 hW hf h37 ?_
  intro M3 T i3 k3 _ _ _ _
  refine ⟨7, gX11_misleads_L27 (E := E) (M0 := M) (r := r) (T := mlF E r 6 (-2) (-1) 0) h hC hW hf h37 ?_ 6 _ (-1) (-1) 0 (-2) M3 i3 k3 (Or.inl ⟨rfl, rfl⟩) (by decide) (by decide) rfl⟩
  intro v1 v2 v3 M' i' k' hv h3
  have C' : SC E M' 1 r := hC.fr (fun i j hi => k' _ j (by have := h.2.2.1; omega))
  refine ⟨⟨by omega, by omega⟩, ⟨fun c => ⟨⟨by omega, by omega⟩, ?_⟩, fun c => ?_⟩⟩
  · refine gX6_bitsOf (h.S k') C'.2.1 ?_
    intro _ x27 _ _ x28 _ _
    refine gJ6_bitCount ?_
    intro _
    refine tell2 i' ?_
    intro M30 i30 _
    rw [show v2 = mlF E r 6 (-2) (-1) 0 from by omega]
    exact hQ M30 i30
  · rw [show (-2 : Int) = mlF E r 6 (-2) (-1) 0 from by omega]
    exact hQ M' i'
-- the reference
theorem gX12_misleads_L58 {b : Int} {h : Int} {X124 : Int → Int → Int → Int → Mem → Prop} {Q : Int → Mem → Prop} {E : Mem} {r5 g a : Int → Int} (hE : EBx E) (hh : 0 ≤ h ∧ h ≤ 5) (v1 v2 v3 : Int) (hX : ∀ M' : Mem, TM E b r5 g M' → M' 6 = tfL h a (eO E) → X124 v1 v2 v3 h M') : ∀ (n : Nat) (v5 : Int) (M : Mem), TM E b r5 g M → M 6 = tfL h a v5.toNat → (0 ≤ v5 ∧ v5 ≤ E 1 5) → E 1 5 - v5 < (n : Int) → qX12_misleads_L58 X124 Q n v1 v2 v3 h v5 M := by
  have f := hE.f
  have g2 := hE.2
  intro n
  induction n with
  | zero => intro v5 M hT h6 hv hm; exact absurd hm (by omega)
  | succ n ih =>
    intro v5 M hT h6 hv hm
    rw [qX12_misleads_L58]
    intro x13 e13 _
    rw [hT.2.1 1 5 cE15] at e13
    refine ⟨⟨by omega, by omega⟩, ⟨fun c => ?_, fun c => ?_⟩⟩
    · rw [show v5.toNat = eO E from by omega] at h6
      exact hX M hT h6
    · have st : tfL h a (v5 + 1).toNat = if a (29 + v5) < 0 ∧ a (21 + v5) = h then up (tfL h a v5.toNat) (21 + v5) (-1) else tfL h a v5.toNat := by
        rw [show (v5 + 1).toNat = v5.toNat + 1 from by omega]
        show (if a (29 + (v5.toNat : Nat)) < 0 ∧ a (21 + (v5.toNat : Nat)) = h then up (tfL h a v5.toNat) (21 + (v5.toNat : Nat)) (-1) else tfL h a v5.toNat) = _
        rw [show ((v5.toNat : Nat) : Int) = v5 from by omega]
      have o29 : M 6 (29 + v5) = a (29 + v5) := by rw [h6]; exact tfL_o v5.toNat (29 + v5) (by omega) (by omega)
      have o21 : M 6 (21 + v5) = a (21 + v5) := by rw [h6]; exact tfL_o v5.toNat (21 + v5) (by omega) (by omega)
      have put : ∀ (t : Int), iR t → (t = M 6 (21 + v5) ∨ t = -1) → up (M 6) (21 + v5) t = tfL h a (v5 + 1).toNat → qX12_misleads_J117 (qX12_misleads_L58 X124 Q n) X124 Q v1 v2 v3 h v5 t (21 + v5) M := by
        intro t rt ht e
        unfold qX12_misleads_J117
        refine ⟨by omega, by omega, rt, ?_⟩
        intro M24 h24
        obtain ⟨hI, hC, h5, ho⟩ := hT
        have bb := hI.bx 6 (21 + v5)
        refine ih _ M24 ⟨?_, ?_, ?_, ?_⟩ ?_ (by omega) (by omega)
        · rw [h24]
          refine hI.up (by omega) ?_
          rcases ht with q | q
          · rw [q]; exact bb
          · rw [q]; exact (bm_n (Or.inr rfl)).mpr ⟨by omega, by omega, by omega, by omega⟩
        · rw [h24]
          exact hC.up (by intro h; rcases h with h | h | h | h | h <;> omega)
        · rw [h24]
          funext j
          rw [up2_n (by decide)]
          exact congrFun h5 j
        · rw [h24, up2_up]
          exact ho.up (by omega)
        · rw [h24, up2_up]
          exact e
      have same : ∀ M' : Mem, M' = M → ¬ (a (29 + v5) < 0 ∧ a (21 + v5) = h) → qX12_misleads_J107 (qX12_misleads_L58 X124 Q n) X124 Q v1 v2 v3 h v5 (21 + v5) M' := by
        intro M' e no
        rw [e]
        unfold qX12_misleads_J107
        refine ⟨by omega, by omega, ?_⟩
        intro x20 e20 r20
        refine put x20 r20 (Or.inl e20) ?_
        rw [e20, up_id, st, if_neg no]
        exact h6
      refine gX12_isEnded (k0 := 6) (by omega) ?_
      intro x16 h16 _ _
      rw [o29] at h16
      refine ⟨fun d => same M rfl (fun q => by omega), fun d => ⟨by omega, by omega, ?_⟩⟩
      intro x27 e27 _
      rw [o21] at e27
      refine ⟨⟨by omega, by omega⟩, ⟨fun d2 => same M rfl (fun q => by omega), fun d2 => ?_⟩⟩
      refine put (-1) ⟨by decide, by decide⟩ (Or.inr rfl) ?_
      rw [st, if_pos ⟨by omega, by omega⟩, h6]
theorem gX12_misleads_L22 {T b : Int} {X168 : Int → Int → Int → Mem → Prop} {Q : Int → Mem → Prop} {E : Mem} {r5 g : Int → Int} (hE : EBx E) (ho : ∀ m, 0 ≤ m → m < E 1 5 → 0 ≤ E 3 m ∧ E 3 m < E 1 4) (hW : WR E (cr r5 g)) (hb : b + 3000 ≤ 2000000000) (hX : ∀ (v1 v3 : Int) (M' : Mem), IM (b + 3000) M' → CE E M' → (-2 ≤ T ∧ T ≤ 5) → (T = -2 ∨ 0 ≤ T) → (-1 ≤ v3 ∧ v3 ≤ 63) → X168 v1 T v3 M') : ∀ (n : Nat) (v1 v2 v3 v4 : Int) (M : Mem), TM E (b + 200 * (v4 + 1)) r5 g M → ((-2 ≤ v2 ∧ v2 ≤ 5) ∧ (v2 = -2 ∨ 0 ≤ v2)) → (-1 ≤ v3 ∧ v3 ≤ 63) → (0 ≤ v4 ∧ v4 + n = 6) → mlF E (cr r5 g) n v2 v3 v4 = T → qX12_misleads_L22 X168 Q (n + 1) v1 v2 v3 v4 M := by
  have f := hE.f
  have g2 := hE.2
  intro n
  induction n with
  | zero =>
    intro v1 v2 v3 v4 M hT h2 h3 h4 hE'
    rw [qX12_misleads_L22]
    intro x4 e4 _
    rw [hT.2.1 1 4 cE14] at e4
    refine ⟨⟨by omega, by omega⟩, ⟨fun c => ?_, fun c => by omega⟩⟩
    have : v2 = T := hE'
    rw [this] at h2 ⊢
    exact hX v1 v3 M (hT.1.mono (by omega)) hT.2.1 h2.1 h2.2 h3
  | succ n ih =>
    intro v1 v2 v3 v4 M hT h2 h3 h4 hE'
    rw [qX12_misleads_L22]
    intro x4 e4 _
    rw [hT.2.1 1 4 cE14] at e4
    unfold mlF at hE'
    refine ⟨⟨by omega, by omega⟩, ⟨fun c => ?_, fun c => ?_⟩⟩
    · rw [if_pos (by omega)] at hE'
      rw [hE'] at h2 ⊢
      exact hX v1 v3 M (hT.1.mono (by omega)) hT.2.1 h2.1 h2.2 h3
    · rw [if_neg (by omega)] at hE'
      refine gX12_isOn (k0 := 5) (by omega) ?_
      intro x7 h7 _ _
      rw [hT.2.2.1, ← cr_i (f := r5) (g := g) (j := v4) (by omega) (by omega)] at h7
      refine ⟨fun d => ?_, fun d => ?_⟩
      · rw [if_pos (by omega)] at hE'
        exact ih v1 v2 v3 (v4 + 1) M (hT.mono (by omega)) h2 h3 (by omega) hE'
      · rw [if_neg (by omega)] at hE'
        refine cpM hT ?_
        intro M9 t9 e9
        refine ⟨by omega, by omega, ?_⟩
        intro M12 h12
        have e12 : M12 6 = up (cr r5 g) v4 (-1) := by rw [h12, up2_up, e9]
        have t12 : TM E (b + 200 * (v4 + 1)) r5 g M12 := by
          obtain ⟨i9, E9, k9, o9⟩ := t9
          refine ⟨?_, ?_, ?_, ?_⟩
          · rw [h12]
            exact i9.up (by omega) ((bm_n (Or.inr rfl)).mpr ⟨by omega, by omega, by omega, by omega⟩)
          · rw [h12]
            exact E9.up (by intro h; rcases h with h | h | h | h | h <;> omega)
          · rw [h12]
            funext j
            rw [up2_n (by decide)]
            exact congrFun k9 j
          · rw [e12]
            exact (OUT.cr r5 g).up (by omega)
        refine ⟨9, gX12_misleads_L58 (h := v4) (a := up (cr r5 g) v4 (-1)) hE (by omega) v1 v2 v3 ?_ 9 0 M12 t12 (by rw [e12]; rfl) (by omega) (by omega)⟩
        intro M' t' e'
        refine rtS (r := tkR E (cr r5 g) v4) t' ho (hW.tk hE ⟨h4.1, by omega⟩ (by omega)) (by rw [e']; exact tk_sim hE ⟨h4.1, by omega⟩) (by omega) ?_
        intro M31 t31 _
        refine ⟨⟨by omega, by omega⟩, ?_⟩
        refine gX12_owners t31.1 t31.2.1 ?_
        intro _ x34 e34 _ x35 e35 _
        refine gJ6_bitCount ?_
        rw [e35, e34]
        intro _
        have bb := bcF_b (aI (rgE E (tkR E (cr r5 g) v4)) (xI (bitF (E 3) v4 (eO E)) (-1)))
        have em : bcF (aI (rgE E (tkR E (cr r5 g) v4)) (xI (bitF (E 3) v4 (eO E)) (-1))) = mlC E (cr r5 g) v4 := rfl
        rw [em] at bb ⊢
        refine ⟨⟨by omega, by omega⟩, ⟨fun d2 => ?_, fun d2 => ?_⟩⟩
        · rw [if_pos d2] at hE'
          unfold qX12_misleads_J154
          refine ⟨⟨by omega, by omega⟩, ⟨by omega, by omega⟩, ?_⟩
          intro x41 e41 _
          exact ih v1 v2 x41 (v4 + 1) M31 (t31.mono (by omega)) h2 (by omega) (by omega) (by rw [e41]; exact hE')
        · rw [if_neg d2] at hE'
          unfold qX12_misleads_J154
          refine ⟨⟨by omega, by omega⟩, ⟨by omega, by omega⟩, ?_⟩
          intro x41 e41 _
          exact ih v1 v4 x41 (v4 + 1) M31 (t31.mono (by omega)) ⟨by omega, by omega⟩ (by omega) (by omega) (by rw [e41]; exact hE')
theorem gX12_misleads {M E : Mem} {b : Int} {Q : Int → Mem → Prop} (hI : IM b M) (hE : CE E M) (ho : ∀ m, 0 ≤ m → m < E 1 5 → 0 ≤ E 3 m ∧ E 3 m < E 1 4) (hW : WR E (cr (M 5) (M 6))) (hb : b + 3000 ≤ 2000000000) (hQ : ∀ M' : Mem, IM (b + 3000) M' → Q (mlF E (cr (M 5) (M 6)) 6 (-2) (-1) 0) M') : qX12_misleads M Q := by
  have E0 := hE.eb hI
  unfold qX12_misleads
  intro M1 h1
  obtain ⟨i1, E1, k5, k6, _⟩ := th0 hI hE h1
  refine cpM (b := b) (E := E) (r5 := M 5) (g := M 6) ⟨i1, E1, k5, by rw [k6]; exact fun _ _ => rfl⟩ ?_
  intro M2 t2 e2
  refine rtM t2 ho (by rw [e2]; exact hW) (by omega) ?_
  rw [e2]
  intro M3 t3 _ _
  refine ⟨7, gX12_misleads_L22 (E := E) (b := b) (r5 := M 5) (g := M 6) (T := mlF E (cr (M 5) (M 6)) 6 (-2) (-1) 0) E0 ho hW hb ?_ 6 _ (-2) (-1) 0 M3 (t3.mono (by omega)) (by decide) (by decide) (by decide) rfl⟩
  intro v1 v3 M' i' E' hT1 hT2 h3
  refine ⟨⟨by omega, by omega⟩, ⟨fun c => hQ M' i', fun c => ?_⟩⟩
  intro M45 h45
  have i45 : IM (b + 3000) M45 := by rw [h45]; exact i'.up (by omega) (bm_c1_1.mpr (by decide))
  have E45 : CE E M45 := by rw [h45]; exact E'.up (by decide)
  have t45 : M45 1 1 = 0 := by rw [h45, up2_s]
  refine ⟨⟨by omega, by omega⟩, ?_⟩
  refine entC i45 (by omega) ?_
  intro M47 i47 k47 t47
  have E47 : CE E M47 := fun k j c => (k47 k j (by rcases c with c | c | c | c | c <;> omega)).trans (E45 k j c)
  refine gX12_owners i47 E47 ?_
  intro _ x49 _ _ x50 _ _
  refine gJ6_bitCount ?_
  intro _
  refine entC i47 (by omega) ?_
  intro M52 i52 _ _
  exact hQ M52 i52
