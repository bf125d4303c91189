/-! THE RULE'S TEXT: the class reads it to its end -/
def c40 : List Int → Int
  | [] => 0
  | c :: W => c40 W + (if c = 40 then 1 else 0)
theorem c40_rls {b : Int} (hb : 1 ≤ b) : ∀ (W : List Int) (O : List (Int × Int)), c40 (rls b W O).1 = c40 W
  | [], _ => rfl
  | c :: W, O => by
    show c40 (if bnd c < b then (c :: W, O) else rls b W ((c, 0) :: O)).1 = c40 W + (if c = 40 then 1 else 0)
    by_cases d : bnd c < b
    · rw [if_pos d]; rfl
    · rw [if_neg d, c40_rls hb W, if_neg ((bnd_b c).2.2 (by omega)).2.2]
      omega
theorem c40_tl (W : List Int) : c40 W - 1 ≤ c40 W.tail := by
  cases W with
  | nil => show (0 : Int) - 1 ≤ 0; decide
  | cons c W =>
    show c40 W + (if c = 40 then 1 else 0) - 1 ≤ c40 W
    split <;> omega
theorem c40_c (c : Int) (W : List Int) : c40 W ≤ c40 (c :: W) := by
  show c40 W ≤ c40 W + (if c = 40 then 1 else 0)
  split <;> omega
theorem pst_c {f : Int → Int} {t w dp a : Int} {W : List Int} {O : List (Int × Int)} {S1 : PSt} (hc : dp ≤ c40 W) (h : pst f t (w, dp, W, O, a) = some S1) : S1.2.1 ≤ c40 S1.2.2.1 := by
  by_cases cw : w = 1
  · subst cw
    by_cases c1 : 0 ≤ (nm3 f t a).1
    · rw [pst_1 c1] at h
      have e := Option.some.inj h
      subst e
      exact hc
    · by_cases c2 : f a = 45
      · rw [pst_2 c2] at h
        have e := Option.some.inj h
        subst e
        show dp ≤ c40 (302 :: W)
        have := c40_c 302 W
        omega
      · by_cases c3 : f a = 40 ∧ dp < 4
        · rw [pst_3 c3.1 c3.2] at h
          have e := Option.some.inj h
          subst e
          show dp + 1 ≤ c40 W + (if (40 : Int) = 40 then 1 else 0)
          rw [if_pos rfl]
          omega
        · by_cases c4 : 0 ≤ ixS (bS 0) (f a)
          · rw [pst_4 (by omega) c2 c3 c4] at h
            have e := Option.some.inj h
            subst e
            exact hc
          · rw [pst_5 (by omega) c2 c3 (by omega)] at h
            cases h
  · by_cases c1 : f a = 41 ∧ 0 < dp
    · rw [pst_6 cw c1.1 c1.2] at h
      have e := Option.some.inj h
      subst e
      show dp - 1 ≤ c40 (rls 1 W O).1.tail
      have := c40_tl (rls 1 W O).1
      rw [c40_rls (by decide)] at this
      omega
    · by_cases c2 : bnd (f a) = 1
      · by_cases c3 : lbd (rls 2 W O).1 = 1
        · rw [pst_7 cw c2 c3] at h
          cases h
        · rw [pst_8 cw c2 c3] at h
          have e := Option.some.inj h
          subst e
          show dp ≤ c40 (f a :: (rls 2 W O).1)
          have := c40_c (f a) (rls 2 W O).1
          rw [c40_rls (by decide)] at this
          omega
      · by_cases c3 : 1 < bnd (f a)
        · rw [pst_9 cw c3] at h
          have e := Option.some.inj h
          subst e
          show dp ≤ c40 (f a :: (rls (bnd (f a)) W O).1)
          have := c40_c (f a) (rls (bnd (f a)) W O).1
          rw [c40_rls (by omega)] at this
          omega
        · rw [pst_0 cw c1 (by omega)] at h
          cases h
theorem gX5_takeSign {k2 : Nat} {M : Mem} {Q : Int → Mem → Prop} {f : Int → Int} {t dp a : Int} {W : List Int} {O : List (Int × Int)} (hI : IX M) (hk2 : isL k2) (hf : ∀ j, 0 ≤ j → j < t → M 157 j = f j) (ht : M 156 3 = t) (ha : 0 ≤ a ∧ a < t) (hl : W.length + O.length < 40) (hc : dp ≤ c40 W) (hR : REP k2 M 0 dp W O a) (hN : ∀ M' : Mem, IX M' → Ks (kRw k2) M M' → M' 156 2 = a → pst f t (0, dp, W, O, a) = none → Q 0 M') (hY : ∀ (S1 : PSt) (M' : Mem), IX M' → Ks (kRw k2) M M' → pst f t (0, dp, W, O, a) = some S1 → REPs k2 M' S1 → Q 1 M') : qX5_takeSign k2 M Q := by
  have ek2 : k2 = 187 ∨ k2 = 192 := hk2
  obtain ⟨hw, hd, hW, hO, h2⟩ := hR
  have bd := bx_c185_2.mp (hI.bx 185 2)
  have n01 : (0 : Int) ≠ 1 := by decide
  have J116 : ∀ (M1 : Mem) (w' dp' : Int) (W' : List Int) (O' : List (Int × Int)), IX M1 → Ks (kRw k2) M M1 → pst f t (0, dp, W, O, a) = some (w', dp', W', O', a + 1) → REP k2 M1 w' dp' W' O' a → qX5_takeSign_J116 k2 Q M1 := by
    intro M1 w' dp' W' O' i1 k1 hs r1
    unfold qX5_takeSign_J116
    refine gX9_pass i1 ?_
    intro M2 i2 k2' p2
    have e3 : M1 156 3 = t := by rw [k1 156 3 (by omega)]; exact ht
    obtain ⟨r3, r4, r5, r6, r7⟩ := r1
    refine hY _ M2 i2 (k1.tr (k2'.mono (by intro k j h; omega))) hs ⟨?_, ?_, ?_, ?_, ?_⟩
    · rw [k2' 185 3 (by omega)]; exact r3
    · rw [k2' 185 2 (by omega)]; exact r4
    · exact r5.fr (k2' 185 1 (by omega)) (funext fun j => k2' 186 j (by omega))
    · exact r6.fr (k2' _ _ (by omega)) (k2' _ _ (by omega)) (funext fun j => k2' _ j (by omega)) (funext fun j => k2' _ j (by omega))
    · show M2 156 2 = a + 1
      omega
  -- a sign that is held
  have HOLD : ∀ (M7 : Mem) (b : Int), 1 ≤ b → IX M7 → Ks (kRl k2) M M7 → RWt M7 (rls b W O).1 → ROl k2 M7 (rls b W O).2 → pst f t (0, dp, W, O, a) = some (1, dp, f a :: (rls b W O).1, (rls b W O).2, a + 1) → qX5_hold (f a) M7 (fun (M9 : Mem) => (∀ M10 : Mem, M10 = up2 M9 185 3 1 → (qX5_takeSign_J116 k2 Q M10))) := by
    intro M7 b hb i7 k7 w7 o7 hs
    have ll := rls_len b W O
    refine gX5_hold i7 w7 (by omega) ?_
    intro M9 i9 k9 w9 M10 h10
    have i10 : IX M10 := by rw [h10]; exact i9.up (by decide) (by simp [BX])
    have K9 : Ks (kRw k2) M M9 := (k7.mono (by intro k j h; omega)).tr (k9.mono (by intro k j h; omega))
    refine J116 M10 _ _ _ _ i10 (by rw [h10]; exact K9.wr (by omega)) hs ⟨by rw [h10, up2_s], ?_, ?_, ?_, ?_⟩
    · rw [h10, up2_j (by decide), k9 185 2 (by omega), k7 185 2 (by omega)]; exact hd
    · exact w9.fr (by rw [h10, up2_j (by decide)]) (by rw [h10, up2_n (by decide)])
    · exact o7.fr (by rw [h10, up2_n (by omega), k9 _ _ (by omega)]) (by rw [h10, up2_n (by omega), k9 _ _ (by omega)]) (by rw [h10, up2_n (by omega)]; exact funext fun j => k9 _ j (by omega)) (by rw [h10, up2_n (by omega)]; exact funext fun j => k9 _ j (by omega))
    · rw [h10, up2_n (by decide), k9 156 2 (by omega), k7 156 2 (by omega)]; exact h2
  unfold qX5_takeSign
  refine gX9_look hI ?_
  intro x1 p1 r1
  rw [h2, ht] at p1
  have f1 : x1 = f a := by
    rcases p1 with q | q
    · rw [q.2]; exact hf a ha.1 ha.2
    · omega
  rw [f1] at r1 ⊢
  refine gX5_bindingOf ?_
  intro rb
  have bb := bnd_b (f a)
  have J53 : ¬ (f a = 41 ∧ 0 < dp) → qX5_takeSign_J53 k2 Q (f a) (bnd (f a)) M := by
    intro n41
    unfold qX5_takeSign_J53
    refine ⟨rb, ⟨fun c => ⟨fun c2 => ?_, fun c2 => ?_⟩, fun c => ?_⟩⟩
    · exact hN M hI Ks.rf h2 (pst_0 n01 n41 (by omega))
    · refine gX5_release hI hk2 (by omega) hW hO (by omega) ?_
      intro M7 i7 k7 w7 o7
      exact ⟨r1, HOLD M7 _ (by omega) i7 k7 w7 o7 (pst_9 n01 (by omega))⟩
    · refine gX5_release hI hk2 (by decide) hW hO (by omega) ?_
      intro M12 i12 k12 w12 o12
      have ll := rls_len 2 W O
      refine gX5_latestBinding w12 (by omega) ?_
      intro rl
      refine ⟨fun c3 => ⟨r1, HOLD M12 2 (by decide) i12 k12 w12 o12 (pst_8 n01 c c3)⟩, fun c3 => ?_⟩
      exact hN M12 i12 (k12.mono (by intro k j h; omega)) (by rw [k12 156 2 (by omega)]; exact h2) (pst_7 n01 c c3)
  refine ⟨fun c => J53 (fun q => c q.1), fun c => ?_⟩
  intro x18 e18 _
  refine ⟨fun c2 => J53 (fun q => by omega), fun c2 => ?_⟩
  refine gX5_release hI hk2 (by decide) hW hO (by omega) ?_
  intro M20 i20 k20 w20 o20
  have hs := pst_6 (f := f) (t := t) (w := 0) (dp := dp) (a := a) (W := W) (O := O) n01 c (by omega)
  have hc2 : 1 ≤ c40 (rls 1 W O).1 := by rw [c40_rls (by decide)]; omega
  have w1 := w20.1
  have ll := rls_len 1 W O
  intro x21 e21 _
  refine ⟨⟨by omega, by omega⟩, ?_⟩
  intro M23 h23 x24 e24 _
  have f24 : x24 = dp := by rw [e24, h23, up2_j (by decide), k20 185 2 (by omega)]; exact hd
  refine ⟨⟨by omega, by omega⟩, ?_⟩
  intro M26 h26
  have TL : M26 185 1 = ((rls 1 W O).1.tail.length : Int) ∧ SK (M26 186) (rls 1 W O).1.tail ∧ 1 ≤ x21 := by
    have e186 : M26 186 = M20 186 := by rw [h26, up2_n (by decide), h23, up2_n (by decide)]
    have e1 : M26 185 1 = x21 - 1 := by rw [h26, up2_j (by decide), h23, up2_s]
    rw [e1, e186]
    cases hh : (rls 1 W O).1 with
    | nil =>
      rw [hh] at hc2
      exact absurd hc2 (by decide)
    | cons c' W' =>
      rw [hh] at w20 w1
      have l : ((c' :: W').length : Int) = W'.length + 1 := by show ((W'.length + 1 : Nat) : Int) = _; omega
      refine ⟨?_, w20.2.2, by omega⟩
      show x21 - 1 = (W'.length : Int)
      omega
  have i23 : IX M23 := by rw [h23]; exact i20.up (by decide) (bx_c185_1.mpr ⟨by omega, by omega⟩)
  have i26 : IX M26 := by rw [h26]; exact i23.up (by decide) (bx_c185_2.mpr ⟨by omega, by omega⟩)
  refine J116 M26 _ _ _ _ i26 ?_ hs ⟨?_, ?_, ⟨TL.1, TL.2.1⟩, ?_, ?_⟩
  · rw [h26, h23]
    exact ((k20.mono (by intro k j h; omega)).wr (by omega)).wr (by omega)
  · rw [h26, up2_j (by decide), h23, up2_j (by decide), k20 185 3 (by omega)]; exact hw
  · rw [h26, up2_s, f24]
  · exact o20.fr (by rw [h26, up2_n (by omega), h23, up2_n (by omega)]) (by rw [h26, up2_n (by omega), h23, up2_n (by omega)]) (by rw [h26, up2_n (by omega), h23, up2_n (by omega)]) (by rw [h26, up2_n (by omega), h23, up2_n (by omega)])
  · rw [h26, up2_n (by decide), h23, up2_n (by decide), k20 156 2 (by omega)]; exact h2
theorem pst_w {f : Int → Int} {t : Int} {S S1 : PSt} (h : pst f t S = some S1) : S1.1 = 0 ∨ S1.1 = 1 := by
  obtain ⟨w, dp, W, O, a⟩ := S
  rw [pst] at h
  repeat' split at h
  all_goals first
    | (have e := Option.some.inj h; subst e; first | exact Or.inl rfl | exact Or.inr rfl)
    | cases h
theorem gX5_read_L40 {k2 : Nat} {X92 : Mem → Prop} {Q : Int → Mem → Prop} {f : Int → Int} {t : Int} {M0 : Mem} {T : PSt} (hk2 : isL k2) (hf : ∀ j, 0 ≤ j → j < t → M0 157 j = f j) (ht : M0 156 3 = t) (ht4 : t ≤ 40) (hX : t ≤ T.2.2.2.2 → ∀ M' : Mem, IX M' → Ks (kRw k2) M0 M' → REPs k2 M' T → X92 M') (hQ : T.2.2.2.2 < t → ∀ M' : Mem, IX M' → Ks (kRw k2) M0 M' → M' 156 2 = T.2.2.2.2 → Q T.2.2.2.2 M') : ∀ (n : Nat) (v3 : Int) (M : Mem) (S : PSt), IX M → Ks (kRw k2) M0 M → REPs k2 M S → pru f t n S = T → (S.1 = 0 ∨ S.1 = 1) → S.2.1 ≤ c40 S.2.2.1 → (S.2.2.1.length : Int) + S.2.2.2.1.length ≤ S.2.2.2.2 → (0 ≤ v3 ∧ v3 ≤ S.2.2.2.2) → S.2.2.2.2 ≤ t → t - S.2.2.2.2 ≤ n → qX5_read_L40 k2 X92 Q (n + 1) v3 M := by
  intro n
  induction n with
  | zero =>
    intro v3 M S hI hK hR hT hw hc hl hv ha hn
    rw [qX5_read_L40]
    have e : S = T := hT
    have fin : X92 M := hX (by rw [← e]; omega) M hI hK (by rw [← e]; exact hR)
    refine ⟨⟨by omega, by omega⟩, ⟨fun _ => fin, fun c => ?_⟩⟩
    unfold qX9_isRead
    intro x1 e1 _ x2 e2 _
    have h2 := hR.2.2.2.2
    have e3 : M 156 3 = t := by rw [hK 156 3 (by rcases hk2 with rfl | rfl <;> omega)]; exact ht
    refine ⟨fun c => by omega, fun c => ?_⟩
    intro _ _
    exact ⟨fun _ => fin, fun c2 => absurd c2 (by decide)⟩
  | succ n ih =>
    intro v3 M S hI hK hR hT hw hc hl hv ha hn
    obtain ⟨w, dp, W, O, a⟩ := S
    have hR' : REP k2 M w dp W O a := hR
    have hw' : w = 0 ∨ w = 1 := hw
    have hc' : dp ≤ c40 W := hc
    have hl' : (W.length : Int) + O.length ≤ a := hl
    have hv' : 0 ≤ v3 ∧ v3 ≤ a := hv
    have ha' : a ≤ t := ha
    have hn' : t - a ≤ ((n + 1 : Nat) : Int) := hn
    have h2 : M 156 2 = a := hR'.2.2.2.2
    have e3 : M 156 3 = t := by rw [hK 156 3 (by rcases hk2 with rfl | rfl <;> omega)]; exact ht
    have hf' : ∀ j, 0 ≤ j → j < t → M 157 j = f j := fun j p q => by rw [hK 157 j (by rcases hk2 with rfl | rfl <;> omega)]; exact hf j p q
    rw [qX5_read_L40]
    have fin : t ≤ a → X92 M := by
      intro q
      have e : (w, dp, W, O, a) = T := by rw [← hT]; exact (pru_s (S := (w, dp, W, O, a)) (Or.inl q)).symm
      exact hX (by rw [← e]; exact q) M hI hK (by rw [← e]; exact hR)
    refine ⟨⟨by omega, by omega⟩, ⟨fun c => fin (by omega), fun c => ?_⟩⟩
    unfold qX9_isRead
    intro x1 e1 _ x2 e2 _
    refine ⟨fun c2 => ?_, fun c2 => ?_⟩
    · intro _ _
      refine ⟨fun c3 => absurd rfl c3, fun _ => ?_⟩
      have NO : ∀ M' : Mem, IX M' → Ks (kRw k2) M M' → M' 156 2 = a → pst f t (w, dp, W, O, a) = none → ∀ x : Int, x = M' 156 2 → Q x M' := by
        intro M' i' k' a' hn x ex
        have e : (w, dp, W, O, a) = T := by rw [← hT]; exact (pru_s (S := (w, dp, W, O, a)) (Or.inr hn)).symm
        have q := hQ (by rw [← e]; show a < t; omega) M' i' (hK.tr k') (by rw [← e]; exact a')
        rw [← e] at q
        rw [ex, a']
        exact q
      have YES : ∀ (S1 : PSt) (M' : Mem), IX M' → Ks (kRw k2) M M' → pst f t (w, dp, W, O, a) = some S1 → REPs k2 M' S1 → qX5_read_L40 k2 X92 Q (n + 1) (v3 + 1) M' := by
        intro S1 M' i' k' hs r'
        have b := pst_b (show a < t by omega) hs
        have c := pst_c hc' hs
        refine ih (v3 + 1) M' S1 i' (hK.tr k') r' ?_ (pst_w hs) c (by omega) (by omega) b.2.1 (by omega)
        rw [← hT]
        exact (pru_n (S := (w, dp, W, O, a)) (show a < t by omega) hs).symm
      intro x12 e12 _
      have f12 : x12 = w := by rw [e12]; exact hR'.1
      refine ⟨fun c3 => ?_, fun c3 => ?_⟩
      · have w0 : w = 0 := by omega
        rw [w0] at hR' NO YES
        refine gX5_takeSign hI hk2 hf' e3 (by omega) (by omega) hc' hR' ?_ ?_
        · intro M' i' k' a' hn _ _
          refine ⟨fun q => absurd rfl q, fun _ => ?_⟩
          intro x16 e16 _
          exact NO M' i' k' a' hn x16 e16
        · intro S1 M' i' k' hs r' _ _
          exact ⟨fun _ => YES S1 M' i' k' hs r', fun q => absurd q (by decide)⟩
      · have w0 : w = 1 := by omega
        rw [w0] at hR' NO YES
        refine gX5_takeThing hI hk2 hf' e3 (by omega) (by omega) hR' ?_ ?_
        · intro M' i' k' a' hn _ _
          refine ⟨fun _ => ?_, fun q => absurd rfl q⟩
          intro x19 e19 _
          exact NO M' i' k' a' hn x19 e19
        · intro S1 M' i' k' hs r' _ _
          exact ⟨fun q => absurd q (by decide), fun _ => YES S1 M' i' k' hs r'⟩
    · intro _ _
      exact ⟨fun _ => fin (by omega), fun c3 => absurd c3 (by decide)⟩
/-- where the text of len signs f ends up; what the class says of it; its law -/
def rlS (f : Int → Int) (len : Int) : PSt := pru f (min len 40) 40 (1, 0, [], [], 0)
def rlz (f : Int → Int) (len : Int) : Int := if len = 0 then -1 else if (rlS f len).2.2.2.2 < min len 40 ∨ (rlS f len).1 = 1 ∨ 0 < (rlS f len).2.1 ∨ 40 < len then (rlS f len).2.2.2.2 else -1
def plO : List (Int × Int) := [(43, 0), (62, 0), (300, 2), (301, 1), (300, 1)]
def rlO (f : Int → Int) (len : Int) : List (Int × Int) := if len = 0 then plO else (rls 1 (rlS f len).2.2.1 (rlS f len).2.2.2.1).2
theorem pru_b {f : Int → Int} {t : Int} : ∀ (n : Nat) (S : PSt), S.2.2.2.2 ≤ t → (S.1 = 0 ∨ S.1 = 1) → (S.2.2.1.length : Int) + S.2.2.2.1.length ≤ S.2.2.2.2 → S.2.2.2.2 ≤ (pru f t n S).2.2.2.2 ∧ (pru f t n S).2.2.2.2 ≤ t ∧ ((pru f t n S).1 = 0 ∨ (pru f t n S).1 = 1) ∧ ((pru f t n S).2.2.1.length : Int) + (pru f t n S).2.2.2.1.length ≤ (pru f t n S).2.2.2.2
  | 0, S, h, h2, h3 => ⟨Int.le_refl _, h, h2, h3⟩
  | n + 1, (w, dp, W, O, a), h, h2, h3 => by
    have h' : a ≤ t := h
    have h3' : (W.length : Int) + O.length ≤ a := h3
    by_cases c : a < t
    · cases hs : pst f t (w, dp, W, O, a) with
      | none =>
        rw [pru_s (Or.inr hs)]
        exact ⟨Int.le_refl _, h, h2, h3⟩
      | some S1 =>
        rw [pru_n (S := (w, dp, W, O, a)) c hs]
        have b := pst_b c hs
        have i := pru_b (f := f) n S1 b.2.1 (pst_w hs) (by omega)
        refine ⟨?_, i.2⟩
        show a ≤ _
        omega
    · rw [pru_s (Or.inl (show t ≤ a by omega))]
      exact ⟨Int.le_refl _, h, h2, h3⟩
theorem rlS_b {f : Int → Int} {len : Int} (h : 0 ≤ len) : 0 ≤ (rlS f len).2.2.2.2 ∧ (rlS f len).2.2.2.2 ≤ min len 40 ∧ ((rlS f len).1 = 0 ∨ (rlS f len).1 = 1) ∧ ((rlS f len).2.2.1.length : Int) + (rlS f len).2.2.2.1.length ≤ (rlS f len).2.2.2.2 := by
  have := pru_b (f := f) (t := min len 40) 40 (1, 0, [], [], 0) (show (0 : Int) ≤ min len 40 by omega) (Or.inr rfl) (show ((0 : Nat) : Int) + ((0 : Nat) : Int) ≤ 0 by decide)
  exact this
theorem gX2_plain {k0 : Nat} {M : Mem} {Q : Mem → Prop} (hI : IX M) (hk0 : isL k0) (hQ : ∀ M' : Mem, IX M' → Ks (kAl k0) M M' → ROl k0 M' plO → Q M') : qX2_becomePlain k0 M Q := by
  have ek0 : k0 = 187 ∨ k0 = 192 := hk0
  unfold qX2_becomePlain qX2_clear
  intro M1 h1 M2 h2
  have i1 : IX M1 := by rw [h1]; exact hI.up (isL.nsp0 hk0) ((bx_l4 hk0).mpr ⟨by omega, by omega⟩)
  have i2 : IX M2 := by rw [h2]; exact i1.up (isL.nsp0 hk0) (bx_lf0 hk0 (by decide))
  have k2 : Ks (kAl k0) M M2 := by rw [h2, h1]; exact (Ks.rf.wr (by omega)).wr (by omega)
  have o2 : ROl k0 M2 [] := ⟨by rw [h2, up2_j (by decide), h1, up2_s]; rfl, trivial⟩
  refine gX2_add i2 hk0 (Or.inl ⟨rfl, by decide, by decide⟩) (fun w => absurd w (by decide)) o2 (by decide) ?_
  intro M3 i3 k3 o3
  refine gX2_addLetter i3 hk0 (by decide) o3 (by decide) ?_
  intro M4 i4 k4 o4
  refine gX2_add i4 hk0 (Or.inl ⟨rfl, by decide, by decide⟩) (fun w => absurd w (by decide)) o4 (by decide) ?_
  intro M5 i5 k5 o5
  refine gX2_add i5 hk0 (Or.inr (Or.inr (Or.inr (Or.inr (Or.inl rfl))))) (fun w => absurd w (by decide)) o5 (by decide) ?_
  intro M6 i6 k6 o6
  refine gX2_add i6 hk0 (Or.inr (Or.inr (Or.inr (Or.inr (Or.inr (Or.inr (Or.inl rfl))))))) (fun w => absurd w (by decide)) o6 (by decide) ?_
  intro M7 i7 k7 o7
  have K3 := k2.tr (k3.mono (by intro k j h; omega))
  have K5 := (K3.tr k4).tr (k5.mono (by intro k j h; omega))
  have K7 := (K5.tr (k6.mono (by intro k j h; omega))).tr (k7.mono (by intro k j h; omega))
  exact hQ M7 i7 K7 o7
theorem gX5_read {k2 : Nat} {M : Mem} {Q : Int → Mem → Prop} {f : Int → Int} (hI : IX M) (hk2 : isL k2) (hf : ∀ j, 0 ≤ j → j < M 156 1 → M 157 j = f j) (hQ : ∀ M' : Mem, IX M' → (rlz f (M 156 1) = -1 → ROl k2 M' (rlO f (M 156 1))) → Q (rlz f (M 156 1)) M') : qX5_read k2 M Q := by
  have ek2 : k2 = 187 ∨ k2 = 192 := hk2
  have bL := bx_c156_1.mp (hI.bx 156 1)
  unfold qX5_read qX9_isEmpty
  intro x1 e1 _
  refine ⟨fun c => ?_, fun c => ?_⟩
  · intro _ _
    refine ⟨fun _ => ?_, fun q => absurd rfl q⟩
    have len0 : M 156 1 ≠ 0 := by omega
    unfold qX2_clear
    intro M2 h2 M3 h3 M4 h4 M5 h5 M6 h6
    have i2 : IX M2 := by rw [h2]; exact hI.up (isL.nsp0 hk2) ((bx_l4 hk2).mpr ⟨by omega, by omega⟩)
    have i3 : IX M3 := by rw [h3]; exact i2.up (isL.nsp0 hk2) (bx_lf0 hk2 (by decide))
    have i4 : IX M4 := by rw [h4]; exact i3.up (by decide) (bx_c185_1.mpr (by decide))
    have i5 : IX M5 := by rw [h5]; exact i4.up (by decide) (bx_c185_2.mpr (by decide))
    have i6 : IX M6 := by rw [h6]; exact i5.up (by decide) (by simp [BX])
    have K6 : Ks (fun k j => (k = k2 ∧ (j = 4 ∨ j = 5)) ∨ k = 185) M M6 := by
      rw [h6, h5, h4, h3, h2]
      exact ((((Ks.rf.wr (by omega)).wr (by omega)).wr (by omega)).wr (by omega)).wr (by omega)
    refine gX9_open (p1 := 40) i6 (by decide) ?_
    intro M7 i7 k7 a7 s7
    rw [K6 156 1 (by omega)] at s7
    have sb := rlS_b (f := f) bL.1
    have K7 : Ks (fun k j => (k = k2 ∧ (j = 4 ∨ j = 5)) ∨ k = 185 ∨ (k = 156 ∧ (j = 2 ∨ j = 3))) M M7 := (K6.mono (by intro k j h; omega)).tr (k7.mono (by intro k j h; omega))
    have r7 : REPs k2 M7 (1, 0, [], [], 0) := by
      refine ⟨?_, ?_, ⟨?_, trivial⟩, ⟨?_, trivial⟩, a7⟩
      · rw [k7 185 3 (by omega), h6, up2_s]
      · rw [k7 185 2 (by omega), h6, up2_j (by decide), h5, up2_s]
      · rw [k7 185 1 (by omega), h6, up2_j (by decide), h5, up2_j (by decide), h4, up2_s]
        rfl
      · rw [k7 k2 4 (by omega), h6, up2_n (by omega), h5, up2_n (by omega), h4, up2_n (by omega), h3, up2_j (by decide), h2, up2_s]
        rfl
    have ez : rlz f (M 156 1) = if (rlS f (M 156 1)).2.2.2.2 < min (M 156 1) 40 ∨ (rlS f (M 156 1)).1 = 1 ∨ 0 < (rlS f (M 156 1)).2.1 ∨ 40 < M 156 1 then (rlS f (M 156 1)).2.2.2.2 else -1 := by
      unfold rlz
      rw [if_neg len0]
    refine ⟨41, gX5_read_L40 (f := f) (M0 := M7) (T := rlS f (M 156 1)) hk2 (fun j p q => by rw [K7 157 j (by omega)]; exact hf j p (by omega)) s7 (by omega) ?_ ?_ 40 _ _ _ i7 Ks.rf r7 rfl (Or.inr rfl) (Int.le_refl _) (show ((0 : Nat) : Int) + ((0 : Nat) : Int) ≤ 0 by decide) ⟨Int.le_refl _, Int.le_refl _⟩ (show (0 : Int) ≤ min (M 156 1) 40 by omega) (show min (M 156 1) 40 - 0 ≤ ((40 : Nat) : Int) by omega)⟩
    · intro hge M8 i8 k8 r8
      obtain ⟨r3, r2, rW, rO, ra⟩ := r8
      have BAD : ∀ (x : Int), x = M8 156 2 → ((rlS f (M 156 1)).1 = 1 ∨ 0 < (rlS f (M 156 1)).2.1 ∨ 40 < M 156 1) → Q x M8 := by
        intro x ex hb
        have := hQ M8 i8
        rw [ez, if_pos (Or.inr hb)] at this
        rw [ex, ra]
        exact this (fun q => by omega)
      unfold qX5_read_J92
      intro x21 e21 _
      refine ⟨fun c1 => fun x23 e23 _ => BAD _ e23 (Or.inl (by omega)), fun c1 => ?_⟩
      intro x24 e24 _
      refine ⟨fun c2 => fun x26 e26 _ => BAD _ e26 (Or.inr (Or.inl (by omega))), fun c2 => ?_⟩
      have l8 : M8 156 1 = M 156 1 := by rw [k8 156 1 (by omega), K7 156 1 (by omega)]
      unfold qX9_isWhole
      intro y1 f1 _ y2 f2 _
      refine ⟨fun c3 => ?_, fun c3 => ?_⟩
      · intro _ _
        refine ⟨fun q => absurd rfl q, fun _ => fun x30 e30 _ => BAD _ e30 (Or.inr (Or.inr (by omega)))⟩
      · intro _ _
        refine ⟨fun _ => ?_, fun q => absurd q (by decide)⟩
        refine gX5_release i8 hk2 (by decide) rW rO (by omega) ?_
        intro M29 i29 k29 w29 o29
        have := hQ M29 i29
        rw [ez, if_neg (by omega)] at this
        refine this (fun _ => ?_)
        unfold rlO
        rw [if_neg len0]
        exact o29
    · intro hlt M8 i8 k8 a8
      have := hQ M8 i8
      rw [ez, if_pos (Or.inl hlt)] at this
      exact this (fun q => by omega)
  · intro _ _
    refine ⟨fun q => absurd q (by decide), fun _ => ?_⟩
    refine gX2_plain hI hk2 ?_
    intro M31 i31 k31 o31
    have := hQ M31 i31
    unfold rlz rlO at this
    rw [if_pos (by omega), if_pos (by omega)] at this
    exact this (fun _ => o31)
