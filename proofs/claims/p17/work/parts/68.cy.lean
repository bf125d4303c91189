/-! SPECS of the class: the reader of rules -/
def prn (f : Int → Int) : Nat → Int
  | 0 => 0
  | n + 1 => prn f n + (if f n = 40 then 1 else 0)
theorem prn_nn (f : Int → Int) (n : Nat) : 0 ≤ prn f n ∧ prn f n ≤ n := by
  induction n with
  | zero => exact ⟨Int.le_refl _, Int.le_refl _⟩
  | succ n ih =>
    unfold prn
    split <;> omega
theorem prn_cg {f g : Int → Int} (n : Nat) (h : ∀ j : Int, 0 ≤ j → j < n → f j = g j) : prn f n = prn g n := by
  induction n with
  | zero => rfl
  | succ n ih =>
    unfold prn
    rw [ih (fun j a b => h j a (by omega)), h n (by omega) (by omega)]
/-- what is held: no more than v, the open ones among it -/
def RI (M : Mem) (v : Int) : Prop := M 185 1 ≤ v ∧ M 185 2 ≤ prn (M 186) (M 185 1).toNat
theorem RI.fr {M M' : Mem} {v : Int} (h : RI M v) (h1 : M' 185 = M 185) (h2 : M' 186 = M 186) : RI M' v := by
  unfold RI
  rw [h1, h2]
  exact h
theorem RI.mono {M : Mem} {v w : Int} (h : RI M v) (hw : v ≤ w) : RI M w := ⟨by have := h.1; omega, h.2⟩
theorem RI.fl {M : Mem} {v z : Int} (h : RI M v) : RI (up2 M 185 3 z) v := by
  unfold RI
  rw [up2_j (by decide), up2_j (by decide), up2_n (by decide)]
  exact h
theorem sX5_release_L0 {k1 : Nat} {p2 v : Int} {M0 : Mem} {Q : Mem → Prop} (hk1 : isL k1) (hp : 1 ≤ p2) (hQ : ∀ M' : Mem, IX M' → RI M' v → M' 185 2 = M0 185 2 → Q M') : ∀ (n : Nat) (M : Mem), IX M → RI M v → M 185 2 = M0 185 2 → M 185 1 < n → qX5_release_L0 k1 p2 Q n M := by
  intro n
  induction n with
  | zero =>
    intro M hI hR hd hm
    have := (bx_c185_1).mp (hI.bx 185 1)
    exact absurd hm (by omega)
  | succ n ih =>
    intro M hI hR hd hm
    rw [qX5_release_L0]
    intro x1 e1 r1
    have b1 : 0 ≤ x1 ∧ x1 ≤ 40 := by rw [e1]; exact bx_c185_1.mp (hI.bx _ _)
    refine ⟨fun c => hQ _ hI hR hd, fun c => ?_⟩
    unfold qX5_latestBinding
    intro y1 f1 _
    refine ⟨fun c => by omega, fun _ => ?_⟩
    intro y3 f3 _
    refine ⟨by omega, by omega, ?_⟩
    intro y6 f6 _
    refine sX5_bindingOf (p0 := y6) hI ?_
    intro z hz _
    intro _
    refine ⟨fun c => hQ _ hI hR hd, fun c2 => ?_⟩
    intro x5 e5 _
    refine ⟨(by omega), ?_⟩
    intro M7 h7
    have hM7 : IX M7 := by rw [h7]; exact hI.up (by decide) (bx_c185_1.mpr (by omega))
    intro x8 e8 _
    have f8 : x8 = x1 - 1 := by rw [e8, h7, up2_s]; omega
    refine ⟨by omega, by omega, ?_⟩
    intro x11 e11 _
    refine sX2_add (p1 := x11) (p2 := 0) hM7 hk1 (by omega) ?_
    intro M12 hM12 g
    have g5 : M12 185 = M7 185 := g 185 (by rcases hk1 with rfl | rfl <;> omega)
    have g6 : M12 186 = M7 186 := g 186 (by rcases hk1 with rfl | rfl <;> omega)
    have hd7 : M7 185 2 = M 185 2 := by rw [h7, up2_j (by decide)]
    have hR7 : RI M7 v := by
      have hn : (M 185 1).toNat = (x8).toNat + 1 := by omega
      have hr2 := hR.2
      rw [hn] at hr2
      unfold prn at hr2
      rw [if_neg (by
        have e : ((x8.toNat : Nat) : Int) = y3 - 1 := by omega
        rw [e, ← f6]
        exact (hz.2.2 (by omega)).1)] at hr2
      refine ⟨by have := hR.1; rw [← e8]; omega, ?_⟩
      rw [hd7, ← e8]
      have : M7 186 = M 186 := by rw [h7, up2_n (by decide)]
      rw [this]
      omega
    exact ih M12 hM12 (hR7.fr g5 g6) (by rw [g5, hd7, hd]) (by rw [g5, ← e8]; omega)
theorem sX5_release {k1 : Nat} {p2 v : Int} {M : Mem} {Q : Mem → Prop} (hI : IX M) (hk1 : isL k1) (hp : 1 ≤ p2) (hR : RI M v) (hQ : ∀ M' : Mem, IX M' → RI M' v → M' 185 2 = M 185 2 → Q M') : qX5_release k1 p2 M Q := by
  have h := sX5_release_L0 (M0 := M) hk1 hp hQ 42 M hI hR rfl (by have := bx_c185_1.mp (hI.bx 185 1); omega)
  rw [qX5_release_L0] at h
  unfold qX5_release
  intro x1 e1 r1
  obtain ⟨h1, h2⟩ := h x1 e1 r1
  refine ⟨h1, fun c => ?_⟩
  have h3 := h2 c
  unfold qX5_latestBinding at h3 ⊢
  intro y1 f1 s1
  obtain ⟨h4, h5⟩ := h3 y1 f1 s1
  refine ⟨fun c => by omega, fun c4 => ?_⟩
  have h6 := h5 c4
  intro y3 f3 s3
  obtain ⟨q1, q2, h7⟩ := h6 y3 f3 s3
  refine ⟨q1, q2, ?_⟩
  intro y6 f6 s6
  have h8 := h7 y6 f6 s6
  have key : ∀ {Q1 Q2 : Int → Mem → Prop}, (∀ z, Q1 z M → Q2 z M) → qX5_bindingOf y6 M Q1 → qX5_bindingOf y6 M Q2 := by
    intro Q1 Q2 hq hb
    unfold qX5_bindingOf at hb ⊢
    obtain ⟨a1, a2, a3, a4, a5, a6, a7, a8, a9⟩ := hb
    exact ⟨fun c => hq _ (a1 c), fun c => hq _ (a2 c), fun c => hq _ (a3 c), fun c => hq _ (a4 c), fun c => hq _ (a5 c), fun c => hq _ (a6 c), fun c => hq _ (a7 c), fun c => hq _ (a8 c), fun c => hq _ (a9 c)⟩
  refine key ?_ h8
  intro z hz rz rz2
  obtain ⟨h9, h10⟩ := hz rz rz2
  refine ⟨h9, fun c5 => ?_⟩
  have h11 := h10 c5
  intro x5 e5 s5
  obtain ⟨q3, h12⟩ := h11 x5 e5 s5
  refine ⟨q3, ?_⟩
  intro M7 hm7 x8 e8 s8
  obtain ⟨q4, q5, h13⟩ := h12 M7 hm7 x8 e8 s8
  refine ⟨q4, q5, ?_⟩
  intro x11 e11 s11
  have h14 := h13 x11 e11 s11
  have kadd : ∀ {Q1 Q2 : Mem → Prop}, (∀ M', Q1 M' → Q2 M') → qX2_add k1 x11 0 M7 Q1 → qX2_add k1 x11 0 M7 Q2 := by
    intro Q1 Q2 hq hb
    unfold qX2_add at hb ⊢
    intro a1 b1 c1
    obtain ⟨u1, u2⟩ := hb a1 b1 c1
    refine ⟨fun c => hq _ (u1 c), fun c => ?_⟩
    intro a3 b3 c3
    obtain ⟨u3, u4, u5⟩ := u2 c a3 b3 c3
    refine ⟨u3, u4, ?_⟩
    intro a6 b6 a7 b7 c7
    obtain ⟨u6, u7, u8⟩ := u5 a6 b6 a7 b7 c7
    refine ⟨u6, u7, ?_⟩
    intro a10 b10 a11 b11 c11
    obtain ⟨u9, u10⟩ := u8 a10 b10 a11 b11 c11
    exact ⟨u9, fun a13 b13 => hq _ (u10 a13 b13)⟩
  exact kadd (fun M' hq => ⟨41, hq⟩) h14
theorem sX5_hold {p1 v : Int} {M : Mem} {Q : Mem → Prop} (hI : IX M) (hv : v < 40) (hR : RI M v) (hQ : ∀ M' : Mem, IX M' → M' 185 1 ≤ v + 1 → M' 185 2 = M 185 2 → prn (M 186) (M 185 1).toNat + (if p1 = 40 then 1 else 0) ≤ prn (M' 186) (M' 185 1).toNat → Q M') : qX5_hold p1 M Q := by
  have hR1 := hR.1
  unfold qX5_hold
  intro x1 e1 _
  have b1 : 0 ≤ x1 ∧ x1 ≤ 40 := by rw [e1]; exact bx_c185_1.mp (hI.bx _ _)
  refine ⟨fun c => by omega, fun c => ?_⟩
  intro x3 e3 _
  refine ⟨by omega, by omega, ?_⟩
  intro M6 h6 x7 e7 _
  have f7 : x7 = x3 := by rw [e7, h6, up2_n (by decide), e3]
  have hM6 : IX M6 := by rw [h6]; exact hI.up (by decide) (by simp [BX])
  refine ⟨(by omega), ?_⟩
  intro M9 h9
  have hM9 : IX M9 := by rw [h9]; exact hM6.up (by decide) (bx_c185_1.mpr (by omega))
  have k1 : M9 185 1 = x3 + 1 := by rw [h9, up2_s, f7]
  refine hQ _ hM9 (by omega) (by rw [h9, up2_j (by decide), h6, up2_n (by decide)]) ?_
  have k2 : M9 186 = M6 186 := by rw [h9, up2_n (by decide)]
  have k3 : (x3 + 1).toNat = x3.toNat + 1 := by omega
  have k4 : ((x3.toNat : Nat) : Int) = x3 := by omega
  rw [k1, k2, k3, ← e3]
  show _ ≤ prn (M6 186) x3.toNat + (if M6 186 (x3.toNat : Nat) = 40 then 1 else 0)
  rw [k4, show M6 186 x3 = p1 from by rw [h6, up2_s], prn_cg (f := M6 186) (g := M 186) x3.toNat (fun j a b => by rw [h6, up2_j (by omega)])]
  exact Int.le_refl _
theorem sX5_takeSign {k2 : Nat} {v : Int} {M : Mem} {Q : Int → Mem → Prop} (hI : IX M) (hk2 : isL k2) (hv : v < 40) (hR : RI M v) (hQ : ∀ z : Int, ∀ M' : Mem, IX M' → RI M' (v + 1) → Q z M') : qX5_takeSign k2 M Q := by
  have J116 : ∀ M1 : Mem, IX M1 → RI M1 (v + 1) → qX5_takeSign_J116 k2 Q M1 := by
    intro M1 h1 r1
    unfold qX5_takeSign_J116
    refine sX9_pass h1 ?_
    intro M2 h2 g2
    exact hQ _ _ h2 (r1.fr (g2 185 (by decide)) (g2 186 (by decide)))
  have H : ∀ (c : Int) (M1 : Mem), IX M1 → RI M1 v → qX5_hold c M1 (fun M9 => ∀ M10 : Mem, M10 = up2 M9 185 3 1 → qX5_takeSign_J116 k2 Q M10) := by
    intro c M1 h1 r1
    refine sX5_hold h1 hv r1 ?_
    intro M9 h9 a1 a2 a3 M10 e10
    have h10 : IX M10 := by rw [e10]; exact h9.up (by decide) (by simp [BX])
    refine J116 _ h10 ?_
    rw [e10]
    refine RI.fl ⟨a1, ?_⟩
    rw [a2]
    have := r1.2
    split at a3 <;> omega
  have J53 : ∀ (v3 v4 : Int) (M1 : Mem), IX M1 → RI M1 v → iR v3 → iR v4 → qX5_takeSign_J53 k2 Q v3 v4 M1 := by
    intro v3 v4 M1 h1 r1 r3 r4
    unfold qX5_takeSign_J53
    refine ⟨r4, ⟨fun c => ⟨fun c2 => hQ _ _ h1 (r1.mono (by omega)), fun c2 => ?_⟩, fun c => ?_⟩⟩
    · refine sX5_release h1 hk2 (by omega) r1 ?_
      intro M7 h7 r7 _
      exact ⟨r3, H _ _ h7 r7⟩
    · refine sX5_release h1 hk2 (by omega) r1 ?_
      intro M12 h12 r12 _
      refine sX5_latestBinding h12 ?_
      intro z _
      try intro _
      refine ⟨fun c2 => ⟨r3, H _ _ h12 r12⟩, fun c2 => hQ _ _ h12 (r12.mono (by omega))⟩
  unfold qX5_takeSign
  refine sX9_look hI ?_
  intro x1 p1 q1
  refine sX5_bindingOf (p0 := x1) hI ?_
  intro x2 p2 q2
  refine ⟨fun c => J53 _ _ _ hI hR q1 q2, fun c => ?_⟩
  intro x18 e18 _
  refine ⟨fun c2 => J53 _ _ _ hI hR q1 q2, fun c2 => ?_⟩
  refine sX5_release hI hk2 (by omega) hR ?_
  intro M20 h20 r20 d20 x21 e21 _
  have b21 : 0 ≤ x21 ∧ x21 ≤ 40 := by rw [e21]; exact bx_c185_1.mp (h20.bx _ _)
  have p := prn_nn (M20 186) (M20 185 1).toNat
  have r2 := r20.2
  have r1 := r20.1
  have n1 : 1 ≤ x21 := by omega
  refine ⟨(by omega), ?_⟩
  intro M23 h23
  have i23 : IX M23 := by rw [h23]; exact h20.up (by decide) (bx_c185_1.mpr (by omega))
  intro x24 e24 _
  have f24 : x24 = M20 185 2 := by rw [e24, h23, up2_j (by decide)]
  have b24 : 0 ≤ x24 ∧ x24 ≤ 4 := by rw [e24]; exact bx_c185_2.mp (i23.bx _ _)
  refine ⟨(by omega), ?_⟩
  intro M26 h26
  have i26 : IX M26 := by rw [h26]; exact i23.up (by decide) (bx_c185_2.mpr (by omega))
  refine J116 _ i26 ?_
  have k1 : M26 185 1 = x21 - 1 := by rw [h26, up2_j (by decide), h23, up2_s]
  have k2' : M26 185 2 = x24 - 1 := by rw [h26, up2_s]
  have k3 : M26 186 = M20 186 := by rw [h26, up2_n (by decide), h23, up2_n (by decide)]
  refine ⟨by rw [k1]; omega, ?_⟩
  rw [k1, k2', k3]
  have k4 : (M20 185 1).toNat = (x21 - 1).toNat + 1 := by omega
  rw [k4] at r2
  unfold prn at r2
  split at r2 <;> omega
theorem sX5_takeThing {k2 : Nat} {v : Int} {M : Mem} {Q : Int → Mem → Prop} (hI : IX M) (hk2 : isL k2) (hv : v < 40) (hR : RI M v) (hQ : ∀ z : Int, ∀ M' : Mem, IX M' → RI M' (v + 1) → Q z M') : qX5_takeThing k2 M Q := by
  have ne5 : ∀ i, i = 185 ∨ i = 186 → ¬ (i = k2 ∨ i = k2 + 1 ∨ i = k2 + 2) := by intro i hi; rcases hk2 with rfl | rfl <;> omega
  have J121 : ∀ M1 : Mem, IX M1 → RI M1 (v + 1) → qX5_takeThing_J121 k2 Q M1 := by
    intro M1 h1 r1
    unfold qX5_takeThing_J121
    refine sX9_pass h1 ?_
    intro M2 h2 g2
    exact hQ _ _ h2 (r1.fr (g2 185 (by decide)) (g2 186 (by decide)))
  have J101 : ∀ (t0 : Int) (M1 : Mem), IX M1 → RI M1 v → iR t0 → t0 ≤ 6 → qX5_takeThing_J101 k2 Q t0 M1 := by
    intro t0 M1 h1 r1 rt h6
    unfold qX5_takeThing_J101
    refine ⟨rt, ⟨fun c => ?_, fun c => hQ _ _ h1 (r1.mono (by omega))⟩⟩
    refine sX2_addLetter (p1 := t0) h1 hk2 (by omega) ?_
    intro M13 h13 g13 M14 e14
    have h14 : IX M14 := by rw [e14]; exact h13.up (by decide) (by simp [BX])
    refine J121 _ h14 ?_
    rw [e14]
    exact ((r1.mono (by omega)).fr (g13 185 (ne5 _ (Or.inl rfl))) (g13 186 (ne5 _ (Or.inr rfl)))).fl
  have J83 : ∀ (v4 : Int) (M1 : Mem), IX M1 → RI M1 v → -1 ≤ v4 ∧ v4 ≤ 255 → qX5_takeThing_J83 k2 Q v4 M1 := by
    intro v4 M1 h1 r1 hv4
    unfold qX5_takeThing_J83
    refine ⟨(by omega), ⟨fun c => ⟨by omega, by omega, ?_⟩, fun c => J101 _ _ h1 r1 (by decide) (by decide)⟩⟩
    intro x10 e10 r10
    have f10 := ixS_0 v4
    rw [← e10] at f10
    exact J101 _ _ h1 r1 r10 f10.2
  unfold qX5_takeThing
  refine sX9_number (p1 := 3) hI (by omega) ?_
  intro x1 M1 h1 g1 p1 q1
  have r1 : RI M1 v := hR.fr (g1 185 (by decide)) (g1 186 (by decide))
  refine ⟨fun c => ?_, fun c => ?_⟩
  · refine sX9_look h1 ?_
    intro x3 p3 q3
    refine ⟨fun c3 => ⟨fun c4 => J83 _ _ h1 r1 p3, fun c4 => ?_⟩, fun c3 => ?_⟩
    · intro x16 e16 _
      have b16 : 0 ≤ x16 ∧ x16 ≤ 4 := by rw [e16]; exact bx_c185_2.mp (h1.bx _ _)
      refine ⟨fun c5 => J83 _ _ h1 r1 p3, fun c5 => ?_⟩
      intro x18 e18 _
      refine ⟨(by omega), ?_⟩
      intro M20 e20
      have h20 : IX M20 := by rw [e20]; exact h1.up (by decide) (bx_c185_2.mpr (by omega))
      have k1 : M20 185 1 = M1 185 1 := by rw [e20, up2_j (by decide)]
      have k2' : M20 185 2 = M1 185 2 + 1 := by rw [e20, up2_s, e18]
      have k3 : M20 186 = M1 186 := by rw [e20, up2_n (by decide)]
      -- the one that is opened is not yet among the held ones
      have hold := r1
      unfold qX5_hold
      intro y1 f1 _
      have b1 : 0 ≤ y1 ∧ y1 ≤ 40 := by rw [f1]; exact bx_c185_1.mp (h20.bx _ _)
      have r11 := r1.1
      refine ⟨fun c => by omega, fun c => ?_⟩
      intro y3 f3 _
      refine ⟨by omega, by omega, ?_⟩
      intro M6 h6 y7 f7 _
      have g7 : y7 = y3 := by rw [f7, h6, up2_n (by decide), f3]
      have hM6 : IX M6 := by rw [h6]; exact h20.up (by decide) (by simp [BX])
      refine ⟨(by omega), ?_⟩
      intro M9 h9
      have hM9 : IX M9 := by rw [h9]; exact hM6.up (by decide) (bx_c185_1.mpr (by omega))
      refine J121 _ hM9 ?_
      have n1 : M9 185 1 = y3 + 1 := by rw [h9, up2_s, g7]
      have n2 : M9 185 2 = M1 185 2 + 1 := by rw [h9, up2_j (by decide), h6, up2_n (by decide), k2']
      have n3 : M9 186 = M6 186 := by rw [h9, up2_n (by decide)]
      refine ⟨by rw [n1]; omega, ?_⟩
      rw [n1, n2, n3, show (y3 + 1).toNat = y3.toNat + 1 from by omega]
      show _ ≤ prn (M6 186) y3.toNat + (if M6 186 (y3.toNat : Nat) = 40 then 1 else 0)
      rw [show ((y3.toNat : Nat) : Int) = y3 from by omega, show M6 186 y3 = x3 from by rw [h6, up2_s], if_pos c4, prn_cg (f := M6 186) (g := M1 186) y3.toNat (fun j a b => by rw [h6, up2_j (by omega), k3])]
      have := r1.2
      rw [← k1, ← f3] at this
      omega
    · refine sX5_hold h1 hv r1 ?_
      intro M22 h22 a1 a2 a3
      refine J121 _ h22 ⟨a1, ?_⟩
      rw [a2]
      have := r1.2
      rw [if_neg (by decide)] at a3
      omega
  · refine sX2_add (p1 := 300) (p2 := x1) h1 hk2 (by omega) ?_
    intro M23 h23 g23 M24 e24
    have h24 : IX M24 := by rw [e24]; exact h23.up (by decide) (by simp [BX])
    refine hQ _ _ h24 ?_
    rw [e24]
    exact ((r1.mono (by omega)).fr (g23 185 (ne5 _ (Or.inl rfl))) (g23 186 (ne5 _ (Or.inr rfl)))).fl
theorem sX5_read_L40 {k2 : Nat} {X92 : Mem → Prop} {Q : Int → Mem → Prop} (hk2 : isL k2) (hQ : ∀ z : Int, ∀ M' : Mem, IX M' → (-1 ≤ z ∧ z ≤ 80) → Q z M') (hX92 : ∀ M' : Mem, IX M' → RI M' 40 → X92 M') : ∀ (n : Nat) (v3 : Int) (M : Mem), IX M → RI M v3 → (0 ≤ v3 ∧ v3 ≤ 40) → 40 - v3 < (n : Int) → qX5_read_L40 k2 X92 Q n v3 M := by
  intro n
  induction n with
  | zero => intro v3 M hI hR hv hm; exact absurd hm (by omega)
  | succ n ih =>
    intro v3 M hI hR hv hm
    rw [qX5_read_L40]
    refine ⟨(by omega), ⟨fun c => hX92 _ hI (hR.mono (by omega)), fun c => ?_⟩⟩
    refine sX9_isRead hI ?_
    intro x10 q1 q2
    refine ⟨fun c2 => hX92 _ hI (hR.mono (by omega)), fun c2 => ?_⟩
    intro x12 e12 _
    refine ⟨fun c3 => ?_, fun c3 => ?_⟩
    · refine sX5_takeSign hI hk2 (by omega) hR ?_
      intro x14 M14 h14 r14 q3 q4
      refine ⟨fun c4 => ih _ _ h14 r14 (by omega) (by omega), fun c4 => ?_⟩
      intro x16 e16 _
      exact hQ _ _ h14 (by have := bx_c156_2.mp (h14.bx 156 2); omega)
    · refine sX5_takeThing hI hk2 (by omega) hR ?_
      intro x17 M17 h17 r17 q3 q4
      refine ⟨fun c4 => ?_, fun c4 => ih _ _ h17 r17 (by omega) (by omega)⟩
      intro x19 e19 _
      exact hQ _ _ h17 (by have := bx_c156_2.mp (h17.bx 156 2); omega)
theorem sX5_read {k2 : Nat} {M : Mem} {Q : Int → Mem → Prop} (hI : IX M) (hk2 : isL k2) (hQ : ∀ z : Int, ∀ M' : Mem, IX M' → (-1 ≤ z ∧ z ≤ 80) → Q z M') : qX5_read k2 M Q := by
  unfold qX5_read
  refine sX9_isEmpty hI ?_
  intro x1 q1 q2
  refine ⟨fun c => ?_, fun c => ?_⟩
  · refine sX2_clear hI hk2 ?_
    intro M3 h3 M4 e4 M5 e5 M6 e6
    have h4 : IX M4 := by rw [e4]; exact h3.up (by decide) (bx_c185_1.mpr (by decide))
    have h5 : IX M5 := by rw [e5]; exact h4.up (by decide) (bx_c185_2.mpr (by decide))
    have h6 : IX M6 := by rw [e6]; exact h5.up (by decide) (by simp [BX])
    refine sX9_open (p1 := 40) h6 (by omega) ?_
    intro M7 h7 g7
    refine ⟨41, ?_⟩
    refine sX5_read_L40 hk2 hQ ?_ _ _ _ h7 ?_ (by omega) (by omega)
    · intro M8 h8 r8
      unfold qX5_read_J92
      intro x21 e21 _
      refine ⟨fun c1 => fun x23 e23 _ => hQ _ _ h8 (by have := bx_c156_2.mp (h8.bx 156 2); omega), fun c1 => ?_⟩
      intro x24 e24 _
      refine ⟨fun c2 => fun x26 e26 _ => hQ _ _ h8 (by have := bx_c156_2.mp (h8.bx 156 2); omega), fun c2 => ?_⟩
      refine sX9_isWhole h8 ?_
      intro x27 q3 q4
      refine ⟨fun c3 => ?_, fun c3 => fun x30 e30 _ => hQ _ _ h8 (by have := bx_c156_2.mp (h8.bx 156 2); omega)⟩
      refine sX5_release h8 hk2 (by omega) r8 ?_
      intro M29 h29 _ _
      exact hQ _ _ h29 (by decide)
    · have k1 : M7 185 = M6 185 := g7 185 (by decide)
      refine ⟨?_, ?_⟩
      · rw [k1, e6, up2_j (by decide), e5, up2_j (by decide), e4, up2_s]
        decide
      · have p := prn_nn (M7 186) (M7 185 1).toNat
        have : M7 185 2 = 0 := by rw [k1, e6, up2_j (by decide), e5, up2_s]
        omega
  · refine sX2_becomePlain hI hk2 ?_
    intro M31 h31
    exact hQ _ _ h31 (by decide)
