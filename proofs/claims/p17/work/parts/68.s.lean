-- the rule is worked by the class
theorem gX2_join {k : Int} {p1 p2 : Int} {M : Mem} {Q : Int → Mem → Prop} (hk : k = 60 ∨ k = 62 ∨ k = 61 ∨ k = 43 ∨ k = 45 ∨ k = 42 ∨ k = 47) (hQ : Q (wkF (kcF k 0 - 2000) p1 p2) M) : qX2_join k p1 p2 M Q := by
  unfold qX2_join
  rcases hk with rfl | rfl | rfl | rfl | rfl | rfl | rfl
  · have e : wkF (kcF 60 0 - 2000) p1 p2 = if p1 < p2 then 1 else 0 := rfl
    rw [e] at hQ
    refine ⟨fun c => absurd c (by decide), fun c => absurd c (by decide), fun c => absurd c (by decide), fun c => absurd c (by decide), fun _ => ⟨fun c => ?_, fun c => ?_⟩, fun c => absurd c (by decide), fun c => absurd c (by decide)⟩
    · rw [if_neg (by omega)] at hQ; exact hQ
    · rw [if_pos (by omega)] at hQ; exact hQ
  · have e : wkF (kcF 62 0 - 2000) p1 p2 = if p2 < p1 then 1 else 0 := rfl
    rw [e] at hQ
    refine ⟨fun c => absurd c (by decide), fun c => absurd c (by decide), fun c => absurd c (by decide), fun c => absurd c (by decide), fun c => absurd c (by decide), fun _ => ⟨fun c => ?_, fun c => ?_⟩, fun c => absurd c (by decide)⟩
    · rw [if_neg (by omega)] at hQ; exact hQ
    · rw [if_pos (by omega)] at hQ; exact hQ
  · have e : wkF (kcF 61 0 - 2000) p1 p2 = if p1 = p2 then 1 else 0 := rfl
    rw [e] at hQ
    refine ⟨fun c => absurd c (by decide), fun c => absurd c (by decide), fun c => absurd c (by decide), fun c => absurd c (by decide), fun c => absurd c (by decide), fun c => absurd c (by decide), fun _ => ⟨fun c => ?_, fun c => ?_⟩⟩
    · rw [if_neg c] at hQ; exact hQ
    · rw [if_pos c] at hQ; exact hQ
  · have e : wkF (kcF 43 0 - 2000) p1 p2 = w32 (p1 + p2) := rfl
    rw [e] at hQ
    refine ⟨fun c => absurd c (by decide), fun _ x ex _ => by rw [ex]; exact hQ, fun c => absurd c (by decide), fun c => absurd c (by decide), fun c => absurd c (by decide), fun c => absurd c (by decide), fun c => absurd c (by decide)⟩
  · have e : wkF (kcF 45 0 - 2000) p1 p2 = w32 (p1 - p2) := rfl
    rw [e] at hQ
    refine ⟨fun c => absurd c (by decide), fun c => absurd c (by decide), fun _ x ex _ => by rw [ex]; exact hQ, fun c => absurd c (by decide), fun c => absurd c (by decide), fun c => absurd c (by decide), fun c => absurd c (by decide)⟩
  · have e : wkF (kcF 42 0 - 2000) p1 p2 = w32 (p1 * p2) := rfl
    rw [e] at hQ
    refine ⟨fun _ x ex _ => by rw [ex]; exact hQ, fun c => absurd c (by decide), fun c => absurd c (by decide), fun c => absurd c (by decide), fun c => absurd c (by decide), fun c => absurd c (by decide), fun c => absurd c (by decide)⟩
  · have e : wkF (kcF 47 0 - 2000) p1 p2 = if p2 = 0 then 0 else dvI p1 p2 := rfl
    rw [e] at hQ
    refine ⟨fun c => absurd c (by decide), fun c => absurd c (by decide), fun c => absurd c (by decide), fun _ => ⟨fun c => ⟨c, fun x ex _ => ?_⟩, fun c => ?_⟩, fun c => absurd c (by decide), fun c => absurd c (by decide), fun c => absurd c (by decide)⟩
    · rw [if_neg c] at hQ; rw [ex]; exact hQ
    · rw [if_pos c] at hQ; exact hQ
theorem gX2_pace_L4 {kl : Nat} {X145 : Mem → Prop} {Q : Int → Mem → Prop} {M0 : Mem} {f e : Int → Int} {m : Int} (hkl : isL kl) (hL : LWf M0 kl f m) (hO : OBS M0 M0 kl e) (hw : WFC f m) (hm40 : m ≤ 40) (hX : ∀ M' : Mem, IX M' → Ks (fun k j => k = kl + 3) M0 M' → (∀ i, 0 ≤ i → i < dpc f m.toNat → M' (kl + 3) i = evS f e m.toNat i) → X145 M') : ∀ (n : Nat) (v1 v2 : Int) (M : Mem), IX M → Ks (fun k j => k = kl + 3) M0 M → (v1 = dpc f v2.toNat ∧ 0 ≤ v2 ∧ v2 ≤ m) → (∀ i, 0 ≤ i → i < v1 → M (kl + 3) i = evS f e v2.toNat i) → m - v2 < (n : Int) → qX2_pace_L4 kl X145 Q n v1 v2 M := by
  intro n
  induction n with
  | zero => intro v1 v2 M hI hF hv hs hm; exact absurd hm (by omega)
  | succ n ih =>
    intro v1 v2 M hI hF hv hs hm
    have el : kl = 187 ∨ kl = 192 := hkl
    rw [qX2_pace_L4]
    intro x1 e1 _
    have f1 : x1 = m := by rw [e1, hF kl 4 (by omega)]; exact hL.1
    have b1 : 0 ≤ x1 ∧ x1 ≤ 40 := by rw [e1]; exact (bx_l4 hkl).mp (hI.bx _ _)
    refine ⟨⟨by omega, by omega⟩, ⟨fun c => hX _ hI hF ?_, fun c => ?_⟩⟩
    · rw [show m.toNat = v2.toNat from by omega, ← hv.1]
      exact hs
    refine ⟨by omega, by omega, ?_⟩
    intro x6 e6 r6
    have g6 : x6 = M0 (kl + 1) v2 := by rw [e6]; exact hF _ _ (by omega)
    have hl := hL.2 v2 hv.2.1 (by omega)
    rw [← g6] at hl
    have hwv := hw v2.toNat (by omega)
    have hc : ((v2.toNat : Nat) : Int) = v2 := by omega
    have hn := dpc_nn hw v2.toNat (by omega)
    have hle := dpc_le f v2.toNat
    rw [hc] at hwv
    have hd := dpc_s (f := f) (n := v2) hv.2.1
    have hev := evS_s (f := f) (e := e) (n := v2) hv.2.1
    rw [← hv.1] at hd hev hwv
    have key : ∀ (M' : Mem) (j v w : Int), M' = up2 M (kl + 3) j v → w = v1 + (if f v2 = 3000 then 0 else if f v2 < 2000 then 1 else -1) → evS f e (v2 + 1).toNat = up (evS f e v2.toNat) j v → (0 ≤ j ∧ w - 1 = j ∧ j ≤ v1) → qX2_pace_L4 kl X145 Q n w (v2 + 1) M' := by
      intro M' j v w hM' hw' hE hj
      refine ih _ _ _ (by rw [hM']; exact hI.up (isL.nsp3 hkl) (bx_lf3 hkl)) (by rw [hM']; exact hF.wr rfl) ⟨by rw [hd]; exact hw', by omega, by omega⟩ ?_ (by omega)
      intro i a q
      rw [hM', hE]
      by_cases ci : i = j
      · rw [ci, up2_s, upS]
      · rw [up2_j ci, up_j ci]
        exact hs i a (by omega)
    refine ⟨fun c1 => ⟨fun c2 => ⟨fun c3 => ?_, fun c3 => ?_⟩, fun c2 => ?_⟩, fun c1 => ?_⟩
    · have hk : x6 = 60 ∨ x6 = 62 ∨ x6 = 61 ∨ x6 = 43 ∨ x6 = 45 ∨ x6 = 42 ∨ x6 = 47 := by
        rcases hl.2.1 with h | h | h | h | h | h | h | h | h | h <;> omega
      have hf : f v2 = kcF x6 0 ∧ 2000 ≤ f v2 ∧ f v2 ≤ 2006 := by
        rw [← hl.1]
        rcases hk with rfl | rfl | rfl | rfl | rfl | rfl | rfl <;> exact ⟨rfl, by simp [kcF], by simp [kcF]⟩
      have h2 := hwv.2.1 hf.2.1 (by omega)
      unfold qX2_pace_J105
      refine ⟨⟨by omega, by omega⟩, ⟨fun c4 => by omega, fun c4 => ?_⟩⟩
      intro x12 e12 _ x13 e13 _
      have f12 : x12 = v1 + (-1) - 1 := by rw [e12]; exact w32_id ⟨by omega, by omega⟩
      have f13 : x13 = v1 + (-1) - 1 := by rw [e13]; exact w32_id ⟨by omega, by omega⟩
      refine ⟨by omega, by omega, ?_⟩
      intro x16 e16 _
      refine ⟨by omega, by omega, ?_⟩
      intro x19 e19 _
      refine ⟨r6, ?_⟩
      refine gX2_join hk ?_
      intro r21
      refine ⟨by omega, by omega, ?_⟩
      intro M24 h24
      have a16 : x16 = evS f e v2.toNat (v1 - 2) := by rw [e16, show x13 = v1 - 2 from by omega]; exact hs _ (by omega) (by omega)
      have a19 : x19 = evS f e v2.toNat (v1 - 1) := by rw [e19, show v1 + (-1) = v1 - 1 from by omega]; exact hs _ (by omega) (by omega)
      exact key _ _ _ _ h24 (by rw [if_neg (by omega), if_neg (by omega)]) (by rw [hev, if_neg (by omega), if_pos hf.2.1, ← a16, ← a19, hf.1, show v1 - 2 = x12 from by omega]) ⟨by omega, by omega, by omega⟩
    · have hf : f v2 = 3000 := by rw [← hl.1, c3]; rfl
      have h1 := hwv.1 hf
      refine ⟨⟨by omega, by omega⟩, ⟨fun c4 => by omega, fun c4 => ?_⟩⟩
      intro x27 e27 _ x28 e28 _
      have f27 : x27 = v1 - 1 := by rw [e27]; exact w32_id ⟨by omega, by omega⟩
      have f28 : x28 = v1 - 1 := by rw [e28]; exact w32_id ⟨by omega, by omega⟩
      refine ⟨by omega, by omega, ?_⟩
      intro x31 e31 _ x32 e32 _
      refine ⟨by omega, by omega, ?_⟩
      intro M35 h35
      have a31 : x31 = evS f e v2.toNat (v1 - 1) := by rw [e31, f28]; exact hs _ (by omega) (by omega)
      exact key _ _ _ _ h35 (by rw [if_pos hf]; omega) (by rw [hev, if_pos hf, e32, a31, f27]) ⟨by omega, by omega, by omega⟩
    · intro x36 e36 _
      have g36 : x36 = M0 (kl + 2) v2 := by rw [e36]; exact hF _ _ (by omega)
      have b36 : 0 ≤ x36 ∧ x36 ≤ 6 := by
        rw [g36]
        rcases hl.2.1 with h | h | h | h | h | h | h | h | h | h <;> omega
      have hf : f v2 = 1000 + x36 := by rw [← hl.1, c2, g36]; rfl
      refine ⟨by omega, by omega, ?_⟩
      intro x39 e39 _
      have g39 : x39 = e x36 := by
        rw [e39, hF _ _ (by omega)]
        refine hO x36 b36.1 (by omega) ?_
        rw [g36]
        exact hl.2.2 c2
      refine ⟨by omega, by omega, ?_⟩
      intro M42 h42
      exact key _ _ _ _ h42 (by rw [if_neg (by omega), if_pos (by omega)]) (by rw [hev, if_neg (by omega), if_neg (by omega), if_pos (by omega), g39, hf, show 1000 + x36 - 1000 = x36 from by omega]) ⟨by omega, by omega, by omega⟩
    · intro x43 e43 _
      have g43 : x43 = M0 (kl + 2) v2 := by rw [e43]; exact hF _ _ (by omega)
      have b43 : 0 ≤ x43 ∧ x43 ≤ 999 := by
        rw [g43]
        rcases hl.2.1 with h | h | h | h | h | h | h | h | h | h <;> omega
      have hf : f v2 = x43 := by rw [← hl.1, c1, g43]; rfl
      refine ⟨by omega, by omega, ?_⟩
      intro M46 h46
      exact key _ _ _ _ h46 (by rw [if_neg (by omega), if_pos (by omega)]) (by rw [hev, if_neg (by omega), if_neg (by omega), if_neg (by omega), hf]) ⟨by omega, by omega, by omega⟩
theorem gX2_paceF {kl : Nat} {Q : Int → Mem → Prop} {M : Mem} {f e : Int → Int} {m : Int} (hI : IX M) (hkl : isL kl) (hL : LWf M kl f m) (hO : OBS M M kl e) (hw : WFC f m) (hm : 1 ≤ m ∧ m ≤ 40) (hQ : ∀ M' : Mem, IX M' → Ks (fun k j => k = kl + 3) M M' → Q (max 0 (min 3 (evS f e m.toNat 0))) M') : qX2_pace kl M Q := by
  unfold qX2_pace
  refine ⟨41, gX2_pace_L4 (M0 := M) hkl hL hO hw hm.2 ?_ _ _ _ _ hI Ks.rf ⟨rfl, by omega, by omega⟩ (fun i a q => ?_) (by omega)⟩
  · intro M' i' f' hs x48 e48 _ x49 e49 _ x50 e50 _
    have p := dpc_p hw m.toNat (by omega) (by omega)
    have g48 : x48 = evS f e m.toNat 0 := by rw [e48]; exact hs 0 (by decide) (by omega)
    have g50 : x50 = max 0 (min 3 (evS f e m.toNat 0)) := by rw [← g48]; omega
    rw [g50]
    exact hQ _ i' f'
  · have : dpc f (0 : Int).toNat = 0 := rfl
    omega
theorem pl_w : WFC plF 5 := by
  intro j hj
  have : j = 0 ∨ j = 1 ∨ j = 2 ∨ j = 3 ∨ j = 4 := by omega
  rcases this with rfl | rfl | rfl | rfl | rfl <;> decide
theorem pl_ev (e : Int → Int) : evS plF e 5 0 = w32 (1 + (if e 1 ≤ 2 then 0 else 1)) := by
  have s1 : evS plF e 1 = up (evS plF e 0) 0 1 := rfl
  have s2 : evS plF e 2 = up (evS plF e 1) 1 (e 1) := rfl
  have s3 : evS plF e 3 = up (evS plF e 2) 2 2 := rfl
  have s4 : evS plF e 4 = up (evS plF e 3) 1 (wkF 1 (evS plF e 3 1) (evS plF e 3 2)) := rfl
  have s5 : evS plF e 5 = up (evS plF e 4) 0 (wkF 3 (evS plF e 4 0) (evS plF e 4 1)) := rfl
  have a1 : evS plF e 3 1 = e 1 := by rw [s3, up_j (by decide), s2, upS]
  have a2 : evS plF e 3 2 = 2 := by rw [s3, upS]
  have a3 : evS plF e 4 0 = 1 := by rw [s4, up_j (by decide), s3, up_j (by decide), s2, up_j (by decide), s1, upS]
  have a4 : evS plF e 4 1 = if e 1 ≤ 2 then 0 else 1 := by
    rw [s4, upS, a1, a2]
    show (if 2 < e 1 then (1 : Int) else 0) = _
    by_cases c : e 1 ≤ 2
    · rw [if_neg (by omega), if_pos c]
    · rw [if_pos (by omega), if_neg c]
  rw [s5, upS, a3, a4]
  rfl
theorem gX2_pace {kl : Nat} {Q : Int → Mem → Prop} {M E : Mem} {e : Int → Int} (hI : IX M) (hkl : isL kl) (hL : LAW E M kl) (hw : WFC (E 11) (E 1 24)) (hO : OBS M M kl e) (hQ : ∀ M' : Mem, IX M' → Ks (fun k j => k = kl + 3) M M' → Q (max 0 (min 3 (ruF E e))) M') : qX2_pace kl M Q := by
  have b4 := (bx_l4 hkl).mp (hI.bx kl 4)
  unfold ruF at hQ
  rcases hL with h | h
  · rw [if_neg (by omega)] at hQ
    have := h.2.1
    exact gX2_paceF hI hkl h.2 hO hw ⟨h.1, by omega⟩ hQ
  · rw [if_pos h.1, ← pl_ev e] at hQ
    exact gX2_paceF hI hkl h.2 hO pl_w (by decide) hQ
-- taken cells, as bits
def TK (t : Int) (r : Int → Int) (H : Nat) : Prop := ∀ x : Nat, x < 31 → (bt (iI t) x = true ↔ 0 ≤ onF r H x)
theorem gX6_takenCells_L4 {k0 : Nat} {Q : Int → Mem → Prop} {M E : Mem} {r : Int → Int} (hS : STR E M) (hC : SC E M k0 r) (hW : WR E r) (hQ : ∀ z : Int, TK z r (eH E) → Q z M) : ∀ (n : Nat) (v1 v2 : Int), iR v1 → TK v1 r v2.toNat → (0 ≤ v2 ∧ v2 ≤ E 1 4) → E 1 4 - v2 < (n : Int) → qX6_takenCells_L4 k0 Q n v1 v2 M := by
  intro n
  induction n with
  | zero => intro v1 v2 hr ht hv hm; exact absurd hm (by omega)
  | succ n ih =>
    intro v1 v2 hr ht hv hm
    have bH := hS.h
    have b4 := hS.2.2.2.2.2.2.1
    have bg := hS.g
    rw [qX6_takenCells_L4]
    intro x1 e1 _
    have f1 : x1 = E 1 4 := by rw [e1]; exact hC.1
    refine ⟨⟨by omega, by omega⟩, ⟨fun c => ⟨hr, hQ _ ?_⟩, fun c => ⟨by omega, by omega, ?_⟩⟩⟩
    · rw [show v2.toNat = eH E from by omega] at ht
      exact ht
    · intro x7 e7 _
      have f7 : x7 = r v2 := by rw [e7]; exact hC.2.2.1 v2 (by omega) (by omega)
      have w7 := hW.2.1 v2 hv.1 (by omega)
      refine ⟨fun c2 => ?_, fun c2 => ?_⟩
      · intro x9 e9 _ x10 e10 _ x11 e11 r11
        have f9 : x9 = r v2 := by rw [e9, ← e7, f7]
        refine ih _ _ r11 (fun x hx => ?_) (by omega) (by omega)
        rw [e11, bt_oI, e10, bt_sl1 (by omega) (by omega), onF_s hv.1, f9]
        by_cases cx : (x : Int) = r v2
        · rw [if_pos cx.symm]
          simp [cx, hv.1]
        · rw [if_neg (fun w => cx w.symm)]
          simp only [cx, decide_false, Bool.or_false]
          exact ht x hx
      · intro x12 e12 r12
        refine ih _ _ r12 (fun x hx => ?_) (by omega) (by omega)
        rw [e12, bt_oI, show iI 0 = (0 : Int32) from rfl, b_0, onF_s hv.1, if_neg (by omega), Bool.or_false]
        exact ht x hx
theorem gX6_takenCells {k0 : Nat} {Q : Int → Mem → Prop} {M E : Mem} {r : Int → Int} (hS : STR E M) (hC : SC E M k0 r) (hW : WR E r) (hQ : ∀ z : Int, TK z r (eH E) → Q z M) : qX6_takenCells k0 M Q := by
  have b4 := hS.2.2.2.2.2.2.1
  unfold qX6_takenCells
  refine ⟨7, gX6_takenCells_L4 hS hC hW hQ _ _ _ (by decide) (fun x hx => ?_) (by omega) (by omega)⟩
  rw [show iI 0 = (0 : Int32) from rfl, b_0]
  exact ⟨fun q => absurd q (by decide), fun q => absurd q (by show ¬ (0 : Int) ≤ -1; decide)⟩
theorem mk_up : ∀ t : Nat, t < 30 → ∀ f : Nat, f < t → ∀ x : Nat, x < 32 → bt (iI (slI 2 t - slI 1 f)) x = decide (f ≤ x ∧ x ≤ t) := by decide +kernel
theorem mk_bt : ∀ t : Nat, t < 30 → ∀ f : Nat, f < t → ∀ x : Nat, x < 32 → bt (iI (slI 1 t - slI 2 f)) x = decide (f < x ∧ x < t) := by decide +kernel
theorem gX10_goal_L15 {p1 p2 p3 : Int} {Q : Int → Mem → Prop} {M E : Mem} {r : Int → Int} (hI : IX M) (hS : STR E M) (hW : WR E r) (hT : TK p1 r (eH E)) (hf : 0 ≤ p2 ∧ p2 < eG E) (hp : 0 ≤ p3 ∧ p3 ≤ 3) (hQ : ∀ z : Int, (z = -1 ∧ (∀ x, p2 < x → x ≤ min (eG E) (p2 + p3) → ¬ okF E r p2 x) ∨ (p2 < z ∧ z ≤ min (eG E) (p2 + p3)) ∧ okF E r p2 z ∧ ∀ x, z < x → x ≤ min (eG E) (p2 + p3) → ¬ okF E r p2 x) → Q z M) : ∀ (n : Nat) (v4 : Int), (p2 ≤ v4 ∧ v4 ≤ min (eG E) (p2 + p3)) → (∀ x, v4 < x → x ≤ min (eG E) (p2 + p3) → ¬ okF E r p2 x) → v4 < (n : Int) → qX10_goal_L15 p1 p2 p3 Q n v4 M := by
  intro n
  induction n with
  | zero => intro v4 hv hx hm; exact absurd hm (by omega)
  | succ n ih =>
    intro v4 hv hx hm
    have bg := hS.g
    have bH := hS.h
    rw [qX10_goal_L15]
    refine ⟨⟨by omega, by omega⟩, ⟨fun c => hQ _ (Or.inl ⟨rfl, fun x a q => hx x (by omega) q⟩), fun c => ?_⟩⟩
    intro x6 e6 _ x7 e7 _ x8 e8 _ x9 e9 _ x10 e10 _ x11 e11 _
    have hm1 : ∀ x : Nat, x < 32 → bt (iI (x6 - x7)) x = decide (p2 ≤ x ∧ (x : Int) ≤ v4) := by
      intro x hx'
      have := mk_up v4.toNat (by omega) p2.toNat (by omega) x hx'
      rw [show ((v4.toNat : Nat) : Int) = v4 from by omega, show ((p2.toNat : Nat) : Int) = p2 from by omega] at this
      rw [e6, e7, this]
      exact decide_eq_decide.mpr (by omega)
    have hm2 : ∀ x : Nat, x < 32 → bt (iI (x8 - x9)) x = decide (p2 < x ∧ (x : Int) < v4) := by
      intro x hx'
      have := mk_bt v4.toNat (by omega) p2.toNat (by omega) x hx'
      rw [show ((v4.toNat : Nat) : Int) = v4 from by omega, show ((p2.toNat : Nat) : Int) = p2 from by omega] at this
      rw [e8, e9, this]
      exact decide_eq_decide.mpr (by omega)
    rw [e10, bit1 (by omega)] at e11
    have t4 := hT v4.toNat (by omega)
    rw [show ((v4.toNat : Nat) : Int) = v4 from by omega] at t4
    -- no hearse stands at the gate
    have ng : v4 = eG E → onF r (eH E) v4 < 0 := by
      intro q
      rcases Int.lt_or_le (onF r (eH E) v4) 0 with w | w
      · exact w
      · exfalso
        have ob := onF_b r (eH E) v4
        have oc := onF_c w
        have := hW.2.1 _ w (by omega)
        omega
    have NO : ¬ okF E r p2 v4 → qX10_goal_L15 p1 p2 p3 Q n (v4 + (-1)) M := by
      intro h
      refine ih _ (by omega) (fun x a q => ?_) (by omega)
      by_cases cx : x = v4
      · rw [cx]; exact h
      · exact hx x (by omega) q
    have YES : okF E r p2 v4 → Q v4 M := fun h => hQ _ (Or.inr ⟨by omega, h, hx⟩)
    refine ⟨fun c2 => ?_, fun c2 => ?_⟩
    · have h1 : bt (iI p1) v4.toNat = true := by
        by_cases q : bt (iI p1) v4.toNat = true
        · exact q
        · rw [if_neg q] at e11; exact absurd e11 c2
      unfold qX10_goal_J55
      refine ⟨by decide, ⟨fun _ => NO (fun h => ?_), fun h => absurd rfl h⟩⟩
      have o := t4.mp h1
      rcases h.1 with w | w
      · have := ng w
        omega
      · omega
    · have h1 : ¬ bt (iI p1) v4.toNat = true := fun q => by rw [if_pos q] at e11; omega
      have o4 : onF r (eH E) v4 < 0 := by
        rcases Int.lt_or_le (onF r (eH E) v4) 0 with w | w
        · exact w
        · exact absurd (t4.mpr w) h1
      unfold qX10_goal_J55
      refine ⟨by decide, ⟨fun h => absurd h (by decide), fun _ => ?_⟩⟩
      intro x15 e15 _
      refine ⟨fun c3 => ⟨⟨by omega, by omega⟩, YES ⟨Or.inr o4, Or.inl (fun x a q => ?_)⟩⟩, fun c3 => ?_⟩
      · rw [c3] at e15
        have z := aI_z.mp e15.symm x.toNat (by omega)
        rw [hm2 x.toNat (by omega), show ((x.toNat : Nat) : Int) = x from by omega] at z
        have t := hT x.toNat (by omega)
        rw [show ((x.toNat : Nat) : Int) = x from by omega] at t
        rcases Int.lt_or_le (onF r (eH E) x) 0 with w | w
        · exact w
        · exact absurd ⟨t.mpr w, by simp [a, q]⟩ z
      · have np : ¬ ∀ x, p2 < x → x < v4 → onF r (eH E) x < 0 := by
          intro h
          apply c3
          rw [e15]
          refine aI_z.mpr (fun i hi q => ?_)
          rw [hm2 i hi] at q
          have q2 : p2 < (i : Int) ∧ (i : Int) < v4 := of_decide_eq_true q.2
          have t := (hT i (by omega)).mp q.1
          have := h i q2.1 q2.2
          omega
        intro x18 e18 _ x19 e19 _
        refine ⟨fun c4 => NO (fun h => ?_), fun c4 => ⟨⟨by omega, by omega⟩, YES ⟨Or.inr o4, Or.inr (fun x a q => ?_)⟩⟩⟩
        · rcases h.2 with w | w
          · exact np w
          · apply c4
            rw [e19]
            refine aI_z.mpr (fun i hi q => ?_)
            rw [hm1 i hi] at q
            have q2 : p2 ≤ (i : Int) ∧ (i : Int) ≤ v4 := of_decide_eq_true q.2
            rw [e18] at q
            have k := (hS.2.2.1 i (by have : eG E = E 1 3 - 1 := rfl; omega)).mp q.1
            exact k (w i q2.1 q2.2)
        · rw [c4] at e19
          have z := aI_z.mp e19.symm x.toNat (by omega)
          rw [hm1 x.toNat (by omega), show ((x.toNat : Nat) : Int) = x from by omega, e18] at z
          have k := hS.2.2.1 x.toNat (by have : eG E = E 1 3 - 1 := rfl; omega)
          rw [show ((x.toNat : Nat) : Int) = x from by omega] at k
          by_cases w : E 2 x = 0
          · exact w
          · exact absurd ⟨k.mpr w, by simp [a, q]⟩ z
theorem gX10_goal {p1 p3 h : Int} {Q : Int → Mem → Prop} {M E : Mem} {r : Int → Int} (hI : IX M) (hS : STR E M) (hW : WR E r) (hT : TK p1 r (eH E)) (hf : 0 ≤ r h ∧ r h < eG E) (hp : 0 ≤ p3 ∧ p3 ≤ 3) (hQ : Q (if goF E r h p3 = r h then -1 else goF E r h p3) M) : qX10_goal p1 (r h) p3 M Q := by
  have bg := hS.g
  unfold qX10_goal
  refine gX8_gate hI hS ?_
  intro _
  refine ⟨⟨by omega, by omega⟩, ?_⟩
  intro x3 e3 _
  refine ⟨31, gX10_goal_L15 hI hS hW hT hf hp ?_ _ _ (by omega) (fun x a q => by omega) (by omega)⟩
  intro z hz
  have e : (if goF E r h p3 = r h then -1 else goF E r h p3) = z := by
    rcases hz with w | w
    · have : goF E r h p3 = r h := by
        unfold goF
        exact gdF_u ⟨⟨by omega, by omega⟩, Or.inl rfl, fun x a q => w.2 x a (by omega)⟩
      rw [if_pos this]
      exact w.1.symm
    · have : goF E r h p3 = z := by
        unfold goF
        exact gdF_u ⟨⟨by omega, by omega⟩, Or.inr w.2.1, fun x a q => w.2.2 x a (by omega)⟩
      rw [this, if_neg (by omega)]
  rw [← e]
  exact hQ
