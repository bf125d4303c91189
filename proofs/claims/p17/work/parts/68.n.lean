/-! THE STEP of the reference: what it makes of its row -/
theorem CE.h {E M : Mem} {b : Int} (h : CE E M) (hI : IM b M) : ((eH E : Nat) : Int) = M 1 4 ∧ 0 ≤ M 1 4 ∧ M 1 4 ≤ 6 := by
  have e : M 1 4 = E 1 4 := h 1 4 cE14
  have := bm_c1_4.mp (hI.bx 1 4)
  exact ⟨by show (((E 1 4).toNat : Nat) : Int) = M 1 4; omega, by omega, by omega⟩
theorem CE.o {E M : Mem} {b : Int} (h : CE E M) (hI : IM b M) : ((eO E : Nat) : Int) = M 1 5 ∧ 0 ≤ M 1 5 ∧ M 1 5 ≤ 8 := by
  have e : M 1 5 = E 1 5 := h 1 5 cE15
  have := bm_c1_5.mp (hI.bx 1 5)
  exact ⟨by show (((E 1 5).toNat : Nat) : Int) = M 1 5; omega, by omega, by omega⟩
theorem CE.g {E M : Mem} {b : Int} (h : CE E M) (hI : IM b M) : M 1 3 - 1 = eG E ∧ 3 ≤ eG E ∧ eG E ≤ 29 := by
  have e : M 1 3 = E 1 3 := h 1 3 cE13
  have := bm_c1_3.mp (hI.bx 1 3)
  show M 1 3 - 1 = E 1 3 - 1 ∧ 3 ≤ E 1 3 - 1 ∧ E 1 3 - 1 ≤ 29
  omega
theorem gX12_gate {b : Int} {M E : Mem} {Q : Int → Mem → Prop} (hI : IM b M) (hE : CE E M) (hQ : Q (eG E) M) : qX12_gate M Q := by
  refine sX12_gate hI ?_
  intro z hz
  rw [show z = eG E from by have := hE.g hI; omega]
  exact hQ
theorem gX12_onCell_L5 {k1 : Nat} {p2 b : Int} {Q : Int → Mem → Prop} {M E : Mem} (hI : IM b M) (hE : CE E M) (hQ : Q (onF (M k1) (eH E) p2) M) : ∀ (n : Nat) (v3 v4 : Int), v3 = onF (M k1) v4.toNat p2 → (0 ≤ v4 ∧ v4 ≤ M 1 4) → M 1 4 - v4 < (n : Int) → qX12_onCell_L5 k1 p2 Q n v3 v4 M := by
  intro n
  induction n with
  | zero => intro v3 v4 h3 hv hm; exact absurd hm (by omega)
  | succ n ih =>
    intro v3 v4 h3 hv hm
    have bH := hE.h hI
    have bo := onF_b (M k1) v4.toNat p2
    rw [qX12_onCell_L5]
    intro x1 e1 _
    refine ⟨⟨by omega, by omega⟩, ⟨fun c => ⟨⟨by omega, by omega⟩, ?_⟩, fun c => ⟨by omega, by omega, ?_⟩⟩⟩
    · rw [h3, show v4.toNat = eH E from by omega]
      exact hQ
    · intro x7 e7 _
      have hs := onF_s (c := M k1) (v := p2) hv.1
      refine ⟨fun c2 => ih _ _ ?_ (by omega) (by omega), fun c2 => ih _ _ ?_ (by omega) (by omega)⟩
      · rw [hs, if_neg (by rw [← e7]; exact c2), h3]
      · rw [hs, if_pos (by rw [← e7]; exact c2)]
theorem gX12_onCell {k1 : Nat} {p2 b : Int} {Q : Int → Mem → Prop} {M E : Mem} (hI : IM b M) (hE : CE E M) (hQ : Q (onF (M k1) (eH E) p2) M) : qX12_onCell k1 p2 M Q := by
  have bH := hE.h hI
  unfold qX12_onCell
  exact ⟨7, gX12_onCell_L5 hI hE hQ _ _ _ rfl (by omega) (by omega)⟩
theorem frF_s {c : Int → Int} {H : Nat} {g v m : Int} (h : 0 ≤ m ∧ m ≤ 30) : frF c H g v (31 - m).toNat m = if g ≤ v + m then m else if v + m + 1 = g then frF c H g v (31 - (m + 1)).toNat (m + 1) else if 0 ≤ onF c H (v + m + 1) then m else frF c H g v (31 - (m + 1)).toNat (m + 1) := by
  rw [show (31 - m).toNat = (31 - (m + 1)).toNat + 1 from by omega]
  rfl
theorem gX12_freeAhead_L2 {k1 : Nat} {p2 b T : Int} {Q : Int → Mem → Prop} {M E : Mem} (hI : IM b M) (hE : CE E M) (hp : 0 ≤ p2 ∧ p2 ≤ 29) (hQ : Q T M) : ∀ (n : Nat) (v3 : Int), frF (M k1) (eH E) (eG E) p2 (31 - v3).toNat v3 = T → (0 ≤ v3 ∧ v3 ≤ 30) → 30 - v3 < (n : Int) → qX12_freeAhead_L2 k1 p2 Q n v3 M := by
  intro n
  induction n with
  | zero => intro v3 h3 hv hm; exact absurd hm (by omega)
  | succ n ih =>
    intro v3 h3 hv hm
    have bg := hE.g hI
    rw [frF_s hv] at h3
    rw [qX12_freeAhead_L2]
    refine gX12_gate hI hE ?_
    intro _
    refine ⟨⟨by omega, by omega⟩, ⟨fun c => ⟨⟨by omega, by omega⟩, ?_⟩, fun c => ?_⟩⟩
    · rw [if_pos c] at h3
      rw [h3]; exact hQ
    · rw [if_neg c] at h3
      refine gX12_gate hI hE ?_
      intro _
      refine ⟨⟨by omega, by omega⟩, ⟨fun c2 => ?_, fun c2 => ?_⟩⟩
      · rw [if_pos c2] at h3
        exact ih _ h3 (by omega) (by omega)
      · rw [if_neg c2] at h3
        refine gX12_onCell hI hE ?_
        intro _
        refine ⟨fun c3 => ⟨⟨by omega, by omega⟩, ?_⟩, fun c3 => ?_⟩
        · rw [if_pos c3] at h3
          rw [h3]; exact hQ
        · rw [if_neg c3] at h3
          exact ih _ h3 (by omega) (by omega)
theorem gX12_freeAhead {k1 : Nat} {p2 b : Int} {Q : Int → Mem → Prop} {M E : Mem} (hI : IM b M) (hE : CE E M) (hp : 0 ≤ p2 ∧ p2 ≤ 29) (hQ : Q (frF (M k1) (eH E) (eG E) p2 31 0) M) : qX12_freeAhead k1 p2 M Q := by
  unfold qX12_freeAhead
  exact ⟨31, gX12_freeAhead_L2 hI hE hp hQ _ _ rfl (by omega) (by omega)⟩
theorem gX12_isOn {k0 : Nat} {p1 : Int} {M : Mem} {Q : Int → Mem → Prop} (hp : 0 ≤ p1 ∧ p1 ≤ 37) (hQ : ∀ z : Int, (z = 1 ∧ 0 ≤ M k0 p1 ∨ z = 0 ∧ M k0 p1 < 0) → Q z M) : qX12_isOn k0 p1 M Q := by
  unfold qX12_isOn
  refine ⟨by omega, by omega, ?_⟩
  intro x3 e3 _
  exact ⟨fun c => hQ _ (Or.inr ⟨rfl, by omega⟩), fun c => hQ _ (Or.inl ⟨rfl, by omega⟩)⟩
theorem gX12_isEnded {k0 : Nat} {p1 : Int} {M : Mem} {Q : Int → Mem → Prop} (hp : 0 ≤ p1 ∧ p1 ≤ 7) (hQ : ∀ z : Int, (z = 1 ∧ 0 ≤ M k0 (29 + p1) ∨ z = 0 ∧ M k0 (29 + p1) < 0) → Q z M) : qX12_isEnded k0 p1 M Q := by
  unfold qX12_isEnded
  refine ⟨by omega, by omega, ?_⟩
  intro x3 e3 _
  exact ⟨fun c => hQ _ (Or.inr ⟨rfl, by omega⟩), fun c => hQ _ (Or.inl ⟨rfl, by omega⟩)⟩
theorem gX12_weatherOn {p1 b : Int} {M : Mem} {Q : Int → Mem → Prop} (hI : IM b M) (hp : 0 ≤ p1 ∧ p1 ≤ 2147483647) (hQ : Q (M 4 (rmI p1 (M 1 7))) M) : qX12_weatherOn p1 M Q := by
  unfold qX12_weatherOn
  intro x1 e1 _
  have b1 : 1 ≤ x1 ∧ x1 ≤ 20 := by rw [e1]; exact bm_c1_7.mp (hI.bx _ _)
  refine ⟨by omega, ?_⟩
  intro x3 e3 _
  have b3 := rmI_b (a := p1) (b := x1) hp ⟨by omega, by omega⟩
  rw [← e3] at b3
  refine ⟨by omega, by omega, ?_⟩
  intro x6 e6 _
  rw [e6, e3, e1]
  exact hQ
theorem gX12_bitsBy_L6 {k1 : Nat} {p2 p3 b : Int} {Q : Int → Mem → Prop} {M E : Mem} (hI : IM b M) (hE : CE E M) (hp : 0 ≤ p2 ∧ p2 ≤ 29) (hQ : Q (bitF (fun m => M k1 (p2 + m)) p3 (eO E)) M) : ∀ (n : Nat) (v4 v5 : Int), v4 = bitF (fun m => M k1 (p2 + m)) p3 v5.toNat → (0 ≤ v5 ∧ v5 ≤ M 1 5) → M 1 5 - v5 < (n : Int) → qX12_bitsBy_L6 k1 p2 p3 Q n v4 v5 M := by
  intro n
  induction n with
  | zero => intro v4 v5 h4 hv hm; exact absurd hm (by omega)
  | succ n ih =>
    intro v4 v5 h4 hv hm
    have bO := hE.o hI
    have r4 := bitF_R (fun m => M k1 (p2 + m)) p3 v5.toNat
    rw [← h4] at r4
    rw [qX12_bitsBy_L6]
    intro x1 e1 _
    refine ⟨⟨by omega, by omega⟩, ⟨fun c => ⟨r4, ?_⟩, fun c => ⟨by omega, by omega, ?_⟩⟩⟩
    · rw [h4, show v5.toNat = eO E from by omega]
      exact hQ
    · intro x7 e7 _
      have hs := bitF_s (f := fun m => M k1 (p2 + m)) (x := p3) hv.1
      refine ⟨fun c2 => ?_, fun c2 => ?_⟩
      · intro x9 e9 _
        refine ih _ _ ?_ (by omega) (by omega)
        rw [hs, if_neg (by show ¬ M k1 (p2 + v5) = p3; rw [← e7]; exact c2), e9, h4]
      · intro x10 e10 _ x11 e11 _
        refine ih _ _ ?_ (by omega) (by omega)
        rw [hs, if_pos (by show M k1 (p2 + v5) = p3; rw [← e7]; exact c2), e11, e10, h4]
theorem gX12_bitsBy {k1 : Nat} {p2 p3 b : Int} {Q : Int → Mem → Prop} {M E : Mem} (hI : IM b M) (hE : CE E M) (hp : 0 ≤ p2 ∧ p2 ≤ 29) (hQ : Q (bitF (fun m => M k1 (p2 + m)) p3 (eO E)) M) : qX12_bitsBy k1 p2 p3 M Q := by
  have bO := hE.o hI
  unfold qX12_bitsBy
  exact ⟨9, gX12_bitsBy_L6 hI hE hp hQ _ _ _ rfl (by omega) (by omega)⟩
theorem gX12_flag {p0 b : Int} {M : Mem} {Q : Int → Mem → Prop} (hI : IM b M) (hQ : Q (if p0 = 0 then 0 else 1) M) : qX12_flag p0 M Q := by
  refine sX12_flag (p0 := p0) hI ?_
  intro z hz
  have e : z = if p0 = 0 then 0 else 1 := by
    split
    · rcases hz.1 with h | h
      · exact h
      · exact absurd (by assumption) (hz.2.2 h)
    · rcases hz.1 with h | h
      · exact absurd (hz.2.1 h) (by assumption)
      · exact h
  rw [e]
  exact hQ
theorem gX12_worked {p0 p1 p2 b : Int} {M : Mem} {Q : Int → Mem → Prop} (hI : IM b M) (hQ : Q (wkF p0 p1 p2) M) : qX12_worked p0 p1 p2 M Q := by
  unfold wkF at hQ
  unfold qX12_worked
  refine ⟨fun c => ?_, fun c => ?_, fun c => ?_, fun c => ?_, fun c => ?_, fun c => ?_, fun c => ?_⟩
  · rw [if_pos c] at hQ
    refine ⟨fun c2 => ?_, fun c2 => ?_⟩ <;> unfold qX12_worked_J50 <;> refine ⟨by decide, ?_⟩ <;> refine gX12_flag hI ?_ <;> intro _
    · rw [if_neg (by omega)] at hQ; exact hQ
    · rw [if_pos (by omega)] at hQ; exact hQ
  · rw [if_neg (by omega), if_pos c] at hQ
    refine ⟨fun c2 => ?_, fun c2 => ?_⟩ <;> unfold qX12_worked_J64 <;> refine ⟨by decide, ?_⟩ <;> refine gX12_flag hI ?_ <;> intro _
    · rw [if_neg (by omega)] at hQ; exact hQ
    · rw [if_pos (by omega)] at hQ; exact hQ
  · rw [if_neg (by omega), if_neg (by omega), if_pos c] at hQ
    refine ⟨fun c2 => ?_, fun c2 => ?_⟩ <;> unfold qX12_worked_J78 <;> refine ⟨by decide, ?_⟩ <;> refine gX12_flag hI ?_ <;> intro _
    · rw [if_neg c2] at hQ; exact hQ
    · rw [if_pos c2] at hQ; exact hQ
  · rw [if_neg (by omega), if_neg (by omega), if_neg (by omega), if_pos c] at hQ
    intro x e _
    rw [e]; exact hQ
  · rw [if_neg (by omega), if_neg (by omega), if_neg (by omega), if_neg (by omega), if_pos c] at hQ
    intro x e _
    rw [e]; exact hQ
  · rw [if_neg (by omega), if_neg (by omega), if_neg (by omega), if_neg (by omega), if_neg (by omega), if_pos c] at hQ
    intro x e _
    rw [e]; exact hQ
  · rw [if_neg (by omega), if_neg (by omega), if_neg (by omega), if_neg (by omega), if_neg (by omega), if_neg (by omega)] at hQ
    refine ⟨fun c2 => ⟨c2, ?_⟩, fun c2 => ?_⟩
    · rw [if_neg c2] at hQ
      intro x e _
      rw [e]; exact hQ
    · rw [if_pos c2] at hQ; exact hQ
-- the rule is worked
theorem evS_s {f e : Int → Int} {n : Int} (h : 0 ≤ n) : evS f e (n + 1).toNat = if f n = 3000 then up (evS f e n.toNat) (dpc f n.toNat - 1) (w32 (-(evS f e n.toNat (dpc f n.toNat - 1)))) else if 2000 ≤ f n then up (evS f e n.toNat) (dpc f n.toNat - 2) (wkF (f n - 2000) (evS f e n.toNat (dpc f n.toNat - 2)) (evS f e n.toNat (dpc f n.toNat - 1))) else up (evS f e n.toNat) (dpc f n.toNat) (if 1000 ≤ f n then e (f n - 1000) else f n) := by
  rw [show (n + 1).toNat = n.toNat + 1 from by omega]
  have hc : ((n.toNat : Nat) : Int) = n := by omega
  show (if f (n.toNat : Nat) = 3000 then _ else if 2000 ≤ f (n.toNat : Nat) then _ else _) = _
  rw [hc]
theorem dpc_s {f : Int → Int} {n : Int} (h : 0 ≤ n) : dpc f (n + 1).toNat = dpc f n.toNat + (if f n = 3000 then 0 else if f n < 2000 then 1 else -1) := by
  rw [show (n + 1).toNat = n.toNat + 1 from by omega]
  show dpc f n.toNat + (if f (n.toNat : Nat) = 3000 then 0 else if f (n.toNat : Nat) < 2000 then 1 else -1) = _
  rw [show ((n.toNat : Nat) : Int) = n from by omega]
theorem evS_cg {f e e' : Int → Int} {m : Int} (hw : WFC f m) (he : ∀ j, 0 ≤ j → j < 7 → e j = e' j) (k : Nat) (hk : (k : Int) ≤ m) : evS f e k = evS f e' k := by
  induction k with
  | zero => rfl
  | succ k ih =>
    have i := ih (by omega)
    have w := hw k (by omega)
    unfold evS
    rw [i]
    by_cases c1 : f k = 3000
    · rw [if_pos c1, if_pos c1]
    · rw [if_neg c1, if_neg c1]
      by_cases c2 : 2000 ≤ f k
      · rw [if_pos c2, if_pos c2]
      · rw [if_neg c2, if_neg c2]
        by_cases c3 : 1000 ≤ f k
        · rw [if_pos c3, if_pos c3, he _ (by omega) (by have := w.2.2 c3 (by omega); omega)]
        · rw [if_neg c3, if_neg c3]
theorem dpc_p {f : Int → Int} {m : Int} (h : WFC f m) (n : Nat) (h1 : 1 ≤ n) (hn : (n : Int) ≤ m) : 1 ≤ dpc f n := by
  obtain ⟨k, rfl⟩ : ∃ k, n = k + 1 := ⟨n - 1, by omega⟩
  have i := dpc_nn h k (by omega)
  obtain ⟨a, b, _⟩ := h k (by omega)
  unfold dpc
  split
  · have := a (by assumption)
    omega
  · rename_i c
    split
    · omega
    · have := b (by omega) c
      omega
theorem gX12_ruled_L4 {X125 : Mem → Prop} {Q : Int → Mem → Prop} {b : Int} {M0 : Mem} (hX : ∀ M' : Mem, IM b M' → FrJ (fun k j => k = 13) M0 M' → (∀ i, 0 ≤ i → i < dpc (M0 11) (M0 1 24).toNat → M' 13 i = evS (M0 11) (M0 14) (M0 1 24).toNat i) → X125 M') : ∀ (n : Nat) (v1 v2 : Int) (M : Mem), IM b M → FrJ (fun k j => k = 13) M0 M → (v1 = dpc (M0 11) v2.toNat ∧ 0 ≤ v2 ∧ v2 ≤ M0 1 24) → (∀ i, 0 ≤ i → i < v1 → M 13 i = evS (M0 11) (M0 14) v2.toNat i) → M0 1 24 - v2 < (n : Int) → qX12_ruled_L4 X125 Q n v1 v2 M := by
  intro n
  induction n with
  | zero => intro v1 v2 M hI hF hv hs hm; exact absurd hm (by omega)
  | succ n ih =>
    intro v1 v2 M hI hF hv hs hm
    rw [qX12_ruled_L4]
    intro x1 e1 _
    have b1 : 0 ≤ x1 ∧ x1 ≤ 80 := by rw [e1]; exact bm_c1_24.mp (hI.bx _ _)
    have f1 : x1 = M0 1 24 := by rw [e1]; exact hF 1 24 (by omega)
    refine ⟨⟨by omega, by omega⟩, ⟨fun c => hX _ hI hF ?_, fun c => ?_⟩⟩
    · rw [show (M0 1 24).toNat = v2.toNat from by omega, ← hv.1]
      exact hs
    refine ⟨by omega, by omega, ?_⟩
    intro x6 e6 r6
    have k11 : M 11 = M0 11 := funext fun j => hF 11 j (by omega)
    have k14 : M 14 = M0 14 := funext fun j => hF 14 j (by omega)
    have hW : WFC (M0 11) (M0 1 24) := by
      have w := hI.2
      rw [k11, show M 1 24 = M0 1 24 from hF 1 24 (by omega)] at w
      exact w
    have hw := hW v2.toNat (by omega)
    have hc : ((v2.toNat : Nat) : Int) = v2 := by omega
    have hn := dpc_nn hW v2.toNat (by omega)
    have hl := dpc_le (M0 11) v2.toNat
    have e6' : x6 = M0 11 v2 := by rw [e6, k11]
    rw [hc, ← e6'] at hw
    have hd := dpc_s (f := M0 11) (n := v2) hv.2.1
    have hev := evS_s (f := M0 11) (e := M0 14) (n := v2) hv.2.1
    rw [← e6'] at hd hev
    rw [← hv.1] at hd hev hw
    have key : ∀ (M' : Mem) (j v w : Int), M' = up2 M 13 j v → w = v1 + (if x6 = 3000 then 0 else if x6 < 2000 then 1 else -1) → evS (M0 11) (M0 14) (v2 + 1).toNat = up (evS (M0 11) (M0 14) v2.toNat) j v → (0 ≤ j ∧ w - 1 = j ∧ j ≤ v1) → qX12_ruled_L4 X125 Q n w (v2 + 1) M' := by
      intro M' j v w hM' hw' hE hj
      refine ih _ _ _ (by rw [hM']; exact hI.up (by omega) (by simp [BM])) (by rw [hM']; exact hF.up rfl) ⟨by rw [hd]; exact hw', by omega, by omega⟩ ?_ (by omega)
      intro i a q
      rw [hM', hE]
      by_cases ci : i = j
      · rw [ci, up2_s, upS]
      · rw [up2_j ci, up_j ci]
        exact hs i a (by omega)
    refine ⟨fun c1 => ⟨fun c2 => ⟨fun c3 => ?_, fun c3 => ?_⟩, fun c2 => ?_⟩, fun c1 => ?_⟩
    · unfold qX12_ruled_J115
      refine ⟨by omega, by omega, r6, ?_⟩
      intro M13 h13
      exact key _ _ _ _ h13 (by rw [if_neg c1, if_pos c2]) (by rw [hev, if_neg c1, if_neg (by omega), if_neg (by omega)]) ⟨by omega, by omega, by omega⟩
    · intro x14 e14 _
      have f14 : x14 = x6 - 1000 := by rw [e14]; exact w32_id ⟨by omega, by omega⟩
      have := hw.2.2 (by omega) (by omega)
      refine ⟨by omega, by omega, ?_⟩
      intro x17 e17 r17
      unfold qX12_ruled_J115
      refine ⟨by omega, by omega, r17, ?_⟩
      intro M13 h13
      exact key _ _ _ _ h13 (by rw [if_neg c1, if_pos c2]) (by rw [hev, if_neg c1, if_neg (by omega), if_pos (by omega), e17, f14, k14]) ⟨by omega, by omega, by omega⟩
    · have h2 := hw.2.1 (by omega) c1
      intro x18 e18 _ x19 e19 _ x20 e20 _
      have f18 : x18 = v1 + (-1) - 1 := by rw [e18]; exact w32_id ⟨by omega, by omega⟩
      have f20 : x20 = v1 + (-1) - 1 := by rw [e20]; exact w32_id ⟨by omega, by omega⟩
      have f19 : x19 = x6 - 2000 := by rw [e19]; exact w32_id ⟨by have : -2147483648 ≤ x6 ∧ x6 ≤ 2147483647 := r6; omega, by have : -2147483648 ≤ x6 ∧ x6 ≤ 2147483647 := r6; omega⟩
      refine ⟨by omega, by omega, ?_⟩
      intro x23 e23 _
      refine ⟨by omega, by omega, ?_⟩
      intro x26 e26 _
      refine gX12_worked hI ?_
      intro r27
      refine ⟨by omega, by omega, ?_⟩
      intro M30 h30
      have a23 : x23 = evS (M0 11) (M0 14) v2.toNat (v1 - 2) := by rw [e23, show x20 = v1 - 2 from by omega]; exact hs _ (by omega) (by omega)
      have a26 : x26 = evS (M0 11) (M0 14) v2.toNat (v1 - 1) := by rw [e26, show v1 + (-1) = v1 - 1 from by omega]; exact hs _ (by omega) (by omega)
      exact key _ _ _ _ h30 (by rw [if_neg c1, if_neg c2]) (by rw [hev, if_neg c1, if_pos (by omega), ← a23, ← a26, f19, show v1 - 2 = x18 from by omega]) ⟨by omega, by omega, by omega⟩
    · have h1 := hw.1 c1
      intro x31 e31 _ x32 e32 _
      have f31 : x31 = v1 - 1 := by rw [e31]; exact w32_id ⟨by omega, by omega⟩
      have f32 : x32 = v1 - 1 := by rw [e32]; exact w32_id ⟨by omega, by omega⟩
      refine ⟨by omega, by omega, ?_⟩
      intro x35 e35 _ x36 e36 _
      refine ⟨by omega, by omega, ?_⟩
      intro M39 h39
      have a35 : x35 = evS (M0 11) (M0 14) v2.toNat (v1 - 1) := by rw [e35, f32]; exact hs _ (by omega) (by omega)
      exact key _ _ _ _ h39 (by rw [if_pos c1]; omega) (by rw [hev, if_pos c1, e36, a35, f31]) ⟨by omega, by omega, by omega⟩
theorem gX12_ruled {b : Int} {M E : Mem} {Q : Int → Mem → Prop} (hI : IM b M) (hE : CE E M) (hQ : ∀ M' : Mem, IM b M' → FrJ (fun k j => k = 13) M M' → Q (ruF E (M 14)) M') : qX12_ruled M Q := by
  have b24 := bm_c1_24.mp (hI.bx 1 24)
  have k24 : M 1 24 = E 1 24 := hE 1 24 cE124
  have k11 : M 11 = E 11 := funext fun j => hE 11 j (cE11 j)
  unfold ruF at hQ
  unfold qX12_ruled
  refine ⟨81, gX12_ruled_L4 (b := b) (M0 := M) ?_ _ _ _ _ hI FrJ.rf ⟨rfl, by omega, by omega⟩ (fun i a q => ?_) (by omega)⟩
  · intro M' h' hF hs x41 e41 _
    have f41 : x41 = E 1 24 := by rw [e41, hF 1 24 (by omega), k24]
    refine ⟨fun c => ?_, fun c => ?_⟩
    · intro x43 e43 _
      have H := hQ M' h' hF
      rw [if_neg (by omega)] at H
      have : x43 = evS (E 11) (M 14) (E 1 24).toNat 0 := by
        rw [e43, ← k11, ← k24]
        refine hs 0 (by decide) ?_
        have := dpc_p hI.2 (M 1 24).toNat (by omega) (by omega)
        omega
      rw [this]
      exact H
    · intro x44 e44 _
      have H := hQ M' h' hF
      rw [if_pos (by omega)] at H
      have f44 : x44 = M 14 1 := by rw [e44]; exact hF 14 1 (by omega)
      refine ⟨fun c2 => ?_, fun c2 => ?_⟩
      · unfold qX12_ruled_J148
        refine ⟨by decide, ?_⟩
        refine gX12_flag h' ?_
        intro _ x48 e48 _
        rw [if_pos (by omega)] at H
        rw [e48]
        exact H
      · unfold qX12_ruled_J148
        refine ⟨by decide, ?_⟩
        refine gX12_flag h' ?_
        intro _ x48 e48 _
        rw [if_neg (by omega)] at H
        rw [e48]
        exact H
  · have : dpc (M 11) (0 : Int).toNat = 0 := rfl
    omega
