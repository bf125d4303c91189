/-! WHAT FITS WHAT WAS HEARD -/
def soF (E : Mem) (t : Int → Int) (h k v : Int) : Prop := if k = 0 then v ≤ bcF (bitF (E 3) h (eO E)) else if k = 1 then t (6 + h) = v else if k = 2 then v ≤ bcF (bitF (fun m => t (29 + m)) h (eO E)) else rmI h 2 = v
def ftP (E : Mem) (t kk vv : Int → Int) (n h : Int) : Prop := ∀ i : Int, 0 ≤ i → i < n → soF E t h (kk i) (vv i)
noncomputable def ftB (E : Mem) (t kk vv : Int → Int) (n : Int) : Int := bitF (fun h => @ite Int (ftP E t kk vv n h) (Classical.propDecidable _) 1 0) 1 (eH E)
theorem soF_cb {E : Mem} {t : Int → Int} {h k v : Int} (hc : CBv k v) : k = 0 ∨ k = 1 ∨ k = 2 ∨ k = 3 := by unfold CBv at hc; omega
theorem gX0_isOneTrueOf {p2 p3 : Int} {M E : Mem} {t : Int → Int} {Q : Int → Mem → Prop} (hS : STR E M) (hC : SC E M 8 t) (hp2 : 0 ≤ p2 ∧ p2 < E 1 4) (hp3 : 0 ≤ p3 ∧ p3 ≤ 7) (hc : CBv (M 183 p3) (M 184 p3)) (hQ : ∀ z : Int, (z = 1 ∧ soF E t p2 (M 183 p3) (M 184 p3) ∨ z = 0 ∧ ¬ soF E t p2 (M 183 p3) (M 184 p3)) → Q z M) : qX0_isOneTrueOf 8 p2 p3 M Q := by
  have hE := hS.eb
  have g := hE.2
  have f := hE.f
  have kc := soF_cb (E := E) (t := t) (h := p2) hc
  unfold soF at hQ
  unfold qX0_isOneTrueOf
  refine ⟨hp3.1, by omega, ?_⟩
  intro x3 e3 _
  rw [← e3] at hQ kc
  refine ⟨fun c => ?_, fun c => ?_, fun c => ?_, fun c => ?_⟩
  · rw [if_pos c] at hQ
    refine gX6_bitsOf hS hC.2.1 ?_
    rw [bitF_cg (f := M (8 + 4)) (g := E 3) (fun i p q => hC.2.2.2.2.2.2.1 i p (by omega))]
    intro _
    refine gJ6_bitCount ?_
    intro _ x7 e7 _
    exact ⟨fun d => hQ _ (Or.inr ⟨rfl, by omega⟩), fun d => hQ _ (Or.inl ⟨rfl, by omega⟩)⟩
  · rw [if_neg (by omega), if_pos c] at hQ
    refine ⟨hp2.1, by omega, ?_⟩
    intro x11 e11 _ x12 e12 _
    rw [hC.2.2.2.1 p2 hp2.1 (by omega)] at e11
    exact ⟨fun d => hQ _ (Or.inr ⟨rfl, by omega⟩), fun d => hQ _ (Or.inl ⟨rfl, by omega⟩)⟩
  · rw [if_neg (by omega), if_neg (by omega), if_pos c] at hQ
    refine gX6_bitsOf hS hC.2.1 ?_
    rw [bitF_cg (f := M (8 + 6)) (g := fun m => t (29 + m)) (fun i p q => hC.2.2.2.2.2.2.2.2.1 i p (by omega))]
    intro _
    refine gJ6_bitCount ?_
    intro _ x16 e16 _
    exact ⟨fun d => hQ _ (Or.inr ⟨rfl, by omega⟩), fun d => hQ _ (Or.inl ⟨rfl, by omega⟩)⟩
  · rw [if_neg (by omega), if_neg (by omega), if_neg (by omega)] at hQ
    intro x18 e18 _ x19 e19 _
    exact ⟨fun d => hQ _ (Or.inr ⟨rfl, by omega⟩), fun d => hQ _ (Or.inl ⟨rfl, by omega⟩)⟩
theorem gX0_isTrueOf_L2 {p2 n0 : Int} {M E : Mem} {t : Int → Int} {Q : Int → Mem → Prop} (hS : STR E M) (hC : SC E M 8 t) (hp2 : 0 ≤ p2 ∧ p2 < E 1 4) (hn : n0 = M 182 2) (hb : 0 ≤ n0 ∧ n0 ≤ 8) (hc : ∀ i, 0 ≤ i → i < n0 → CBv (M 183 i) (M 184 i)) (hQ : ∀ z : Int, (z = 1 ∧ ftP E t (M 183) (M 184) n0 p2 ∨ z = 0 ∧ ¬ ftP E t (M 183) (M 184) n0 p2) → Q z M) : ∀ (n : Nat) (v3 : Int), (0 ≤ v3 ∧ v3 ≤ n0) → (∀ i, 0 ≤ i → i < v3 → soF E t p2 (M 183 i) (M 184 i)) → n0 - v3 < (n : Int) → qX0_isTrueOf_L2 8 p2 Q n v3 M := by
  intro n
  induction n with
  | zero => intro v3 hv ha hm; exact absurd hm (by omega)
  | succ n ih =>
    intro v3 hv ha hm
    rw [qX0_isTrueOf_L2]
    intro x1 e1 _
    refine ⟨⟨by omega, by omega⟩, ⟨fun c => hQ 1 (Or.inl ⟨rfl, fun i p q => ha i p (by omega)⟩), fun c => ?_⟩⟩
    refine gX0_isOneTrueOf hS hC hp2 (by omega) (hc v3 hv.1 (by omega)) ?_
    intro z hz _ _
    refine ⟨fun d => ?_, fun d => hQ 0 (Or.inr ⟨rfl, fun a => ?_⟩)⟩
    · refine ih (v3 + 1) (by omega) (fun i p q => ?_) (by omega)
      by_cases e : i = v3
      · rw [e]
        rcases hz with u | u
        · exact u.2
        · omega
      · exact ha i p (by omega)
    · rcases hz with u | u
      · omega
      · exact u.2 (a v3 hv.1 (by omega))
theorem ft_i {P : Prop} : (@ite Int P (Classical.propDecidable _) 1 0 = 1) ↔ P := by
  by_cases c : P
  · rw [if_pos c]; exact ⟨fun _ => c, fun _ => rfl⟩
  · rw [if_neg c]; exact ⟨fun q => absurd q (by decide), fun q => absurd q c⟩
theorem gX11_fits_L33 {n0 : Int} {X75 : Int → Mem → Prop} {Q : Int → Mem → Prop} {M E : Mem} {t : Int → Int} (hS : STR E M) (hC : SC E M 8 t) (hn : n0 = M 182 2) (hb : 0 ≤ n0 ∧ n0 ≤ 8) (hc : ∀ i, 0 ≤ i → i < n0 → CBv (M 183 i) (M 184 i)) (hX : X75 (ftB E t (M 183) (M 184) n0) M) : ∀ (n : Nat) (v1 v2 : Int), v1 = bitF (fun h => @ite Int (ftP E t (M 183) (M 184) n0 h) (Classical.propDecidable _) 1 0) 1 v2.toNat → (0 ≤ v2 ∧ v2 ≤ E 1 4) → E 1 4 - v2 < (n : Int) → qX11_fits_L33 X75 Q n v1 v2 M := by
  have hE := hS.eb
  have g := hE.2
  have f := hE.f
  intro n
  induction n with
  | zero => intro v1 v2 h1 hv hm; exact absurd hm (by omega)
  | succ n ih =>
    intro v1 v2 h1 hv hm
    have hs := bitF_s (f := fun h => @ite Int (ftP E t (M 183) (M 184) n0 h) (Classical.propDecidable _) 1 0) (x := 1) hv.1
    rw [qX11_fits_L33]
    intro x4 e4 _
    rw [hC.1] at e4
    refine ⟨⟨by omega, by omega⟩, ⟨fun c => ?_, fun c => ?_⟩⟩
    · rw [h1, show v2.toNat = eH E from by omega]
      exact hX
    · unfold qX0_isTrueOf
      refine ⟨9, gX0_isTrueOf_L2 (p2 := v2) hS hC ⟨hv.1, by omega⟩ hn hb hc ?_ 9 0 (by omega) (fun i p q => by omega) (by omega)⟩
      intro z hz _ _
      refine ⟨fun d => ?_, fun d => ?_⟩
      · intro x9 e9 _
        refine ih _ _ ?_ (by omega) (by omega)
        have no : ¬ ftP E t (M 183) (M 184) n0 v2 := by
          rcases hz with u | u
          · omega
          · exact u.2
        rw [hs, if_neg (fun q => no (ft_i.mp q)), e9, h1]
      · intro x10 e10 _ x11 e11 _
        refine ih _ _ ?_ (by omega) (by omega)
        have yes : ftP E t (M 183) (M 184) n0 v2 := by
          rcases hz with u | u
          · exact u.2
          · omega
        rw [hs, if_pos (ft_i.mpr yes), e11, e10, h1]
theorem gX11_fits {M E : Mem} {l : Nat} {r : Int → Int} {Q : Int → Mem → Prop} (h : TB E M l) (hC : SC E M 1 r) (hW : WR E r) (h37 : r 37 ≤ 1999999000) (hb : 0 ≤ M 182 2 ∧ M 182 2 ≤ 8) (hc : ∀ i, 0 ≤ i → i < M 182 2 → CBv (M 183 i) (M 184 i)) (hQ : ∀ M' : Mem, IX M' → Q (ftB E (itF E 200 r) (M 183) (M 184) (M 182 2)) M') : qX11_fits M Q := by
  have hl := h.2.2.1
  have hE := h.2.2.2.1.eb
  have g := hE.2
  unfold qX11_fits
  refine trC h hC h.1 Ks.rf ?_
  intro M1 i1 k1 c1
  refine ⟨i1.l16, ?_⟩
  rw [h.l k1]
  refine gX10_walk i1 (show isS 8 by decide) hl (h.S k1) (h.L k1) h.2.2.2.2.2.1 c1 hW h37 (by decide) ?_
  intro M3 i3 k3 c3 w3
  have K3 : Ks (kTr l) M M3 := k1.tr (k3.mono (by intro k j q; omega))
  have e182 : M3 182 2 = M 182 2 := K3 182 2 (by omega)
  have e183 : M3 183 = M 183 := funext fun j => K3 183 j (by omega)
  have e184 : M3 184 = M 184 := funext fun j => K3 184 j (by omega)
  refine ⟨7, gX11_fits_L33 (E := E) (t := itF E 200 r) (n0 := M 182 2) (h.S K3) c3 e182.symm hb (by rw [e183, e184]; exact hc) ?_ 7 0 0 rfl (by omega) (by omega)⟩
  refine ⟨bitF_R _ _ _, ?_⟩
  refine gJ6_bitCount ?_
  intro _
  refine tell1 i3 ?_
  intro M15 i15 _
  rw [e183, e184]
  exact hQ M15 i15
-- the reference
theorem gX12_isSo {p1 p2 p3 b : Int} {M E : Mem} {Q : Int → Mem → Prop} (hI : IM b M) (hEE : CE E M) (hW : WR E (M 6)) (hp : 0 ≤ p1 ∧ p1 < E 1 4) (hc : CBv p2 p3) (hQ : ∀ z : Int, (z = 1 ∧ soF E (M 6) p1 p2 p3 ∨ z = 0 ∧ ¬ soF E (M 6) p1 p2 p3) → Q z M) : qX12_isSo p1 p2 p3 M Q := by
  have hE := hEE.eb hI
  have g := hE.2
  have kc := soF_cb (E := E) (t := M 6) (h := p1) hc
  have w := hW.2.1 p1 hp.1 hp.2
  unfold soF at hQ
  unfold qX12_isSo
  refine ⟨fun c => ?_, fun c => ?_, fun c => ?_, fun c => ?_⟩
  · rw [if_pos c] at hQ
    refine gX12_owners hI hEE ?_
    intro _
    refine gJ6_bitCount ?_
    intro _
    exact ⟨fun d => hQ _ (Or.inr ⟨rfl, by omega⟩), fun d => hQ _ (Or.inl ⟨rfl, by omega⟩)⟩
  · rw [if_neg (by omega), if_pos c] at hQ
    have v1 : 1 ≤ p3 := by unfold CBv at hc; omega
    refine gX12_isOn (k0 := 6) (by omega) ?_
    intro x5 h5 _ _
    refine ⟨fun d => hQ _ (Or.inr ⟨rfl, by omega⟩), fun d => ⟨by omega, by omega, ?_⟩⟩
    intro x9 e9 _
    exact ⟨fun d => hQ _ (Or.inr ⟨rfl, by omega⟩), fun d => hQ _ (Or.inl ⟨rfl, by omega⟩)⟩
  · rw [if_neg (by omega), if_neg (by omega), if_pos c] at hQ
    refine gX12_bitsBy (k1 := 6) hI hEE (by decide) ?_
    intro _
    refine gJ6_bitCount ?_
    intro _
    exact ⟨fun d => hQ _ (Or.inr ⟨rfl, by omega⟩), fun d => hQ _ (Or.inl ⟨rfl, by omega⟩)⟩
  · rw [if_neg (by omega), if_neg (by omega), if_neg (by omega)] at hQ
    intro x14 e14 _
    exact ⟨fun d => hQ _ (Or.inr ⟨rfl, by omega⟩), fun d => hQ _ (Or.inl ⟨rfl, by omega⟩)⟩
theorem gX12_fits_L37 {b n0 v1 v2 : Int} {X84 : Int → Int → Int → Mem → Prop} {Q : Int → Mem → Prop} {M E : Mem} {kk vv : Int → Int} (hI : IM b M) (hEE : CE E M) (hW : WR E (M 6)) (hp : 0 ≤ v2 ∧ v2 < E 1 4) (hn : n0 = M 1 45) (hb : 0 ≤ n0 ∧ n0 ≤ 8) (hk : ∀ i, 0 ≤ i → i < n0 → kk i = M 26 i ∧ vv i = M 27 i ∧ CBv (kk i) (vv i)) (hX : ∀ v3 : Int, (v3 = 1 ∧ ftP E (M 6) kk vv n0 v2 ∨ v3 = 0 ∧ ¬ ftP E (M 6) kk vv n0 v2) → X84 v1 v2 v3 M) : ∀ (n : Nat) (v3 v4 : Int), (0 ≤ v4 ∧ v4 ≤ n0) → (v3 = 1 ∧ (∀ i, 0 ≤ i → i < v4 → soF E (M 6) v2 (kk i) (vv i)) ∨ v3 = 0 ∧ ∃ i, 0 ≤ i ∧ i < v4 ∧ ¬ soF E (M 6) v2 (kk i) (vv i)) → n0 - v4 < (n : Int) → qX12_fits_L37 X84 Q n v1 v2 v3 v4 M := by
  have hE := hEE.eb hI
  have g := hE.2
  intro n
  induction n with
  | zero => intro v3 v4 hv h3 hm; exact absurd hm (by omega)
  | succ n ih =>
    intro v3 v4 hv h3 hm
    rw [qX12_fits_L37]
    intro x7 e7 _
    refine ⟨⟨by omega, by omega⟩, ⟨fun c => hX v3 ?_, fun c => ⟨by rcases h3 with q | q <;> exact ⟨by omega, by omega⟩, ⟨fun d => ?_, fun d => ⟨hv.1, by omega, ?_⟩⟩⟩⟩⟩
    · rcases h3 with ⟨a, q⟩ | ⟨a, i, p, q, u⟩
      · exact Or.inl ⟨a, fun i p r => q i p (by omega)⟩
      · exact Or.inr ⟨a, fun w => u (w i p (by omega))⟩
    · rcases h3 with ⟨a, q⟩ | ⟨a, i, p, q, u⟩
      · omega
      · exact ih 0 (v4 + 1) (by omega) (Or.inr ⟨rfl, i, p, by omega, u⟩) (by omega)
    · intro x14 e14 _ x15 e15 _
      obtain ⟨k1, k2, k3⟩ := hk v4 hv.1 (by omega)
      rw [k1, k2, ← e14, ← e15] at k3
      refine ⟨⟨by omega, by omega⟩, ?_⟩
      refine gX12_isSo hI hEE hW hp k3 ?_
      intro z hz _ _
      rw [e14, e15, ← k1, ← k2] at hz
      refine ⟨fun d2 => ih 0 (v4 + 1) (by omega) (Or.inr ⟨rfl, v4, hv.1, by omega, ?_⟩) (by omega), fun d2 => ih 1 (v4 + 1) (by omega) (Or.inl ⟨rfl, fun i p q => ?_⟩) (by omega)⟩
      · rcases hz with u | u
        · omega
        · exact u.2
      · by_cases e : i = v4
        · rw [e]
          rcases hz with u | u
          · exact u.2
          · omega
        · rcases h3 with ⟨a, w⟩ | ⟨a, _⟩
          · exact w i p (by omega)
          · omega
theorem gX12_fits_L24 {b n0 : Int} {X104 : Int → Mem → Prop} {Q : Int → Mem → Prop} {M E : Mem} {kk vv : Int → Int} (hI : IM b M) (hEE : CE E M) (hW : WR E (M 6)) (hn : n0 = M 1 45) (hb : 0 ≤ n0 ∧ n0 ≤ 8) (hk : ∀ i, 0 ≤ i → i < n0 → kk i = M 26 i ∧ vv i = M 27 i ∧ CBv (kk i) (vv i)) (hX : X104 (ftB E (M 6) kk vv n0) M) : ∀ (n : Nat) (v1 v2 : Int), v1 = bitF (fun h => @ite Int (ftP E (M 6) kk vv n0 h) (Classical.propDecidable _) 1 0) 1 v2.toNat → (0 ≤ v2 ∧ v2 ≤ E 1 4) → E 1 4 - v2 < (n : Int) → qX12_fits_L24 X104 Q n v1 v2 M := by
  have hE := hEE.eb hI
  have g := hE.2
  have f := hE.f
  intro n
  induction n with
  | zero => intro v1 v2 h1 hv hm; exact absurd hm (by omega)
  | succ n ih =>
    intro v1 v2 h1 hv hm
    have hs := bitF_s (f := fun h => @ite Int (ftP E (M 6) kk vv n0 h) (Classical.propDecidable _) 1 0) (x := 1) hv.1
    rw [qX12_fits_L24]
    intro x4 e4 _
    rw [hEE 1 4 cE14] at e4
    refine ⟨⟨by omega, by omega⟩, ⟨fun c => ?_, fun c => ?_⟩⟩
    · rw [h1, show v2.toNat = eH E from by omega]
      exact hX
    · refine ⟨9, gX12_fits_L37 (v1 := v1) (v2 := v2) hI hEE hW ⟨hv.1, by omega⟩ hn hb hk ?_ 9 1 0 (by omega) (Or.inl ⟨rfl, fun i p q => by omega⟩) (by omega)⟩
      intro v3 hz
      refine ⟨by rcases hz with u | u <;> exact ⟨by omega, by omega⟩, ⟨fun d => ?_, fun d => ?_⟩⟩
      · intro x22 e22 _
        refine ih _ _ ?_ (by omega) (by omega)
        have no : ¬ ftP E (M 6) kk vv n0 v2 := by
          rcases hz with u | u
          · omega
          · exact u.2
        rw [hs, if_neg (fun q => no (ft_i.mp q)), e22, h1]
      · intro x23 e23 _ x24 e24 _
        refine ih _ _ ?_ (by omega) (by omega)
        have yes : ftP E (M 6) kk vv n0 v2 := by
          rcases hz with u | u
          · exact u.2
          · omega
        rw [hs, if_pos (ft_i.mpr yes), e24, e23, h1]
theorem gX12_fits {b : Int} {M E : Mem} {kk vv : Int → Int} {Q : Int → Mem → Prop} (hI : IM b M) (hE : CE E M) (hW : WR E (cr (M 5) (M 6))) (hb : b + 200 ≤ 2000000000) (hk : ∀ i, 0 ≤ i → i < M 1 45 → kk i = M 26 i ∧ vv i = M 27 i ∧ CBv (kk i) (vv i)) (hQ : ∀ M' : Mem, IM (b + 200) M' → Q (ftB E (itF E 200 (cr (M 5) (M 6))) kk vv (M 1 45)) M') : qX12_fits M Q := by
  have E0 := hE.eb hI
  have g := E0.2
  have b45 := bm_c1_45.mp (hI.bx 1 45)
  unfold qX12_fits
  intro M1 h1
  obtain ⟨i1, E1, k5, k6, kk1⟩ := th0 hI hE h1
  refine fmX12_copies (cpM (b := b) (E := E) (r5 := M 5) (g := M 6) ⟨i1, E1, k5, by rw [k6]; exact fun _ _ => rfl⟩ (Q := fun M' => TM E b (M 5) (M 6) M' ∧ M' 6 = cr (M 5) (M 6)) (fun M' t e => ⟨t, e⟩)) ?_
  intro M2 f2 h2
  obtain ⟨t2, e2⟩ := h2
  refine fmX12_goesOn (goM' t2 (n := 200) (by decide) hb (Q := fun M' => TM E (b + 200) (M 5) (M 6) M' ∧ M' 6 = itF E 200 (cr (M 5) (M 6))) (fun M' t e => ⟨t, by rw [e, e2]; rfl⟩)) ?_
  intro M3 f3 h3
  obtain ⟨t3, e3⟩ := h3
  have K : ∀ (k : Nat) (j : Int), k = 26 ∨ k = 27 ∨ (k = 1 ∧ j = 45) → M3 k j = M k j := fun k j h => by rw [f3 k j (by omega), f2 k j (by omega), kk1 k j (by omega)]
  have e45 : M3 1 45 = M 1 45 := K 1 45 (by omega)
  have W3 : WR E (M3 6) := by rw [e3]; exact hW.it E0 200
  refine ⟨7, gX12_fits_L24 (E := E) (n0 := M 1 45) (kk := kk) (vv := vv) t3.1 t3.2.1 W3 e45.symm b45 (fun i p q => by rw [K 26 i (by omega), K 27 i (by omega)]; exact hk i p q) ?_ 7 0 0 rfl (by omega) (by omega)⟩
  intro M26 h26
  have i26 : IM (b + 200) M26 := by rw [h26]; exact t3.1.up (by omega) (bm_c1_1.mpr (by decide))
  have q26 : M26 1 1 = 0 := by rw [h26, up2_s]
  refine ⟨bitF_R _ _ _, ?_⟩
  refine gJ6_bitCount ?_
  intro _
  refine entC i26 (by omega) ?_
  intro M29 i29 _ _
  rw [e3]
  exact hQ M29 i29
/-- of what was heard only what stands in the list counts -/
theorem ftB_cg {E : Mem} {t kk vv kk' vv' : Int → Int} {n : Int} (h : ∀ i, 0 ≤ i → i < n → kk i = kk' i ∧ vv i = vv' i) : ftB E t kk vv n = ftB E t kk' vv' n := by
  have e : ∀ x, ftP E t kk vv n x ↔ ftP E t kk' vv' n x := fun x => ⟨fun a i p q => by rw [← (h i p q).1, ← (h i p q).2]; exact a i p q, fun a i p q => by rw [(h i p q).1, (h i p q).2]; exact a i p q⟩
  unfold ftB
  refine bitF_ci _ (fun i _ _ => ?_)
  exact (ft_i.trans (e i)).trans ft_i.symm
