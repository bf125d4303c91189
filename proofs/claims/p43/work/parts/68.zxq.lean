/-! MOURNERS SHARED OUT -/
/-- hearse h can have mourner m, those of the set b being taken -/
abbrev cnH (r : Int → Int) (v m h b : Int) : Prop := ¬ bt (iI b) h.toNat = true ∧ r (29 + m) < 0 ∧ 0 ≤ r h ∧ ab (r h - r (13 + m)) ≤ v
def mxH (f : Int → Int) (r : Int → Int) (v m b : Int) : Nat → Int
  | 0 => f b
  | h + 1 => if cnH r v m h b then max (mxH f r v m b h) (1 + f (oI b (slI 1 h))) else mxH f r v m b h
/-- the most of the last k mourners -/
def shF (E : Mem) (r : Int → Int) (v : Int) : Nat → Int → Int
  | 0 => fun _ => 0
  | k + 1 => fun b => mxH (shF E r v k) r v (E 1 5 - (k + 1)) b (eH E)
theorem mxH_b {f : Int → Int} {r : Int → Int} {v m b c : Int} (hf : ∀ x, 0 ≤ f x ∧ f x ≤ c) : ∀ n : Nat, 0 ≤ mxH f r v m b n ∧ mxH f r v m b n ≤ c + 1 := by
  intro n
  induction n with
  | zero => have := hf b; exact ⟨this.1, by show f b ≤ c + 1; omega⟩
  | succ n ih =>
    have := hf (oI b (slI 1 n))
    unfold mxH
    split
    · omega
    · exact ih
theorem shF_b (E : Mem) (r : Int → Int) (v : Int) : ∀ (k : Nat) (b : Int), 0 ≤ shF E r v k b ∧ shF E r v k b ≤ k := by
  intro k
  induction k with
  | zero => intro b; exact ⟨Int.le_refl _, Int.le_refl _⟩
  | succ k ih =>
    intro b
    have := mxH_b (r := r) (v := v) (m := E 1 5 - (k + 1)) (b := b) ih (eH E)
    show 0 ≤ mxH (shF E r v k) r v (E 1 5 - (k + 1)) b (eH E) ∧ mxH (shF E r v k) r v (E 1 5 - (k + 1)) b (eH E) ≤ ((k + 1 : Nat) : Int)
    omega
theorem mxH_e {f : Int → Int} {r : Int → Int} {v m b : Int} (h : ¬ r (29 + m) < 0) : ∀ n : Nat, mxH f r v m b n = f b := by
  intro n
  induction n with
  | zero => rfl
  | succ n ih =>
    unfold mxH
    rw [if_neg (fun q => h q.2.1)]
    exact ih
theorem mxH_s {f : Int → Int} {r : Int → Int} {v m b i : Int} (h : 0 ≤ i) : mxH f r v m b (i + 1).toNat = if cnH r v m i b then max (mxH f r v m b i.toNat) (1 + f (oI b (slI 1 i))) else mxH f r v m b i.toNat := by
  rw [show (i + 1).toNat = i.toNat + 1 from by omega]
  show (if cnH r v m (i.toNat : Nat) b then max (mxH f r v m b i.toNat) (1 + f (oI b (slI 1 (i.toNat : Nat)))) else mxH f r v m b i.toNat) = _
  rw [show ((i.toNat : Nat) : Int) = i from by omega]
set_option maxRecDepth 100000 in
theorem oS0 : ∀ H : Nat, H ≤ 6 → ∀ h : Nat, h < H → ∀ b : Nat, b < 2 ^ H → 0 ≤ oI (b : Int) (slI 1 (h : Int)) ∧ oI (b : Int) (slI 1 (h : Int)) < 2 ^ H := by decide +kernel
set_option maxRecDepth 100000 in
theorem p2_6 : ∀ n : Nat, n ≤ 6 → (2 : Int) ^ n ≤ 64 ∧ (2 : Nat) ^ n ≤ 64 := by decide +kernel
theorem oS {H : Nat} {h b : Int} (hH : H ≤ 6) (hh : 0 ≤ h ∧ h < H) (hb : 0 ≤ b ∧ b < 2 ^ H) : 0 ≤ oI b (slI 1 h) ∧ oI b (slI 1 h) < 2 ^ H := by
  have hb2 : b.toNat < 2 ^ H := by
    have : ((b.toNat : Nat) : Int) < ((2 ^ H : Nat) : Int) := by
      rw [show ((b.toNat : Nat) : Int) = b from by omega, Int.natCast_pow]
      exact hb.2
    omega
  have := oS0 H hH h.toNat (by omega) b.toNat hb2
  rw [show ((b.toNat : Nat) : Int) = b from by omega, show ((h.toNat : Nat) : Int) = h from by omega] at this
  exact this
-- the class
theorem gX7_canHave {m h b v : Int} {M E : Mem} {r : Int → Int} {Q : Int → Mem → Prop} (hE : EBx E) (hC : SC E M 1 r) (hW : WR E r) (hv : M 168 1 = v) (hm : 0 ≤ m ∧ m < E 1 5) (hh : 0 ≤ h ∧ h < E 1 4) (hQ : ∀ z : Int, (z = 1 ∧ cnH r v m h b ∨ z = 0 ∧ ¬ cnH r v m h b) → Q z M) : qX7_canHave 1 m h b M Q := by
  have g := hE.2
  have g1 := hE.1
  have w1 := hW.2.2.1 m hm.1 hm.2
  have w2 := hW.2.1 h hh.1 hh.2
  unfold cnH at hQ
  unfold qX7_canHave
  intro x1 e1 _ x2 e2 _
  rw [e1, bit1 (by omega)] at e2
  refine ⟨fun c => hQ _ (Or.inr ⟨rfl, fun q => c (by rw [e2, if_neg q.1])⟩), fun c => ?_⟩
  have nb : ¬ bt (iI b) h.toNat = true := fun q => by rw [if_pos q] at e2; omega
  refine gX6_hasEnded (k0 := 1) (by omega) ?_
  intro x4 h4 _ _
  have e29 : M (1 + 6) m = r (29 + m) := hC.2.2.2.2.2.2.2.2.1 m hm.1 (by omega)
  rw [e29] at h4
  refine ⟨fun d => hQ _ (Or.inr ⟨rfl, fun q => by have := q.2.1; omega⟩), fun d => ?_⟩
  refine gX6_hasArrived (k0 := 1) (by omega) ?_
  intro x6 h6 _ _
  have e6 : M (1 + 2) h = r (6 + h) := hC.2.2.2.1 h hh.1 (by omega)
  rw [e6] at h6
  refine ⟨fun d2 => hQ _ (Or.inr ⟨rfl, fun q => by have := q.2.2.1; omega⟩), fun d2 => ⟨hh.1, by omega, ?_⟩⟩
  intro x10 e10 _
  refine ⟨hm.1, by omega, ?_⟩
  intro x13 e13 _
  have c10 : x10 = r h := by rw [e10]; exact hC.2.2.1 h hh.1 (by omega)
  have c13 : x13 = r (13 + m) := by rw [e13]; exact hC.2.2.2.2.2.1 m hm.1 (by omega)
  refine ⟨⟨by omega, by omega⟩, ?_⟩
  intro x15 p15 n15 x16 e16 _
  have c15 : x15 = ab (r h - r (13 + m)) := by rw [ab_e p15 n15, c10, c13]
  have bb := ab_b (r h - r (13 + m))
  refine ⟨⟨by omega, by omega⟩, ⟨fun d3 => hQ _ (Or.inr ⟨rfl, fun q => by have := q.2.2.2; omega⟩), fun d3 => hQ _ (Or.inl ⟨rfl, nb, by omega, by omega, by omega⟩)⟩⟩
theorem gX7_mostFrom {m b v : Int} {M E : Mem} {r f : Int → Int} {c : Int} {Q : Int → Mem → Prop} (hE : EBx E) (hC : SC E M 1 r) (hW : WR E r) (hv : M 168 1 = v) (hm : 0 ≤ m ∧ m < E 1 5) (hb : 0 ≤ b ∧ b < 2 ^ eH E) (hc : 0 ≤ c ∧ c ≤ 8) (hf : ∀ x, 0 ≤ f x ∧ f x ≤ c) (hM : ∀ x, 0 ≤ x → x < 2 ^ eH E → M (170 + (m + 1).toNat) x = f x) (hQ : Q (mxH f r v m b (eH E)) M) : qX7_mostFrom 1 m b M Q := by
  have fE := hE.f
  have g := hE.2
  have p6 := p2_6 (eH E) (by omega)
  unfold qX7_mostFrom
  refine ⟨by omega, by omega, hb.1, by omega, ?_⟩
  intro x5 e5 _
  have go : ∀ (n : Nat) (v4 v5 : Int), v4 = mxH f r v m b v5.toNat → (0 ≤ v5 ∧ v5 ≤ E 1 4) → E 1 4 - v5 < (n : Int) → qX7_mostFrom_L15 1 m b Q n v4 v5 M := by
    intro n
    induction n with
    | zero => intro v4 v5 h4 h5 hm'; exact absurd hm' (by omega)
    | succ n ih =>
      intro v4 v5 h4 h5 hm'
      have mb := mxH_b (r := r) (v := v) (m := m) (b := b) hf v5.toNat
      rw [← h4] at mb
      rw [qX7_mostFrom_L15]
      intro x6 e6 _
      rw [hC.1] at e6
      refine ⟨⟨by omega, by omega⟩, ⟨fun d => ⟨⟨by omega, by omega⟩, ?_⟩, fun d => ?_⟩⟩
      · rw [h4, show v5.toNat = eH E from by omega]
        exact hQ
      · refine gX7_canHave hE hC hW hv hm ⟨h5.1, by omega⟩ ?_
        intro z hz _ _
        refine ⟨fun d2 => ?_, fun d2 => ⟨by omega, by omega, ?_⟩⟩
        · refine ih _ _ ?_ (by omega) (by omega)
          have no : ¬ cnH r v m v5 b := by
            rcases hz with u | u
            · omega
            · exact u.2
          rw [mxH_s h5.1, if_neg no]
          exact h4
        · have yes : cnH r v m v5 b := by
            rcases hz with u | u
            · exact u.2
            · omega
          intro x14 e14 _ x15 e15 _
          have o := oS (H := eH E) (h := v5) (b := b) (by omega) ⟨h5.1, by omega⟩ hb
          rw [← e14, ← e15] at o
          refine ⟨o.1, by omega, ?_⟩
          intro x18 e18 _
          rw [hM x15 o.1 o.2] at e18
          have fb := hf x15
          refine ⟨⟨by omega, by omega⟩, ⟨by omega, by omega⟩, ?_⟩
          intro x21 e21 _
          refine ih _ _ ?_ (by omega) (by omega)
          rw [mxH_s h5.1, if_pos yes, e21, e18, h4, e15, e14]
  exact ⟨7, go 7 x5 0 (by rw [e5, hM b hb.1 hb.2]; rfl) (by omega) (by omega)⟩
/-- the rows from j0 on tell the most -/
def RWS (E : Mem) (r : Int → Int) (v j0 : Int) (M : Mem) : Prop := ∀ j : Int, j0 ≤ j → j ≤ E 1 5 → ∀ x : Int, 0 ≤ x → x < 2 ^ eH E → M (170 + j.toNat) x = shF E r v (E 1 5 - j).toNat x
theorem gX7_weigh_L56 {m v s : Int} {X87 : Int → Int → Mem → Prop} {Q : Int → Mem → Prop} {E : Mem} {r : Int → Int} (hE : EBx E) (hW : WR E r) (hs : s = 2 ^ eH E) (hm : 0 ≤ m ∧ m < E 1 5) (hX : ∀ M' : Mem, IX M' → SC E M' 1 r → M' 168 1 = v → RWS E r v m M' → X87 s m M') : ∀ (n : Nat) (v5 : Int) (M : Mem), IX M → SC E M 1 r → M 168 1 = v → RWS E r v (m + 1) M → (0 ≤ v5 ∧ v5 ≤ s) → (∀ x : Int, 0 ≤ x → x < v5 → M (170 + m.toNat) x = shF E r v (E 1 5 - m).toNat x) → 64 - v5 < (n : Int) → qX7_weigh_L56 1 v X87 Q n s m v5 M := by
  have fE := hE.f
  have g := hE.2
  have p6 := p2_6 (eH E) (by omega)
  intro n
  induction n with
  | zero => intro v5 M hI hC hv hR h5 hx hmm; exact absurd hmm (by omega)
  | succ n ih =>
    intro v5 M hI hC hv hR h5 hx hmm
    rw [qX7_weigh_L56]
    refine ⟨⟨by omega, by omega⟩, ⟨by omega, by omega⟩, ⟨fun c => hX M hI hC hv (fun j p q x x0 x1 => ?_), fun c => ⟨hm.1, by omega, ⟨by omega, by omega⟩, ?_⟩⟩⟩
    · by_cases e : j = m
      · rw [e]
        exact hx x x0 (by omega)
      · exact hR j (by omega) q x x0 x1
    · have ek : (E 1 5 - m).toNat = (E 1 5 - (m + 1)).toNat + 1 := by omega
      refine gX7_mostFrom (f := shF E r v (E 1 5 - (m + 1)).toNat) (c := ((E 1 5 - (m + 1)).toNat : Nat)) hE hC hW hv hm ⟨h5.1, by omega⟩ (by omega) (shF_b E r v _) (fun x x0 x1 => hR (m + 1) (Int.le_refl _) (by omega) x x0 x1) ?_
      have er : mxH (shF E r v (E 1 5 - (m + 1)).toNat) r v m v5 (eH E) = shF E r v (E 1 5 - m).toNat v5 := by
        rw [ek]
        show _ = mxH (shF E r v (E 1 5 - (m + 1)).toNat) r v (E 1 5 - (((E 1 5 - (m + 1)).toNat : Nat) + 1)) v5 (eH E)
        rw [show E 1 5 - ((((E 1 5 - (m + 1)).toNat : Nat) : Int) + 1) = m from by omega]
      rw [er]
      have sb := shF_b E r v (E 1 5 - m).toNat v5
      intro _
      refine ⟨h5.1, by omega, ?_⟩
      intro M27 h27
      have i27 : IX M27 := by rw [h27]; exact hI.up (sh_nsp (e := m) (by omega) (by omega)) ((bx_sh (e := m) (by omega) (by omega)).mpr ⟨by omega, by omega⟩)
      refine ih _ M27 i27 (by rw [h27]; exact hC.fr (fun i j hi => by rw [up2_n (by omega)])) (by rw [h27, up2_n (by omega)]; exact hv) (fun j p q x x0 x1 => ?_) (by omega) (fun x x0 x1 => ?_) (by omega)
      · rw [h27, up2_n (by omega)]
        exact hR j p q x x0 x1
      · by_cases e : x = v5
        · rw [e, h27, up2_s]
        · rw [h27, up2_j e]
          exact hx x x0 (by omega)
theorem gX7_weigh_L48 {v s : Int} {Q : Int → Mem → Prop} {E : Mem} {r : Int → Int} (hE : EBx E) (hW : WR E r) (hs : s = 2 ^ eH E) (hQ : ∀ M' : Mem, IX M' → SC E M' 1 r → Q (shF E r v (eO E) 0) M') : ∀ (n : Nat) (v4 : Int) (M : Mem), IX M → SC E M 1 r → M 168 1 = v → RWS E r v (v4 + 1) M → (-1 ≤ v4 ∧ v4 < E 1 5) → v4 + 1 < (n : Int) → qX7_weigh_L48 1 v Q n s v4 M := by
  have fE := hE.f
  have g := hE.2
  have p2 := (p2_0 (eH E) (by omega)).2
  intro n
  induction n with
  | zero => intro v4 M hI hC hv hR h4 hmm; exact absurd hmm (by omega)
  | succ n ih =>
    intro v4 M hI hC hv hR h4 hmm
    rw [qX7_weigh_L48]
    refine ⟨⟨by omega, by omega⟩, ⟨fun c => ?_, fun c => ?_⟩⟩
    · intro x17 e17 _
      have e := hR 0 (by omega) (by omega) 0 (Int.le_refl _) (by omega)
      rw [show 170 + (0 : Int).toNat = 170 from rfl, show (E 1 5 - 0).toNat = eO E from by rw [Int.sub_zero]] at e
      rw [e17, e]
      exact hQ M hI hC
    · refine ⟨65, gX7_weigh_L56 (m := v4) hE hW hs ⟨by omega, h4.2⟩ ?_ 65 0 M hI hC hv hR (by omega) (fun x x0 x1 => by omega) (by omega)⟩
      intro M' i' c' v' r'
      refine ih (v4 + -1) M' i' c' v' ?_ (by omega) (by omega)
      rw [show v4 + -1 + 1 = v4 from by omega]
      exact r'
theorem gX7_weigh {v : Int} {M E : Mem} {r : Int → Int} {Q : Int → Mem → Prop} (hI : IX M) (hE : EBx E) (hC : SC E M 1 r) (hW : WR E r) (hp : 0 ≤ v ∧ v ≤ 30) (hQ : ∀ M' : Mem, IX M' → SC E M' 1 r → Q (shF E r v (eO E) 0) M') : qX7_weigh 1 v M Q := by
  have fE := hE.f
  have g := hE.2
  have p2 := p2_0 (eH E) (by omega)
  have p6 := p2_6 (eH E) (by omega)
  unfold qX7_weigh
  intro M1 h1 x2 e2 _ x3 e3 _
  have i1 : IX M1 := by rw [h1]; exact hI.up (by decide) (bx_c168_1.mpr hp)
  have C1 : SC E M1 1 r := by rw [h1]; exact hC.fr (fun i j hi => by rw [up2_n (by omega)])
  have v1 : M1 168 1 = v := by rw [h1, up2_s]
  rw [C1.1] at e2
  have e3' : x3 = 2 ^ eH E := by rw [e3, e2, ← p2.1, fE.1]
  have L15 : ∀ (n : Nat) (v4 : Int) (M : Mem), IX M → SC E M 1 r → M 168 1 = v → (0 ≤ v4 ∧ v4 ≤ x3) → (∀ x : Int, 0 ≤ x → x < v4 → M (170 + (E 1 5).toNat) x = 0) → 64 - v4 < (n : Int) → qX7_weigh_L15 1 v (fun (v3 : Int) (M : Mem) => ∀ x14 : Int, x14 = M 1 7 → iR x14 → (∃ n29 : Nat, qX7_weigh_L48 1 v Q n29 v3 (x14 - 1) M)) Q n x3 v4 M := by
    intro n
    induction n with
    | zero => intro v4 M hI hC hv h4 hx hmm; exact absurd hmm (by omega)
    | succ n ih =>
      intro v4 M hI hC hv h4 hx hmm
      rw [qX7_weigh_L15]
      refine ⟨⟨by omega, by omega⟩, ⟨by omega, by omega⟩, ⟨fun c => ?_, fun c => ?_⟩⟩
      · intro x14 e14 _
        rw [hC.2.1] at e14
        refine ⟨10, gX7_weigh_L48 hE hW e3' hQ 10 (x14 - 1) M hI hC hv (fun j p q x x0 x1 => ?_) (by omega) (by omega)⟩
        have ej : j = E 1 5 := by omega
        rw [ej, show (E 1 5 - E 1 5).toNat = 0 from by omega]
        exact hx x x0 (by omega)
      · intro x7 e7 _
        rw [hC.2.1] at e7
        rw [e7]
        refine ⟨by omega, by omega, h4.1, by omega, ?_⟩
        intro M12 h12
        refine ih _ M12 ?_ ?_ ?_ (by omega) (fun x x0 x1 => ?_) (by omega)
        · rw [h12]
          exact hI.up (sh_nsp (e := E 1 5) (by omega) (by omega)) ((bx_sh (e := E 1 5) (by omega) (by omega)).mpr ⟨by omega, by omega⟩)
        · rw [h12]
          exact hC.fr (fun i j hi => by rw [up2_n (by omega)])
        · rw [h12, up2_n (by omega)]
          exact hv
        · by_cases e : x = v4
          · rw [e, h12, up2_s]
          · rw [h12, up2_j e]
            exact hx x x0 (by omega)
  exact ⟨65, L15 65 0 M1 i1 C1 v1 (by omega) (fun x x0 x1 => by omega) (by omega)⟩
def shrA (E : Mem) (r : Int → Int) (v : Int) : Int := if 0 ≤ v ∧ v ≤ 30 then shF E r v (eO E) 0 else -1
theorem gX11_shares_L37 {p1 z : Int} {Q : Int → Mem → Prop} (hz : 0 ≤ z ∧ z ≤ 8) (hQ : ∀ M' : Mem, IX M' → Q z M') : ∀ (n : Nat) (v3 v4 : Int) (M : Mem), IX M → (0 ≤ v3 ∧ v3 ≤ 63 ∧ 0 ≤ v4 ∧ v4 ≤ 8) → 8 - v4 < (n : Int) → qX11_shares_L37 p1 Q n z v3 v4 M := by
  intro n
  induction n with
  | zero => intro v3 v4 M hI hv hm; exact absurd hm (by omega)
  | succ n ih =>
    intro v3 v4 M hI hv hm
    rw [qX11_shares_L37]
    intro x5 e5 _
    have b5 : 0 ≤ x5 ∧ x5 ≤ 8 := by rw [e5]; exact (bx_s0_7 (show isS 1 by decide)).mp (hI.bx _ _)
    refine ⟨⟨by omega, by omega⟩, ⟨fun c => ⟨⟨by omega, by omega⟩, hQ M hI⟩, fun c => ⟨⟨by omega, by omega⟩, ?_⟩⟩⟩
    refine sX7_choice (p2 := v4) (p3 := v3) hI (show isS 1 by decide) (by omega) ?_
    intro x10 p10 _
    refine ⟨fun c2 => ?_, fun c2 => ?_⟩
    · intro x12 e12 _
      have f12 := slI_1 (b := x10) ⟨by omega, by omega⟩
      rw [← e12] at f12
      unfold qX11_shares_J80
      intro x13 e13 _
      have f13 := oI_64 (a := v3) (b := x12) ⟨by omega, by omega⟩ ⟨by omega, by omega⟩
      rw [← e13] at f13
      refine ⟨⟨by omega, by omega⟩, ?_⟩
      refine sX4_add (p1 := x10) hI ?_
      intro M15 i15
      exact ih _ _ _ i15 (by omega) (by omega)
    · unfold qX11_shares_J80
      intro x13 e13 _
      have f13 := oI_64 (a := v3) (b := 0) ⟨by omega, by omega⟩ ⟨by omega, by omega⟩
      rw [← e13] at f13
      refine ⟨⟨by omega, by omega⟩, ?_⟩
      refine sX4_add (p1 := x10) hI ?_
      intro M15 i15
      exact ih _ _ _ i15 (by omega) (by omega)
theorem gX11_shares {p1 : Int} {M E : Mem} {r : Int → Int} {Q : Int → Mem → Prop} (hI : IX M) (hE : EBx E) (hC : SC E M 1 r) (hW : WR E r) (hQ : ∀ M' : Mem, IX M' → Q (shrA E r p1) M') : qX11_shares p1 M Q := by
  have f := hE.f
  have g := hE.2
  unfold shrA at hQ
  unfold qX11_shares
  refine ⟨fun c => by have := hQ M hI; rw [if_neg (by omega)] at this; exact this, fun c => ⟨fun c2 => ?_, fun c2 => by have := hQ M hI; rw [if_neg (by omega)] at this; exact this⟩⟩
  rw [if_pos (by omega)] at hQ
  refine gX7_weigh hI hE hC hW (by omega) ?_
  intro M3 i3 _ _
  have sb := shF_b E r p1 (eO E) 0
  refine sX4_clear i3 ?_
  intro M4 i4
  exact ⟨9, gX11_shares_L37 (by omega) hQ 9 0 0 M4 i4 (by decide) (by omega)⟩
-- the reference
theorem gX12_sharesFrom_L24 {rc : Int → Int → Int → Int → Mem → (Mem → Prop) → Prop} {p1 p2 p3 p4 b z : Int} {E : Mem} {r : Int → Int} {Q : Mem → Prop} (hQ : ∀ M' : Mem, IM b M' → CE E M' → M' 5 = r → M' 1 42 = z → Q M') : ∀ (n : Nat) (v5 : Int) (M : Mem), IM b M → CE E M → M 5 = r → M 1 42 = z → (0 ≤ v5 ∧ v5 ≤ 8) → 8 - v5 < (n : Int) → qX12_sharesFrom_L24 rc p1 p2 p3 p4 Q n v5 M := by
  intro n
  induction n with
  | zero => intro v5 M hI hE h5 hz hv hm; exact absurd hm (by omega)
  | succ n ih =>
    intro v5 M hI hE h5 hz hv hm
    rw [qX12_sharesFrom_L24]
    intro x43 e43 _
    have b43 : 0 ≤ x43 ∧ x43 ≤ 8 := by rw [e43]; exact bm_c1_5.mp (hI.bx _ _)
    refine ⟨⟨by omega, by omega⟩, ⟨fun c => hQ M hI hE h5 hz, fun c => ⟨hv.1, by omega, ?_⟩⟩⟩
    intro x48 _ _ M49 h49
    exact ih _ M49 (by rw [h49]; exact hI.up (by omega) (by simp [BM])) (by rw [h49]; exact hE.up (by intro h; rcases h with h | h | h | h | h <;> omega)) (by rw [h49]; funext j; rw [up2_n (by decide)]; exact congrFun h5 j) (by rw [h49, up2_n (by decide)]; exact hz) (by omega) (by omega)
theorem gX12_sharesFrom_L91 {rc : Int → Int → Int → Int → Mem → (Mem → Prop) → Prop} {m s many v b B0 : Int} {k' : Nat} {E : Mem} {r : Int → Int} {Q : Mem → Prop} (hE : EBx E) (hW : WR E r) (hm : 0 ≤ m ∧ m < E 1 5) (hs : 0 ≤ s ∧ s < 2 ^ eH E) (hmn : 0 ≤ many ∧ many ≤ m) (hrc : ∀ (s' many' : Int) (M : Mem) (Q : Mem → Prop), (0 ≤ s' ∧ s' < 2 ^ eH E) → (0 ≤ many' ∧ many' ≤ m + 1) → IM b M → CE E M → M 5 = r → (∀ M' : Mem, IM b M' → CE E M' → M' 5 = r → M' 1 42 = max (M 1 42) (many' + shF E r v k' s') → Q M') → rc (m + 1) s' many' v M Q) (hQ : ∀ M' : Mem, IM b M' → CE E M' → M' 5 = r → M' 1 42 = max B0 (many + mxH (shF E r v k') r v m s (eH E)) → Q M') : ∀ (n : Nat) (v5 : Int) (M : Mem), IM b M → CE E M → M 5 = r → M 1 42 = max B0 (many + mxH (shF E r v k') r v m s v5.toNat) → (0 ≤ v5 ∧ v5 ≤ E 1 4) → E 1 4 - v5 < (n : Int) → qX12_sharesFrom_L91 rc m s many v Q n v5 M := by
  have fE := hE.f
  have g := hE.2
  have g1 := hE.1
  intro n
  induction n with
  | zero => intro v5 M hI hC h5 hB hv hmm; exact absurd hmm (by omega)
  | succ n ih =>
    intro v5 M hI hC h5 hB hv hmm
    have st := mxH_s (f := shF E r v k') (r := r) (v := v) (m := m) (b := s) hv.1
    have skip : ¬ cnH r v m v5 s → qX12_sharesFrom_L91 rc m s many v Q n (v5 + 1) M ∨ E 1 4 ≤ v5 := by
      intro no
      by_cases e : v5 < E 1 4
      · exact Or.inl (ih _ M hI hC h5 (by rw [st, if_neg no]; exact hB) (by omega) (by omega))
      · exact Or.inr (by omega)
    rw [qX12_sharesFrom_L91]
    intro x12 e12 _
    rw [hC 1 4 cE14] at e12
    refine ⟨⟨by omega, by omega⟩, ⟨fun c => hQ M hI hC h5 (by rw [hB, show v5.toNat = eH E from by omega]), fun c => ?_⟩⟩
    have w4 := hW.2.1 v5 hv.1 (by omega)
    have wm := hW.2.2.1 m hm.1 hm.2
    have sk : ¬ cnH r v m v5 s → qX12_sharesFrom_L91 rc m s many v Q n (v5 + 1) M := fun no => by
      rcases skip no with q | q
      · exact q
      · omega
    refine gX12_isEnded (k0 := 5) (by omega) ?_
    intro x15 h15 _ _
    rw [h5] at h15
    refine ⟨fun d => hQ M hI hC h5 (by rw [hB, mxH_e (by omega), mxH_e (by omega)]), fun d => ?_⟩
    refine hasM (by omega) ?_
    intro x17 h17 _ _
    refine ⟨fun d2 => sk (fun q => ?_), fun d2 => ?_⟩
    · rcases h17 with u | u
      · exact q.1 u.2
      · omega
    · have nb : ¬ bt (iI s) v5.toNat = true := by
        rcases h17 with u | u
        · omega
        · exact u.2
      refine gX12_isOn (k0 := 5) (by omega) ?_
      intro x19 h19 _ _
      rw [h5] at h19
      refine ⟨fun d3 => sk (fun q => by have := q.2.2.1; omega), fun d3 => ⟨hv.1, by omega, ?_⟩⟩
      intro x23 e23 _
      refine ⟨by omega, by omega, ?_⟩
      intro x26 e26 _
      rw [h5] at e23 e26
      refine ⟨⟨by omega, by omega⟩, ?_⟩
      intro x28 p28 n28
      have c28 : x28 = ab (r v5 - r (13 + m)) := by rw [ab_e p28 n28, e23, e26]
      have bb := ab_b (r v5 - r (13 + m))
      refine ⟨⟨by omega, by omega⟩, ⟨fun d4 => sk (fun q => by have := q.2.2.2; omega), fun d4 => ⟨hm.1, by omega, ?_⟩⟩⟩
      have yes : cnH r v m v5 s := ⟨nb, by omega, by omega, by omega⟩
      intro M33 h33 x34 e34 _ x35 e35 _
      refine ⟨⟨by omega, by omega⟩, ⟨by omega, by omega⟩, ?_⟩
      have o := oS (H := eH E) (h := v5) (b := s) (by omega) ⟨hv.1, by omega⟩ hs
      rw [← e34, ← e35] at o
      refine hrc x35 (many + 1) M33 _ o (by omega) (by rw [h33]; exact hI.up (by omega) (by simp [BM])) (by rw [h33]; exact hC.up (by intro h; rcases h with h | h | h | h | h <;> omega)) (by rw [h33]; funext j; rw [up2_n (by decide)]; exact congrFun h5 j) ?_
      intro M38 i38 E38 k38 B38
      rw [h33, up2_n (by decide), hB] at B38
      refine ih _ M38 i38 E38 k38 ?_ (by omega) (by omega)
      rw [st, if_pos yes, B38, e35, e34]
      omega
theorem gX12_sharesFrom {b v : Int} {E : Mem} {r : Int → Int} (hE : EBx E) (hW : WR E r) : ∀ (k d : Nat) (m s many : Int) (M : Mem) (Q : Mem → Prop), E 1 5 - m = (k : Nat) → k < d → IM b M → CE E M → M 5 = r → 0 ≤ m → (0 ≤ s ∧ s < 2 ^ eH E) → (0 ≤ many ∧ many ≤ m) → (∀ M' : Mem, IM b M' → CE E M' → M' 5 = r → M' 1 42 = max (M 1 42) (many + shF E r v k s) → Q M') → qX12_sharesFrom d m s many v M Q := by
  have fE := hE.f
  have g := hE.2
  intro k
  induction k with
  | zero =>
    intro d m s many M Q hk hd hI hC h5 hm hs hmn hQ
    obtain ⟨d', rfl⟩ : ∃ d', d = d' + 1 := ⟨d - 1, by omega⟩
    show bX12_sharesFrom (qX12_sharesFrom d') m s many v M Q
    unfold bX12_sharesFrom
    intro x1 e1 _
    rw [hC 1 5 cE15] at e1
    have s0 : shF E r v 0 s = 0 := rfl
    rw [s0] at hQ
    refine ⟨fun c => by omega, fun c => ?_⟩
    intro x40 e40 _
    refine ⟨fun c2 => hQ M hI hC h5 (by omega), fun c2 => ?_⟩
    intro M42 h42
    refine ⟨9, gX12_sharesFrom_L24 (b := b) (E := E) (r := r) (z := many) (fun M' a c e f => hQ M' a c e (by omega)) 9 0 M42 ?_ ?_ ?_ ?_ (by decide) (by omega)⟩
    · rw [h42]
      exact hI.up (by omega) (by simp [BM])
    · rw [h42]
      exact hC.up (by decide)
    · rw [h42]
      funext j
      rw [up2_n (by decide)]
      exact congrFun h5 j
    · rw [h42, up2_s]
  | succ k ih =>
    intro d m s many M Q hk hd hI hC h5 hm hs hmn hQ
    obtain ⟨d', rfl⟩ : ∃ d', d = d' + 1 := ⟨d - 1, by omega⟩
    show bX12_sharesFrom (qX12_sharesFrom d') m s many v M Q
    unfold bX12_sharesFrom
    intro x1 e1 _
    rw [hC 1 5 cE15] at e1
    have sb := shF_b E r v (k + 1) s
    refine ⟨fun c => ?_, fun c => by omega⟩
    intro x3 e3 _ x4 e4 r4
    rw [hC 1 5 cE15] at e3
    refine ⟨⟨by omega, by omega⟩, ⟨fun c2 => ⟨hm, by omega, ?_⟩, fun c2 => hQ M hI hC h5 (by omega)⟩⟩
    intro M9 h9
    have i9 : IM b M9 := by rw [h9]; exact hI.up (by omega) (by simp [BM])
    have E9 : CE E M9 := by rw [h9]; exact hC.up (by intro h; rcases h with h | h | h | h | h <;> omega)
    have k9 : M9 5 = r := by rw [h9]; funext j; rw [up2_n (by decide)]; exact congrFun h5 j
    have B9 : M9 1 42 = M 1 42 := by rw [h9, up2_n (by decide)]
    refine ⟨⟨by omega, by omega⟩, ?_⟩
    have rc : ∀ (s' many' : Int) (M : Mem) (Q : Mem → Prop), (0 ≤ s' ∧ s' < 2 ^ eH E) → (0 ≤ many' ∧ many' ≤ m + 1) → IM b M → CE E M → M 5 = r → (∀ M' : Mem, IM b M' → CE E M' → M' 5 = r → M' 1 42 = max (M 1 42) (many' + shF E r v k s') → Q M') → qX12_sharesFrom d' (m + 1) s' many' v M Q := fun s' many' M' Q' a c e f h hq => ih d' (m + 1) s' many' M' Q' (by omega) (by omega) e f h (by omega) a c hq
    refine rc s many M9 _ hs (by omega) i9 E9 k9 ?_
    intro M11 i11 E11 k11 B11
    rw [B9] at B11
    refine ⟨7, gX12_sharesFrom_L91 (b := b) (B0 := M 1 42) (k' := k) hE hW ⟨hm, by omega⟩ hs hmn rc ?_ 7 0 M11 i11 E11 k11 B11 (by omega) (by omega)⟩
    intro M' i' E' k' B'
    refine hQ M' i' E' k' ?_
    rw [B']
    show _ = max (M 1 42) (many + mxH (shF E r v k) r v (E 1 5 - (k + 1)) s (eH E))
    rw [show E 1 5 - ((k : Int) + 1) = m from by omega]
theorem gX12_shares_L39 {p1 z b : Int} {Q : Int → Mem → Prop} (hQ : ∀ M' : Mem, IM b M' → Q z M') : ∀ (n : Nat) (v2 : Int) (M : Mem), IM b M → M 1 42 = z → (0 ≤ v2 ∧ v2 ≤ 8 ∧ M 1 1 ≤ v2) → 8 - v2 < (n : Int) → qX12_shares_L39 p1 Q n v2 M := by
  intro n
  induction n with
  | zero => intro v2 M hI hz hv hm; exact absurd hm (by omega)
  | succ n ih =>
    intro v2 M hI hz hv hm
    rw [qX12_shares_L39]
    intro x8 e8 _
    have b8 : 0 ≤ x8 ∧ x8 ≤ 8 := by rw [e8]; exact bm_c1_5.mp (hI.bx _ _)
    refine ⟨⟨by omega, by omega⟩, ⟨fun c => ?_, fun c => ⟨by omega, by omega, ?_⟩⟩⟩
    · intro x11 e11 _
      rw [e11, hz]
      exact hQ M hI
    · intro x14 _ _
      refine entC hI (by omega) ?_
      intro M15 i15 k15 t15
      exact ih _ M15 i15 (by rw [k15 1 42 (by omega)]; exact hz) (by omega) (by omega)
theorem gX12_shares {p1 b : Int} {M E : Mem} {Q : Int → Mem → Prop} (hI : IM b M) (hC : CE E M) (hW : WR E (M 5)) (hQ : ∀ M' : Mem, IM b M' → Q (shrA E (M 5) p1) M') : qX12_shares p1 M Q := by
  have hE := hC.eb hI
  have fE := hE.f
  have g := hE.2
  have p2 := (p2_0 (eH E) (by omega)).2
  unfold shrA at hQ
  unfold qX12_shares
  intro M1 h1
  obtain ⟨i1, E1, k5, _, _⟩ := th0 hI hC h1
  refine sX12_in (p0 := p1) (p2 := 0) (p4 := 30) i1 ?_
  intro x2 q2 _ _
  refine ⟨fun c => ?_, fun c => by have := hQ M1 i1; rw [if_neg (by omega)] at this; exact this⟩
  rw [if_pos (by omega)] at hQ
  intro M4 h4
  have i4 : IM b M4 := by rw [h4]; exact i1.up (by omega) (by simp [BM])
  have E4 : CE E M4 := by rw [h4]; exact E1.up (by decide)
  have k4 : M4 5 = M 5 := by rw [h4, ← k5]; funext j; rw [up2_n (by decide)]
  have B4 : M4 1 42 = -1 := by rw [h4, up2_s]
  have sb := shF_b E (M 5) p1 (eO E) 0
  refine ⟨10, by omega, ?_⟩
  refine gX12_sharesFrom (b := b) (v := p1) (r := M 5) hE hW (eO E) 10 0 0 0 M4 _ (by omega) (by omega) i4 E4 k4 (Int.le_refl _) (by omega) (by decide) ?_
  intro M5 i5 E5 k5' B5
  intro M7 h7
  have i7 : IM b M7 := by rw [h7]; exact i5.up (by omega) (bm_c1_1.mpr (by decide))
  have k7 : M7 1 1 = 0 := by rw [h7, up2_s]
  refine ⟨9, gX12_shares_L39 (b := b) (z := shF E (M 5) p1 (eO E) 0) hQ 9 0 M7 i7 ?_ (by omega) (by omega)⟩
  rw [h7, up2_j (by decide), B5, B4]
  omega
