/-! THE END on both sides -/
def rgB (E : Mem) (r : Int → Int) : Int := bitF (fun m => if r (29 + m) = E 3 m then 1 else 0) 1 (eO E)
theorem rgB_R (E : Mem) (r : Int → Int) : iR (rgB E r) := bitF_R _ _ _
theorem rgB_cg {E : Mem} {r r' : Int → Int} (hE : EBx E) (h : grv E r r') : rgB E r = rgB E r' := by
  have f := hE.f
  exact bitF_cg (fun i p q => by show (if r (29 + i) = E 3 i then (1 : Int) else 0) = if r' (29 + i) = E 3 i then 1 else 0; rw [h i p (by omega)])
theorem LAW.us {E M : Mem} {kl : Nat} {l : Int} (h : LAW E M kl) (hl : 0 ≤ l ∧ l ≤ 6) (hu : usL E l) : bt (iI (M kl 5)) l.toNat = true := by
  obtain ⟨i, i0, i1, e⟩ := hu
  rcases h with ⟨_, h⟩ | ⟨h, _⟩
  · obtain ⟨a, b, c⟩ := h.2 i i0 i1
    rw [e] at a
    by_cases k : M (kl + 1) i = 301
    · have : M (kl + 2) i = l := by
        rw [k] at a
        unfold kcF at a
        rw [if_neg (by decide), if_pos rfl] at a
        omega
      rw [← this]
      exact c k
    · exfalso
      unfold kOK at b
      unfold kcF at a
      rcases b with b | b | b | b | b | b | b | b | b | b
      · rw [if_pos b.1] at a; omega
      · exact k b.1
      all_goals (rw [b] at a; simp at a; omega)
  · omega
theorem gX2_period {k2 : Nat} {M E : Mem} {Q : Int → Mem → Prop} (hk2 : isL k2) (hS : STR E M) (hL : LAW E M k2) (hQ : ∀ p : Int, (1 ≤ p ∧ p ≤ 200) → (usL E 4 → p % 10 = 0) → (usL E 3 → p % E 1 7 = 0) → Q p M) : qX2_period k2 M Q := by
  have b7 := hS.2.2.2.2.1
  have e7 := hS.2.2.2.1
  have go : ∀ t : Int, (t = 1 ∨ t = 10) → (usL E 4 → t % 10 = 0) → qX2_period_J14 k2 Q t M := by
    intro t ht h4
    unfold qX2_period_J14
    refine gX2_uses (by decide) ?_
    intro z hz _ _
    refine ⟨fun c => ⟨⟨by omega, by omega⟩, ?_⟩, fun c => ?_⟩
    · refine hQ _ (by omega) (fun u => by have := h4 u; omega) (fun u => ?_)
      rcases hz with hz | hz
      · omega
      · exact absurd (hL.us (by decide) u) hz.2
    · intro x6 e6 _
      rw [e7] at e6
      have b : 1 ≤ t * x6 ∧ t * x6 ≤ 200 := by rcases ht with q | q <;> rw [q] <;> omega
      refine ⟨⟨by omega, by omega⟩, hQ _ b (fun u => ?_) (fun _ => ?_)⟩
      · have := h4 u
        rcases ht with q | q
        · omega
        · rw [q]; omega
      · rw [← e6]
        exact Int.mul_emod_left _ _
  unfold qX2_period
  refine gX2_uses (by decide) ?_
  intro z hz _ _
  refine ⟨fun c => go 1 (Or.inl rfl) (fun u => ?_), fun c => go 10 (Or.inr rfl) (fun _ => by decide)⟩
  rcases hz with hz | hz
  · omega
  · exact absurd (hL.us (by decide) u) hz.2
theorem md_e {x y p b k : Int} (hb : 1 ≤ b ∧ b ≤ 2147483647) (hp : p % b = 0) (hx : 0 ≤ x ∧ x ≤ 2147483647) (hy : 0 ≤ y ∧ y ≤ 2147483647) (h : x = y + p * k) : rmI x b = rmI y b := by
  rw [rmI_e hx hb, rmI_e hy hb, h]
  have e : p = b * (p / b) := by have := Int.mul_ediv_add_emod p b; omega
  rw [e, Int.mul_assoc, Int.add_mul_emod_self_left]
/-- quiet for a whole period: quiet for good -/
theorem qu_win {E : Mem} {T : Int → Int} {v p : Int} (hE : EBx E) (h24 : 0 ≤ E 1 24) (hw : WFC (E 11) (E 1 24)) (h7 : 1 ≤ E 1 7 ∧ E 1 7 ≤ 20) (hW : WR E T) (hp : 1 ≤ p ∧ p ≤ 200) (p4 : usL E 4 → p % 10 = 0) (p3 : usL E 3 → p % E 1 7 = 0) (hv : p ≤ v) (h4 : v ≤ T 37) (h37 : T 37 ≤ 2000000000) (hq : ∀ j : Int, 1 ≤ j → j ≤ v → quS E (up T 37 (T 37 - j))) (n : Nat) (hn : n ≤ 200) : quS E (up T 37 (T 37 + n)) := by
  have m0 := Int.emod_nonneg (n : Int) (b := p) (by omega)
  have m1 := Int.emod_lt_of_pos (n : Int) (b := p) (by omega)
  have m2 := Int.mul_ediv_add_emod (n : Int) p
  have q := hq (p - n % p) (by omega) (by omega)
  have k := qu_37 (s := T 37 + n) hE h24 hw q (hW.u37 hE (by omega)) (fun u => ?_) (fun u => ?_)
  · rw [up_ov] at k
    exact k
  · rw [upS]
    congr 1
    refine md_e (p := p) (k := n / p + 1) (by omega) (p3 u) (by omega) (by omega) ?_
    rw [Int.mul_add]
    omega
  · rw [upS]
    refine md_e (p := p) (k := n / p + 1) (by omega) (p4 u) (by omega) (by omega) ?_
    rw [Int.mul_add]
    omega
theorem egF_all {r : Int → Int} {n : Nat} (h : egF r n = n) : ∀ i : Int, 0 ≤ i → i < n → r (29 + i) ≠ -1 := by
  induction n with
  | zero => intro i p q; omega
  | succ n ih =>
    intro i p q
    have b := egF_b r n
    unfold egF at h
    by_cases c : r (29 + n) = -1
    · rw [if_pos c] at h; omega
    · rw [if_neg c] at h
      by_cases e : i = n
      · rw [e]; exact c
      · exact ih (by omega) i p (by omega)
theorem arF_all {r : Int → Int} {n : Nat} (h : arF r n = n) : ∀ i : Int, 0 ≤ i → i < n → r i < 0 := by
  induction n with
  | zero => intro i p q; omega
  | succ n ih =>
    intro i p q
    have b := arF_b r n
    unfold arF at h
    by_cases c : r n < 0
    · rw [if_pos c] at h
      by_cases e : i = n
      · rw [e]; exact c
      · exact ih (by omega) i p (by omega)
    · rw [if_neg c] at h; omega
theorem fol_it {E : Mem} {r : Int → Int} (hE : EBx E) (hW : WR E r) (hf : fol E r) (n : Nat) : fol E (itF E n r) := by
  cases n with
  | zero => exact hf
  | succ n => exact fol_st hE (hW.it hE n)
theorem gX10_toEnd_L15 {k1 k2 : Nat} {p : Int} {Q : Mem → Prop} {M0 E : Mem} {r : Int → Int} (hk1 : isS k1) (hk2 : isL k2) (hS : STR E M0) (hL : LAW E M0 k2) (hw : WFC (E 11) (E 1 24)) (h24 : 0 ≤ E 1 24) (hW0 : WR E r) (hf : fol E r) (h37 : r 37 ≤ 1999999000) (hp : 1 ≤ p ∧ p ≤ 200) (p4 : usL E 4 → p % 10 = 0) (p3 : usL E 3 → p % E 1 7 = 0) (hQ : ∀ (M' : Mem) (T : Int → Int), IX M' → Ks (kAd k1 k2) M0 M' → SC E M' k1 T → WR E T → grv E T (itF E 200 r) → Q M') : ∀ (n : Nat) (v4 v5 : Int) (M : Mem), IX M → Ks (kAd k1 k2) M0 M → SC E M k1 (itF E v5.toNat r) → (0 ≤ v4 ∧ v4 ≤ v5 ∧ v5 ≤ 200) → (∀ j : Int, 1 ≤ j → j ≤ v4 → quS E (up (itF E v5.toNat r) 37 (itF E v5.toNat r 37 - j))) → 200 - v5 < (n : Int) → qX10_toEnd_L15 k1 k2 Q n p v4 v5 M := by
  have hE := hS.eb
  have f := hE.f
  have g := hE.2
  intro n
  induction n with
  | zero => intro v4 v5 M hI hK hC hv hq hm; exact absurd hm (by omega)
  | succ n ih =>
    intro v4 v5 M hI hK hC hv hq hm
    have el : k2 = 187 ∨ k2 = 192 := hk2
    have es : 0 < k1 ∧ k1 < 155 ∧ (k1 - 1) % 7 = 0 := hk1
    have hT := hW0.it hE v5.toNat
    have q37 := itF_37 (r := r) hE v5.toNat
    have r0 := hW0.2.2.2.2
    have fin : (∀ n : Nat, n ≤ 200 → grv E (itF E n (itF E v5.toNat r)) (itF E v5.toNat r)) → Q M := fun h => hQ _ _ hI hK hC hT (fun m a b => by
      have e := h (200 - v5.toNat) (by omega) m a b
      rw [← st_add, show 200 - v5.toNat + v5.toNat = 200 from by omega] at e
      exact e.symm)
    rw [qX10_toEnd_L15]
    refine ⟨⟨by omega, by omega⟩, ⟨fun c => ?_, fun c => ⟨⟨by omega, by omega⟩, ⟨by omega, by omega⟩, ⟨fun c2 => ?_, fun c2 => ?_⟩⟩⟩⟩
    · rw [show v5.toNat = 200 from by omega] at hC hT
      exact hQ _ _ hI hK hC hT (fun m a b => rfl)
    · exact fin (fun n hn => gr_qu hE (N := 200) (qu_win (v := v4) hE h24 hw hS.2.2.2.2.1 hT hp p4 p3 c2 (by omega) (by omega) hq) n hn)
    · intro x7 e7 _ x8 e8 _
      refine ⟨fun c3 => ?_, fun c3 => ?_⟩
      · refine fin (fun n _ => gr_allE hE (fun m a b => ?_) n)
        have e : egF (itF E v5.toNat r) (eO E) = (eO E : Nat) := by
          rw [← hC.2.2.2.2.2.2.2.2.2.2, ← e7, c3, e8, hC.2.1, f.2.1]
        have := egF_all e m a (by omega)
        have := hT.2.2.1 m a b
        omega
      · intro x10 e10 _ x11 e11 _
        refine ⟨fun c4 => ?_, fun c4 => ?_⟩
        · have S1 : STR E M := hS.fr (hK 158 1 (by unfold kAd; omega)) (hK 158 2 (by unfold kAd; omega)) (hK 158 3 (by unfold kAd; omega)) (fun j => hK 159 j (by unfold kAd; omega))
          have L1 : LAW E M k2 := hL.fr (hK k2 4 (by unfold kAd; omega)) (hK k2 5 (by unfold kAd; omega)) (fun j => hK _ j (by unfold kAd; omega)) (fun j => hK _ j (by unfold kAd; omega))
          refine gX10_advance hI hk1 hk2 S1 L1 hw hC hT (by omega) ?_
          intro M' i' k' c' w' st x14 e14 _
          rw [← itF_s (by omega)] at c'
          refine ⟨fun c5 => ?_, fun c5 => ?_⟩
          · have e := st (by omega)
            refine ih _ _ _ i' (hK.tr k') c' (by omega) (fun j a b => ?_) (by omega)
            rw [itF_s (by omega), e, upS, up_ov]
            by_cases j1 : j = 1
            · rw [j1, show itF E v5.toNat r 37 + 1 - 1 = itF E v5.toNat r 37 from by omega, up_id]
              exact qu_of hE e
            · rw [show itF E v5.toNat r 37 + 1 - j = itF E v5.toNat r 37 - (j - 1) from by omega]
              exact hq _ (by omega) (by omega)
          · exact ih _ _ _ i' (hK.tr k') c' (by omega) (fun j a b => by omega) (by omega)
        · refine fin (fun n _ => gr_allA hE hT (fun h a b => ?_) (fol_it hE hW0 hf _) n)
          have e : arF (itF E v5.toNat r) (eH E) = (eH E : Nat) := by
            rw [← hT.2.2.2.1, ← hC.2.2.2.2.1, ← e10, c4, e11, hC.1, f.1]
          exact arF_all e h a (by omega)
theorem gX10_toEnd {k1 k2 : Nat} {Q : Mem → Prop} {M E : Mem} {r : Int → Int} (hI : IX M) (hk1 : isS k1) (hk2 : isL k2) (hS : STR E M) (hL : LAW E M k2) (hw : WFC (E 11) (E 1 24)) (h24 : 0 ≤ E 1 24) (hC : SC E M k1 r) (hW : WR E r) (hf : fol E r) (h37 : r 37 ≤ 1999999000) (hQ : ∀ (M' : Mem) (T : Int → Int), IX M' → Ks (kAd k1 k2) M M' → SC E M' k1 T → WR E T → grv E T (itF E 200 r) → Q M') : qX10_toEnd k1 k2 M Q := by
  unfold qX10_toEnd
  refine gX2_period hk2 hS hL ?_
  intro p hp p4 p3 _
  exact ⟨201, gX10_toEnd_L15 (M0 := M) (r := r) hk1 hk2 hS hL hw h24 hW hf h37 hp p4 p3 hQ _ _ _ _ hI Ks.rf hC (by omega) (fun j a b => by omega) (by omega)⟩
theorem gX6_isRight {k0 : Nat} {p1 : Int} {M E : Mem} {r : Int → Int} {Q : Int → Mem → Prop} (hC : SC E M k0 r) (hp : 0 ≤ p1 ∧ p1 ≤ 7) (hQ : ∀ z : Int, (z = 1 ∧ r (29 + p1) = E 3 p1 ∨ z = 0 ∧ r (29 + p1) ≠ E 3 p1) → Q z M) : qX6_isRight k0 p1 M Q := by
  unfold qX6_isRight
  refine ⟨by omega, by omega, ?_⟩
  intro x3 e3 _ x4 e4 _
  rw [hC.2.2.2.2.2.2.2.2.1 p1 hp.1 (by omega)] at e3
  rw [hC.2.2.2.2.2.2.1 p1 hp.1 (by omega)] at e4
  exact ⟨fun c => hQ _ (Or.inr ⟨rfl, by omega⟩), fun c => hQ _ (Or.inl ⟨rfl, by omega⟩)⟩
theorem gX6_rightBits_L4 {k0 : Nat} {M E : Mem} {r : Int → Int} {Q : Int → Mem → Prop} (hE : EBx E) (hC : SC E M k0 r) (hQ : Q (rgB E r) M) : ∀ (n : Nat) (v1 v2 : Int), v1 = bitF (fun m => if r (29 + m) = E 3 m then 1 else 0) 1 v2.toNat → (0 ≤ v2 ∧ v2 ≤ E 1 5) → E 1 5 - v2 < (n : Int) → qX6_rightBits_L4 k0 Q n v1 v2 M := by
  have f := hE.f
  have g := hE.2
  intro n
  induction n with
  | zero => intro v1 v2 h1 hv hm; exact absurd hm (by omega)
  | succ n ih =>
    intro v1 v2 h1 hv hm
    have r1 := bitF_R (fun m => if r (29 + m) = E 3 m then 1 else 0) 1 v2.toNat
    rw [← h1] at r1
    rw [qX6_rightBits_L4]
    intro x1 e1 _
    rw [hC.2.1] at e1
    refine ⟨⟨by omega, by omega⟩, ⟨fun c => ⟨r1, ?_⟩, fun c => ?_⟩⟩
    · rw [h1, show v2.toNat = eO E from by omega]
      exact hQ
    · refine gX6_isRight hC (by omega) ?_
      intro z hz _ _
      have hs := bitF_s (f := fun m => if r (29 + m) = E 3 m then 1 else 0) (x := 1) hv.1
      refine ⟨fun c2 => ?_, fun c2 => ?_⟩
      · intro x7 e7 _
        refine ih _ _ ?_ (by omega) (by omega)
        have : ¬ r (29 + v2) = E 3 v2 := by
          rcases hz with q | q
          · omega
          · exact q.2
        rw [hs, if_neg this, if_neg (by decide), e7, h1]
      · intro x8 e8 _ x9 e9 _
        refine ih _ _ ?_ (by omega) (by omega)
        have : r (29 + v2) = E 3 v2 := by
          rcases hz with q | q
          · exact q.2
          · omega
        rw [hs, if_pos this, if_pos rfl, e9, e8, h1]
theorem gX6_rightBits {k0 : Nat} {M E : Mem} {r : Int → Int} {Q : Int → Mem → Prop} (hE : EBx E) (hC : SC E M k0 r) (hQ : Q (rgB E r) M) : qX6_rightBits k0 M Q := by
  have g := hE.2
  unfold qX6_rightBits
  exact ⟨9, gX6_rightBits_L4 hE hC hQ _ _ _ rfl (by omega) (by omega)⟩
/-- the mourners that end at their own, behind two hundred steps -/
noncomputable def rgE (E : Mem) (r : Int → Int) : Int := rgB E (itF E 200 r)
theorem gX11_rightOnesOfTrial {k2 : Nat} {Q : Int → Mem → Prop} {M E : Mem} {r : Int → Int} (hI : IX M) (hk2 : isL k2) (hS : STR E M) (hL : LAW E M k2) (hw : WFC (E 11) (E 1 24)) (h24 : 0 ≤ E 1 24) (hC : SC E M 8 r) (hW : WR E r) (hf : fol E r) (h37 : r 37 ≤ 1999999000) (hQ : ∀ (M' : Mem) (T : Int → Int), IX M' → Ks (kAd 8 k2) M M' → SC E M' 8 T → WR E T → grv E T (itF E 200 r) → Q (rgE E r) M') : qX11_rightOnesOfTrial k2 M Q := by
  unfold qX11_rightOnesOfTrial
  refine gX10_toEnd hI (by decide) hk2 hS hL hw h24 hC hW hf h37 ?_
  intro M' T i' k' c' w' g'
  refine gX6_rightBits hS.eb c' ?_
  intro _
  have e : rgB E T = rgE E r := rgB_cg hS.eb g'
  rw [e]
  exact hQ M' T i' k' c' w' g'
