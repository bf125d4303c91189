/-! READING HEARSES -/
def dgC (f : Int → Int) (t : Int) : Nat → Int → Nat
  | 0, _ => 0
  | p + 1, a => if a < t ∧ 48 ≤ f a ∧ f a ≤ 57 then dgC f t p (a + 1) + 1 else 0
theorem dgC_c {f : Int → Int} {t : Int} : ∀ (p : Nat) (a : Int), dgC f t p a ≤ p ∧ (∀ i : Int, 0 ≤ i → i < dgC f t p a → a + i < t ∧ vW (f (a + i))) ∧ (dgC f t p a = p ∨ t ≤ a + dgC f t p a ∨ ¬ vW (f (a + dgC f t p a))) := by
  intro p
  induction p with
  | zero => intro a; exact ⟨Nat.le_refl _, fun i h q => by have : dgC f t 0 a = 0 := rfl; omega, Or.inl rfl⟩
  | succ p ih =>
    intro a
    by_cases c : a < t ∧ 48 ≤ f a ∧ f a ≤ 57
    · have e : dgC f t (p + 1) a = dgC f t p (a + 1) + 1 := if_pos c
      obtain ⟨h1, h2, h3⟩ := ih (a + 1)
      rw [e]
      refine ⟨by omega, fun i h q => ?_, ?_⟩
      · by_cases ci : i = 0
        · rw [ci, Int.add_zero]
          exact ⟨c.1, c.2⟩
        · have := h2 (i - 1) (by omega) (by omega)
          rw [show a + 1 + (i - 1) = a + i from by omega] at this
          exact this
      · rw [show a + ((dgC f t p (a + 1) + 1 : Nat) : Int) = a + 1 + dgC f t p (a + 1) from by omega]
        rcases h3 with q | q | q
        · exact Or.inl (by omega)
        · exact Or.inr (Or.inl q)
        · exact Or.inr (Or.inr q)
    · have e : dgC f t (p + 1) a = 0 := if_neg c
      rw [e]
      refine ⟨by omega, fun i h q => by omega, Or.inr ?_⟩
      rw [show a + ((0 : Nat) : Int) = a from by omega]
      by_cases c2 : t ≤ a
      · exact Or.inl c2
      · exact Or.inr (fun w => c ⟨by omega, w.1, w.2⟩)
def nuZ (f : Int → Int) (t : Int) (p : Nat) (a : Int) : Int := if dgC f t p a = 0 then -1 else nmV f a (dgC f t p a)
theorem NUM.ex {f : Int → Int} {t : Int} {p : Nat} {a : Int} (hp : 1 ≤ p) : NUM f a t p (nuZ f t p a) (a + dgC f t p a) := by
  obtain ⟨h1, h2, h3⟩ := dgC_c (f := f) (t := t) p a
  unfold nuZ
  by_cases c : dgC f t p a = 0
  · rw [if_pos c]
    refine Or.inl ⟨rfl, by omega, fun w => ?_⟩
    rw [c, show a + ((0 : Nat) : Int) = a from by omega] at h3
    rcases h3 with q | q | q
    · omega
    · omega
    · exact q w.2
  · rw [if_neg c]
    refine Or.inr ⟨(dgC f t p a : Nat), by omega, rfl, ?_, fun i h q => (h2 i h q).2, ?_, by rw [show (((dgC f t p a : Nat) : Int)).toNat = dgC f t p a from by omega]⟩
    · have := (h2 ((dgC f t p a : Nat) - 1 : Int) (by omega) (by omega)).1
      omega
    · rcases h3 with q | q | q
      · exact Or.inl (by omega)
      · exact Or.inr (Or.inl q)
      · exact Or.inr (Or.inr q)
theorem NUM.fn {f : Int → Int} {a t z a' : Int} {p : Nat} (hp : 1 ≤ p) (h : NUM f a t p z a') : z = nuZ f t p a ∧ a' = a + dgC f t p a := h.uq (NUM.ex hp) (fun _ _ _ => rfl)
theorem nuZ_b {f : Int → Int} {t : Int} {a : Int} : (-1 ≤ nuZ f t 2 a ∧ nuZ f t 2 a ≤ 99) ∧ (0 ≤ nuZ f t 2 a → a + 1 ≤ a + dgC f t 2 a) ∧ (a ≤ t → a + dgC f t 2 a ≤ t) ∧ (nuZ f t 2 a < 0 → dgC f t 2 a = 0) := by
  have h := NUM.ex (f := f) (t := t) (p := 2) (a := a) (by omega)
  have b := h.b (by omega)
  exact ⟨⟨b.1, b.2.2.2.1 rfl⟩, fun q => by have := b.2.2.2.2.2.2.1 q; omega, fun q => b.2.2.2.2.2.1 q, fun q => by have := b.2.2.2.2.2.2.2 q; omega⟩
/-- a line of hearses: the cell (-1: it can't stand), where reading is then -/
def rd1 (f : Int → Int) (t g H : Int) (r : Int → Int) (a : Int) : Int × Int := if 6 ≤ H then (-1, a) else if nuZ f t 2 a < 0 then (-1, a) else if g ≤ nuZ f t 2 a ∨ 0 ≤ onF r H.toNat (nuZ f t 2 a) then (-1, a + dgC f t 2 a - 1) else (nuZ f t 2 a, a + dgC f t 2 a)
def adH (r : Int → Int) (H v : Int) : Int → Int := up (up r H v) (6 + H) 0
def rdH (f : Int → Int) (t g : Int) : Nat → Int → (Int → Int) → Int → Int × Int × Int × (Int → Int)
  | 0, H, r, a => (0, a, H, r)
  | n + 1, H, r, a => if (rd1 f t g H r a).1 < 0 then (0, (rd1 f t g H r a).2, H, r) else if (rd1 f t g H r a).2 < t ∧ f (rd1 f t g H r a).2 = 59 then rdH f t g n (H + 1) (adH r H (rd1 f t g H r a).1) ((rd1 f t g H r a).2 + 1) else (1, (rd1 f t g H r a).2, H + 1, adH r H (rd1 f t g H r a).1)
theorem rd1_b {f : Int → Int} {t g H : Int} {r : Int → Int} {a : Int} (ha : 0 ≤ a ∧ a ≤ t) : (0 ≤ (rd1 f t g H r a).2 ∧ (rd1 f t g H r a).2 ≤ t) ∧ -1 ≤ (rd1 f t g H r a).1 ∧ (0 ≤ (rd1 f t g H r a).1 → H < 6 ∧ (rd1 f t g H r a).1 < g ∧ onF r H.toNat (rd1 f t g H r a).1 < 0) := by
  have b := nuZ_b (f := f) (t := t) (a := a)
  unfold rd1
  split
  · exact ⟨ha, by show (-1 : Int) ≤ -1; decide, fun h => absurd h (by show ¬ (0 : Int) ≤ -1; decide)⟩
  · split
    · exact ⟨ha, by show (-1 : Int) ≤ -1; decide, fun h => absurd h (by show ¬ (0 : Int) ≤ -1; decide)⟩
    · split
      · refine ⟨⟨?_, ?_⟩, by show (-1 : Int) ≤ -1; decide, fun h => absurd h (by show ¬ (0 : Int) ≤ -1; decide)⟩
        · show 0 ≤ a + dgC f t 2 a - 1
          have := b.2.1 (by omega)
          omega
        · show a + dgC f t 2 a - 1 ≤ t
          have := b.2.2.1 ha.2
          omega
      · refine ⟨⟨?_, ?_⟩, ?_, fun _ => ?_⟩
        · show 0 ≤ a + dgC f t 2 a
          omega
        · exact b.2.2.1 ha.2
        · exact b.1.1
        · show H < 6 ∧ nuZ f t 2 a < g ∧ onF r H.toNat (nuZ f t 2 a) < 0
          omega
-- the class
theorem eE4 (E : Mem) (H : Int) : up2 E 1 4 H 1 4 = H := up2_s E 1 4 H
theorem SC.addH {E M : Mem} {k : Nat} {r : Int → Int} {H v : Int} (hC : SC (up2 E 1 4 H) M k r) (hH : 0 ≤ H ∧ H < 6) (hb : eO E ≤ 8) : SC (up2 E 1 4 (H + 1)) (up2 (up2 (up2 M (k + 1) H v) (k + 2) H 0) k 6 (H + 1)) k (adH r H v) := by
  obtain ⟨a1, a2, a3, a4, a5, a6, a7, a8, a9, a10, a11⟩ := hC
  have hi : ∀ j, 12 ≤ j → adH r H v j = r j := fun j q => by unfold adH; rw [up_j (by omega), up_j (by omega)]
  refine ⟨by rw [up2_s, up2_s], by rw [up2_j (by decide), up2_n (by omega), up2_n (by omega)]; exact a2, fun j a q => ?_, fun j a q => ?_, ?_, fun m a q => ?_, fun m a q => ?_, fun m a q => ?_, fun m a q => ?_, ?_, ?_⟩
  · rw [up2_n (by omega), up2_n (by omega)]
    unfold adH
    rw [up_j (by omega)]
    by_cases cj : j = H
    · rw [cj, up2_s, upS]
    · rw [up2_j cj, up_j cj]; exact a3 j a q
  · rw [up2_n (by omega)]
    unfold adH
    by_cases cj : j = H
    · rw [cj, up2_s, upS]
    · rw [up2_j cj, up2_n (by omega), up_j (by omega), up_j (by omega)]; exact a4 j a q
  · rw [up2_j (by decide), up2_n (by omega), up2_n (by omega), hi 12 (by decide)]; exact a5
  · rw [up2_n (by omega), up2_n (by omega), up2_n (by omega), hi _ (by omega)]; exact a6 m a q
  · rw [up2_n (by omega), up2_n (by omega), up2_n (by omega), up2_n (by decide)]
    have := a7 m a q
    rw [up2_n (by decide)] at this
    exact this
  · rw [up2_n (by omega), up2_n (by omega), up2_n (by omega), hi _ (by omega)]; exact a8 m a q
  · rw [up2_n (by omega), up2_n (by omega), up2_n (by omega), hi _ (by omega)]; exact a9 m a q
  · rw [up2_j (by decide), up2_n (by omega), up2_n (by omega), hi 37 (by decide)]; exact a10
  · rw [up2_j (by decide), up2_n (by omega), up2_n (by omega), a11]
    have e1 : eO (up2 E 1 4 (H + 1)) = eO E := by show (up2 E 1 4 (H + 1) 1 5).toNat = (E 1 5).toNat; rw [up2_j (by decide)]
    have e2 : eO (up2 E 1 4 H) = eO E := by show (up2 E 1 4 H 1 5).toNat = (E 1 5).toNat; rw [up2_j (by decide)]
    rw [e1, e2]
    exact egF_cg (fun i a q => by rw [hi _ (by omega)])
theorem gX6_hearseOn_L2 {k0 : Nat} {p1 : Int} {Q : Int → Mem → Prop} {M E : Mem} {r : Int → Int} (hC : SC E M k0 r) (h4 : 0 ≤ E 1 4 ∧ E 1 4 ≤ 6) (hQ : ∀ z : Int, (z = -1 ∧ onF r (E 1 4).toNat p1 < 0 ∨ (0 ≤ z ∧ z < E 1 4) ∧ r z = p1 ∧ 0 ≤ onF r (E 1 4).toNat p1) → Q z M) : ∀ (n : Nat) (v2 : Int), (∀ i, 0 ≤ i → i < v2 → r i ≠ p1) → (0 ≤ v2 ∧ v2 ≤ E 1 4) → E 1 4 - v2 < (n : Int) → qX6_hearseOn_L2 k0 p1 Q n v2 M := by
  intro n
  induction n with
  | zero => intro v2 ha hv hm; exact absurd hm (by omega)
  | succ n ih =>
    intro v2 ha hv hm
    rw [qX6_hearseOn_L2]
    intro x1 e1 _
    have f1 : x1 = E 1 4 := by rw [e1]; exact hC.1
    refine ⟨⟨by omega, by omega⟩, ⟨fun c => hQ _ (Or.inl ⟨rfl, ?_⟩), fun c => ⟨by omega, by omega, ?_⟩⟩⟩
    · rw [onF_z (fun i a q => ha i a (by omega))]
      decide
    · intro x6 e6 _
      have f6 : x6 = r v2 := by rw [e6]; exact hC.2.2.1 v2 (by omega) (by omega)
      refine ⟨fun c2 => ih _ (fun i a q => ?_) (by omega) (by omega), fun c2 => hQ _ (Or.inr ⟨by omega, by omega, ?_⟩)⟩
      · by_cases ci : i = v2
        · rw [ci, ← f6]; exact c2
        · exact ha i a (by omega)
      · by_cases cn : 0 ≤ onF r (E 1 4).toNat p1
        · exact cn
        · exact absurd (show r v2 = p1 by rw [← f6]; exact c2) (onF_n (c := r) (n := (E 1 4).toNat) (v := p1) (by omega) v2 hv.1 (by omega))
theorem gX6_hearseOn {k0 : Nat} {p1 : Int} {Q : Int → Mem → Prop} {M E : Mem} {r : Int → Int} (hC : SC E M k0 r) (h4 : 0 ≤ E 1 4 ∧ E 1 4 ≤ 6) (hQ : ∀ z : Int, (z = -1 ∧ onF r (E 1 4).toNat p1 < 0 ∨ (0 ≤ z ∧ z < E 1 4) ∧ r z = p1 ∧ 0 ≤ onF r (E 1 4).toNat p1) → Q z M) : qX6_hearseOn k0 p1 M Q := by
  unfold qX6_hearseOn
  exact ⟨7, gX6_hearseOn_L2 hC h4 hQ _ _ (fun i a q => by omega) (by omega) (by omega)⟩
theorem gX11_readHearse {M E : Mem} {H : Int} {r : Int → Int} {Q : Int → Mem → Prop} (hI : IX M) (hC : SC (up2 E 1 4 H) M 8 r) (hH : 0 ≤ H ∧ H ≤ 6) (hO : eO E ≤ 8) (hg : M 158 1 - 1 = eG E) (ha : 0 ≤ M 156 2 ∧ M 156 2 ≤ M 156 3) (hQ : ∀ (z : Int) (M' : Mem), IX M' → Ks (fun k j => (k = 156 ∧ j = 2) ∨ (8 ≤ k ∧ k ≤ 14)) M M' → M' 156 2 = (rd1 (M 157) (M 156 3) (eG E) H r (M 156 2)).2 → ((rd1 (M 157) (M 156 3) (eG E) H r (M 156 2)).1 < 0 ∧ z = 0 ∨ 0 ≤ (rd1 (M 157) (M 156 3) (eG E) H r (M 156 2)).1 ∧ z = 1 ∧ SC (up2 E 1 4 (H + 1)) M' 8 (adH r H (rd1 (M 157) (M 156 3) (eG E) H r (M 156 2)).1)) → Q z M') : qX11_readHearse M Q := by
  unfold rd1 at hQ
  have h6 : M 8 6 = H := by rw [hC.1]; exact eE4 E H
  have b158 := bx_c158_1.mp (hI.bx 158 1)
  have bn := nuZ_b (f := M 157) (t := M 156 3) (a := M 156 2)
  unfold qX11_readHearse
  intro x1 e1 _
  refine ⟨fun c => ?_, fun c => ?_⟩
  · have c6 : ¬ 6 ≤ H := by omega
    rw [if_neg c6] at hQ
    unfold qX11_readCell
    refine gX9_number (p1 := 2) hI (by decide) ?_
    intro z1 M1 i1 k1 n1 _
    obtain ⟨f1, g1⟩ := NUM.fn (p := 2) (by omega) n1
    have C1 : SC (up2 E 1 4 H) M1 8 r := hC.fr (fun i j hi => k1 _ j (by omega))
    refine sX8_gate i1 ?_
    intro z2 hz2 _
    have eg : z2 = eG E := by
      have : M1 158 1 = M 158 1 := k1 158 1 (by omega)
      omega
    have K1 : Ks (fun k j => (k = 156 ∧ j = 2) ∨ (8 ≤ k ∧ k ≤ 14)) M M1 := k1.mono (fun k j h => Or.inl h)
    refine ⟨fun d => ?_, fun d => ?_⟩
    · intro _
      refine ⟨fun d2 => ?_, fun d2 => ?_⟩
      · have cn : ¬ nuZ (M 157) (M 156 3) 2 (M 156 2) < 0 := by omega
        rw [if_neg cn] at hQ
        refine gX6_hearseOn (p1 := z1) C1 (by rw [eE4]; exact hH) ?_
        intro z3 c3 _
        rw [eE4] at c3
        refine ⟨fun d3 => ?_, fun d3 => ?_⟩
        · have on : onF r H.toNat z1 < 0 := by rcases c3 with q | q <;> omega
          rw [f1] at on
          rw [if_neg (by omega)] at hQ
          unfold qX6_addHearse
          intro y1 w1 _
          have v1 : y1 = H := by rw [w1, C1.1]; exact eE4 E H
          refine ⟨by omega, by omega, ?_⟩
          intro M4 h4 y5 w5 _
          have v5 : y5 = H := by rw [w5, h4, up2_n (by decide), C1.1]; exact eE4 E H
          refine ⟨by omega, by omega, ?_⟩
          intro M8 h8 y9 w9 _
          have v9 : y9 = H := by rw [w9, h8, up2_n (by decide), h4, up2_n (by decide), C1.1]; exact eE4 E H
          refine ⟨⟨by omega, by omega⟩, ?_⟩
          intro M11 h11
          have is8 : isS 8 := by decide
          have i4 : IX M4 := by rw [h4]; exact i1.up (is8.nsp 1 (by decide)) ((bx_s1 is8).mpr ⟨by omega, by omega⟩)
          have i8 : IX M8 := by rw [h8]; exact i4.up (is8.nsp 2 (by decide)) (bx_sf2 is8)
          have i11 : IX M11 := by rw [h11]; exact i8.up (is8.nsp 0 (by decide)) ((bx_s0_6 is8).mpr ⟨by omega, by omega⟩)
          refine hQ 1 M11 i11 ?_ ?_ (Or.inr ⟨by show 0 ≤ nuZ _ _ _ _; omega, rfl, ?_⟩)
          · rw [h11, h8, h4]
            exact ((K1.wr (by omega)).wr (by omega)).wr (by omega)
          · rw [h11, up2_n (by decide), h8, up2_n (by decide), h4, up2_n (by decide)]
            exact g1
          · rw [h11, h8, h4, v9, v5, v1, f1]
            exact C1.addH (by omega) hO
        · have on : 0 ≤ onF r H.toNat z1 := by rcases c3 with q | q <;> omega
          rw [f1] at on
          rw [if_pos (Or.inr on)] at hQ
          refine gX9_back i1 ?_
          intro M8 i8 k8 p8
          refine hQ 0 M8 i8 (K1.tr (k8.mono (fun k j h => Or.inl h))) ?_ (Or.inl ⟨by show (-1 : Int) < 0; decide, rfl⟩)
          have := p8 (by omega)
          show M8 156 2 = M 156 2 + dgC (M 157) (M 156 3) 2 (M 156 2) - 1
          omega
      · rw [if_pos (by omega)] at hQ
        have := bn.2.2.2 (by omega)
        refine hQ 0 M1 i1 K1 ?_ (Or.inl ⟨by show (-1 : Int) < 0; decide, rfl⟩)
        show M1 156 2 = M 156 2
        omega
    · have cn : ¬ nuZ (M 157) (M 156 3) 2 (M 156 2) < 0 := by omega
      rw [if_neg cn, if_pos (Or.inl (by omega))] at hQ
      refine gX9_back i1 ?_
      intro M4 i4 k4 p4 _
      refine ⟨fun d2 => absurd rfl d2, fun _ => ?_⟩
      refine hQ 0 M4 i4 (K1.tr (k4.mono (fun k j h => Or.inl h))) ?_ (Or.inl ⟨by show (-1 : Int) < 0; decide, rfl⟩)
      have := p4 (by omega)
      show M4 156 2 = M 156 2 + dgC (M 157) (M 156 3) 2 (M 156 2) - 1
      omega
  · rw [if_pos (by omega)] at hQ
    exact hQ 0 M hI Ks.rf rfl (Or.inl ⟨by show (-1 : Int) < 0; decide, rfl⟩)
theorem gX9_skip {p1 : Int} {M : Mem} {Q : Int → Mem → Prop} (hI : IX M) (hp : 0 ≤ p1) (hQ : ∀ (z : Int) (M' : Mem), IX M' → Ks kA M M' → ((M 156 2 < M 156 3 ∧ M 157 (M 156 2) = p1) ∧ z = 1 ∧ M' 156 2 = M 156 2 + 1 ∨ ¬ (M 156 2 < M 156 3 ∧ M 157 (M 156 2) = p1) ∧ z = 0 ∧ M' 156 2 = M 156 2) → Q z M') : qX9_skip p1 M Q := by
  unfold qX9_skip
  refine gX9_look hI ?_
  intro x1 p _
  refine ⟨fun c => ?_, fun c => hQ _ _ hI Ks.rf (Or.inr ⟨by omega, rfl, rfl⟩)⟩
  refine gX9_pass hI ?_
  intro M3 i3 k3 p3
  exact hQ _ _ i3 k3 (Or.inl ⟨by omega, rfl, by omega⟩)
abbrev kRd (k : Nat) (j : Int) : Prop := (k = 156 ∧ j = 2) ∨ (8 ≤ k ∧ k ≤ 14)
theorem gX11_readLines_L33H {X90 Q : Int → Mem → Prop} {M0 E : Mem} {H0 : Int} {T : Int × Int × Int × (Int → Int)} (hO : eO E ≤ 8) (h0 : 0 ≤ H0) (hg : M0 158 1 - 1 = eG E) (ht : M0 156 3 ≤ 80) (hQ : T.1 = 0 → ∀ M' : Mem, IX M' → Ks kRd M0 M' → M' 156 2 = T.2.1 → Q (-1 - T.2.1) M') (hX : T.1 = 1 → ∀ M' : Mem, IX M' → Ks kRd M0 M' → M' 156 2 = T.2.1 → SC (up2 E 1 4 T.2.2.1) M' 8 T.2.2.2 → X90 (T.2.2.1 - H0) M') : ∀ (n : Nat) (v2 : Int) (M : Mem) (H : Int) (r : Int → Int), IX M → Ks kRd M0 M → SC (up2 E 1 4 H) M 8 r → rdH (M0 157) (M0 156 3) (eG E) n H r (M 156 2) = T → (0 ≤ M 156 2 ∧ M 156 2 ≤ M0 156 3) → (0 ≤ H ∧ H ≤ 6) → (v2 = H - H0 ∧ 0 ≤ v2) → 7 ≤ H + n → qX11_readLines_L33 1 X90 Q (n + 1) v2 1 M := by
  intro n
  induction n with
  | zero => intro v2 M H r hI hK hC hT ha hH hv hn; omega
  | succ n ih =>
    intro v2 M H r hI hK hC hT ha hH hv hn
    have e157 : M 157 = M0 157 := funext fun j => hK 157 j (by omega)
    have e3 : M 156 3 = M0 156 3 := hK 156 3 (by omega)
    have e158 : M 158 1 = M0 158 1 := hK 158 1 (by omega)
    rw [qX11_readLines_L33]
    refine ⟨⟨by decide, by decide⟩, ⟨fun c => absurd c (by decide), fun _ => ⟨⟨by omega, by omega⟩, ⟨fun c => by omega, fun _ => ⟨fun c => absurd c (by decide), fun _ => ?_⟩⟩⟩⟩⟩
    refine gX11_readHearse hI hC hH hO (by rw [e158]; exact hg) (by rw [e3]; exact ha) ?_
    intro z M' i' k' a' p' _ _
    rw [e157, e3] at a' p'
    have b1 := rd1_b (f := M0 157) (g := eG E) (H := H) (r := r) ha
    unfold rdH at hT
    have K' : Ks kRd M0 M' := hK.tr k'
    refine ⟨fun c => ?_, fun c => ?_⟩
    · intro x17 e17 _
      have c1 : (rd1 (M0 157) (M0 156 3) (eG E) H r (M 156 2)).1 < 0 := by
        rcases p' with q | q
        · exact q.1
        · omega
      rw [if_pos c1] at hT
      subst hT
      refine ⟨⟨by omega, by omega⟩, ?_⟩
      rw [e17, a']
      exact hQ rfl M' i' K' a'
    · have c0 : 0 ≤ (rd1 (M0 157) (M0 156 3) (eG E) H r (M 156 2)).1 := by
        rcases p' with q | q
        · omega
        · exact q.1
      have C' : SC (up2 E 1 4 (H + 1)) M' 8 (adH r H (rd1 (M0 157) (M0 156 3) (eG E) H r (M 156 2)).1) := by
        rcases p' with q | q
        · omega
        · exact q.2.2
      rw [if_neg (by omega)] at hT
      unfold qX11_readLines_J74
      refine gX9_skip i' (by decide) ?_
      intro z12 M12 i12 k12 p12 _ _
      have f157 : M' 157 = M0 157 := funext fun j => K' 157 j (by omega)
      have f3 : M' 156 3 = M0 156 3 := K' 156 3 (by omega)
      rw [f157, f3, a'] at p12
      have K12 : Ks kRd M0 M12 := K'.tr (k12.mono (fun k j h => Or.inl h))
      have C12 : SC (up2 E 1 4 (H + 1)) M12 8 (adH r H (rd1 (M0 157) (M0 156 3) (eG E) H r (M 156 2)).1) := C'.fr (fun i j hi => k12 _ j (by omega))
      have h6 := b1.2.2 c0
      rcases p12 with ⟨q1, qz, qa⟩ | ⟨q1, qz, qa⟩
      · rw [if_pos q1] at hT
        rw [qz]
        exact ih _ M12 (H + 1) _ i12 K12 C12 (by rw [qa]; exact hT) (by omega) (by omega) (by omega) (by omega)
      · rw [if_neg q1] at hT
        rw [qz, qX11_readLines_L33]
        refine ⟨⟨by decide, by decide⟩, ⟨fun _ => ?_, fun c => absurd rfl c⟩⟩
        subst hT
        rw [show v2 + 1 = H + 1 - H0 from by omega]
        exact hX rfl M12 i12 K12 qa C12
theorem gX9_open {p1 : Int} {M : Mem} {Q : Mem → Prop} (hI : IX M) (hp : 0 ≤ p1 ∧ p1 ≤ 80) (hQ : ∀ M' : Mem, IX M' → Ks (fun k j => k = 156 ∧ (j = 2 ∨ j = 3)) M M' → M' 156 2 = 0 → M' 156 3 = min (M 156 1) p1 → Q M') : qX9_open p1 M Q := by
  have b1 := bx_c156_1.mp (hI.bx 156 1)
  unfold qX9_open
  intro M1 h1 x2 e2 _ x3 e3 _ M4 h4
  have i1 : IX M1 := by rw [h1]; exact hI.up (by decide) (bx_c156_2.mpr (by decide))
  have f2 : x2 = M 156 1 := by rw [e2, h1, up2_j (by decide)]
  refine hQ M4 (by rw [h4]; exact i1.up (by decide) (bx_c156_3.mpr ⟨by omega, by omega⟩)) (by rw [h4, h1]; exact (Ks.rf.wr (by omega)).wr (by omega)) (by rw [h4, up2_j (by decide), h1, up2_s]) (by rw [h4, up2_s, e3, f2])
/-- hearses told: the answer; whether they come -/
def hsT (f : Int → Int) (len g H : Int) (r : Int → Int) : Int × Int × Int × (Int → Int) := rdH f (min len 17) g 7 H r 0
abbrev hsOK (f : Int → Int) (len g H : Int) (r : Int → Int) : Prop := (hsT f len g H r).1 = 1 ∧ len ≤ (hsT f len g H r).2.1
def hsA (f : Int → Int) (len g H : Int) (r : Int → Int) : Int := if len = 0 then 0 else if hsOK f len g H r then (hsT f len g H r).2.2.1 - H else -1 - (hsT f len g H r).2.1
theorem rdH_b {f : Int → Int} {t g : Int} : ∀ (n : Nat) (H : Int) (r : Int → Int) (a : Int), (0 ≤ a ∧ a ≤ t) → (0 ≤ H ∧ H ≤ 6) → 7 ≤ H + n → (0 ≤ (rdH f t g n H r a).2.1 ∧ (rdH f t g n H r a).2.1 ≤ t) ∧ ((rdH f t g n H r a).1 = 0 ∨ (rdH f t g n H r a).1 = 1 ∧ H < (rdH f t g n H r a).2.2.1 ∧ (rdH f t g n H r a).2.2.1 ≤ 6) := by
  intro n
  induction n with
  | zero => intro H r a ha hH hn; omega
  | succ n ih =>
    intro H r a ha hH hn
    have b1 := rd1_b (f := f) (t := t) (g := g) (H := H) (r := r) ha
    unfold rdH
    split
    · exact ⟨b1.1, Or.inl rfl⟩
    · rename_i c
      have h6 := b1.2.2 (by omega)
      split
      · rename_i c2
        have i := ih (H + 1) (adH r H (rd1 f t g H r a).1) ((rd1 f t g H r a).2 + 1) (by omega) (by omega) (by omega)
        refine ⟨i.1, ?_⟩
        rcases i.2 with q | q
        · exact Or.inl q
        · exact Or.inr ⟨q.1, by omega, q.2.2⟩
      · refine ⟨b1.1, Or.inr ⟨rfl, ?_, ?_⟩⟩
        · show H < H + 1
          omega
        · show H + 1 ≤ 6
          omega
theorem gX11_hearses {M E : Mem} {r : Int → Int} {Q : Int → Mem → Prop} (hI : IX M) (hS : STR E M) (hC : SC E M 1 r) (hQ : ∀ M' : Mem, IX M' → M' 156 1 = 0 → (hsOK (M 157) (M 156 1) (eG E) (E 1 4) r ∧ M 156 1 ≠ 0 → Ks (fun k j => (1 ≤ k ∧ k ≤ 14) ∨ k = 156 ∨ (k = 163 ∧ j = 2)) M M' ∧ M' 163 2 = 0 ∧ SC (up2 E 1 4 (hsT (M 157) (M 156 1) (eG E) (E 1 4) r).2.2.1) M' 1 (hsT (M 157) (M 156 1) (eG E) (E 1 4) r).2.2.2) → (¬ (hsOK (M 157) (M 156 1) (eG E) (E 1 4) r ∧ M 156 1 ≠ 0) → Ks (fun k j => (8 ≤ k ∧ k ≤ 14) ∨ k = 156) M M') → Q (hsA (M 157) (M 156 1) (eG E) (E 1 4) r) M') : qX11_hearses M Q := by
  have bL := bx_c156_1.mp (hI.bx 156 1)
  have b4 := hS.2.2.2.2.2.2.1
  have b5 := hS.2.2.2.2.2.2.2.1
  have ef := hS.eb.f
  unfold hsA at hQ
  have CL : ∀ (z : Int) (M1 : Mem), IX M1 → iR z → (∀ M' : Mem, IX M' → M' 156 1 = 0 → Ks (fun k j => k = 156 ∧ j = 1) M1 M' → Q z M') → qX11_hearses_J19 Q z M1 := by
    intro z M1 i1 rz h
    unfold qX11_hearses_J19 qX9_clear
    intro M4 h4
    exact ⟨rz, h M4 (by rw [h4]; exact i1.up (by decide) (bx_c156_1.mpr (by decide))) (by rw [h4, up2_s]) (by rw [h4]; exact Ks.rf.wr ⟨rfl, rfl⟩)⟩
  unfold qX11_hearses qX9_isEmpty
  intro x1 e1 _
  refine ⟨fun c => ?_, fun c => ?_⟩
  · intro _ _
    refine ⟨fun _ => ?_, fun q => absurd rfl q⟩
    unfold qX11_readLines
    refine gX6_copyFrom hI (show isS 8 by decide) (show isS 1 by decide) (by decide) ?_
    intro M1 i1 k1 s1 _
    have C1 : SC E M1 8 r := s1 E r hC
    refine ⟨fun q => absurd q (by decide), fun _ => ?_⟩
    unfold qX11_readLines_J26
    refine ⟨⟨by decide, by decide⟩, ?_⟩
    refine gX9_open i1 (by decide) ?_
    intro M4 i4 k4 a4 t4
    have C4 : SC (up2 E 1 4 (E 1 4)) M4 8 r := by
      have : up2 E 1 4 (E 1 4) = E := by
        funext k j
        rw [up2_a]
        by_cases ck : k = 1
        · by_cases cj : j = 4
          · rw [if_pos ck, if_pos cj, ck, cj]
          · rw [if_pos ck, if_neg cj]
        · rw [if_neg ck]
      rw [this]
      exact C1.fr (fun i j hi => k4 _ j (by omega))
    have g157 : M4 157 = M 157 := funext fun j => by rw [k4 157 j (by omega), k1 157 j (by omega)]
    have g1 : M1 156 1 = M 156 1 := k1 156 1 (by omega)
    have g158 : M4 158 1 = M 158 1 := by rw [k4 158 1 (by omega), k1 158 1 (by omega)]
    rw [g1] at t4
    have hb := rdH_b (f := M 157) (t := min (M 156 1) 17) (g := eG E) 7 (E 1 4) r 0 (by omega) b4 (by omega)
    have hTT : rdH (M 157) (min (M 156 1) 17) (eG E) 7 (E 1 4) r 0 = hsT (M 157) (M 156 1) (eG E) (E 1 4) r := rfl
    rw [hTT] at hb
    have KK : ∀ M' : Mem, Ks kRd M4 M' → Ks (fun k j => (8 ≤ k ∧ k ≤ 14) ∨ k = 156) M M' := fun M' h => ((k1.mono (fun k j q => Or.inl q)).tr (k4.mono (fun k j q => Or.inr q.1))).tr (h.mono (by intro k j q; omega))
    refine ⟨8, gX11_readLines_L33H (M0 := M4) (H0 := E 1 4) (T := hsT (M 157) (M 156 1) (eG E) (E 1 4) r) (by omega) b4.1 (by rw [g158]; exact hS.g.1) (by omega) ?_ ?_ 7 0 M4 (E 1 4) r i4 Ks.rf C4 (by rw [g157, t4, a4]; exact hTT) (by omega) b4 (by omega) (by omega)⟩
    · intro T0 M' i' k' a' _
      refine CL _ M' i' ⟨by omega, by omega⟩ ?_
      intro M2 i2 z2 k2
      have H := hQ M2 i2 z2 (fun q => by have := q.1.1; omega) (fun _ => (KK M' k').tr (k2.mono (fun k j q => Or.inr q.1)))
      rw [if_neg (by omega), if_neg (fun q => by have := q.1; omega)] at H
      exact H
    · intro T1 M' i' k' a' c'
      have h1 : M' 156 1 = M 156 1 := by rw [k' 156 1 (by omega), k4 156 1 (by omega), g1]
      unfold qX11_readLines_J90 qX9_isWhole
      intro y1 w1 _ y2 w2 _
      refine ⟨fun d => ?_, fun d => ?_⟩
      · intro _ _
        refine ⟨fun q => absurd rfl q, fun _ => ?_⟩
        intro x25 e25 _
        refine ⟨⟨by omega, by omega⟩, ?_⟩
        intro _
        rw [e25, a']
        refine CL _ M' i' ⟨by omega, by omega⟩ ?_
        intro M2 i2 z2 k2
        have H := hQ M2 i2 z2 (fun q => by have := q.1.2; omega) (fun _ => (KK M' k').tr (k2.mono (fun k j q => Or.inr q.1)))
        rw [if_neg (by omega), if_neg (fun q => by have := q.2; omega)] at H
        exact H
      · intro _ _
        refine ⟨fun _ => ?_, fun q => absurd q (by decide)⟩
        refine gX6_copyFrom i' (show isS 1 by decide) (show isS 8 by decide) (by decide) ?_
        intro M22 i22 k22 s22 _
        unfold qX1_clear
        intro M23 h23
        have i23 : IX M23 := by rw [h23]; exact i22.up (by decide) (bx_c163_2.mpr (by decide))
        refine ⟨⟨by omega, by omega⟩, ?_⟩
        intro _
        refine CL _ M23 i23 ⟨by omega, by omega⟩ ?_
        intro M2 i2 z2 k2
        have ok : hsOK (M 157) (M 156 1) (eG E) (E 1 4) r := ⟨T1, by omega⟩
        have H := hQ M2 i2 z2 (fun _ => ⟨?_, ?_, ?_⟩) (fun q => absurd ⟨ok, by omega⟩ q)
        · rw [if_neg (by omega), if_pos ok] at H
          exact H
        · have a : Ks (fun k j => (1 ≤ k ∧ k ≤ 14) ∨ k = 156 ∨ (k = 163 ∧ j = 2)) M M' := (KK M' k').mono (by intro k j q; omega)
          have b : Ks (fun k j => (1 ≤ k ∧ k ≤ 14) ∨ k = 156 ∨ (k = 163 ∧ j = 2)) M' M23 := by
            rw [h23]
            exact (k22.mono (by intro k j q; omega)).wr (by omega)
          exact (a.tr b).tr (k2.mono (by intro k j q; omega))
        · rw [k2 163 2 (by omega), h23, up2_s]
        · refine SC.fr (M := M23) ?_ (fun i j hi => k2 _ j (by omega))
          rw [h23]
          exact (s22 _ _ c').fr (fun i j hi => by rw [up2_n (by omega)])
  · intro _ _
    refine ⟨fun q => absurd q (by decide), fun _ => ?_⟩
    refine CL 0 M hI ⟨by decide, by decide⟩ ?_
    intro M' i' z' k'
    have H := hQ M' i' z' (fun q => absurd (by omega) q.2) (fun _ => k'.mono (fun k j q => Or.inr q.1))
    rw [if_pos (by omega)] at H
    exact H
