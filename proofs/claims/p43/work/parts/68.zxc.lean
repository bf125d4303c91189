/-! THE LINE, AHEAD, PASSING -/
theorem tB_mo (r : Int → Int) (H v i : Int) : tB r H v i ≤ tB r H (v + 1) i := by
  unfold tB
  split
  · rename_i h
    rw [if_pos (by omega)]
    exact Int.le_refl _
  · split <;> omega
theorem lnL_len {r : Int → Int} {H : Nat} (hH : H ≤ 6) : ∀ c : Nat, ((lnL r H c).length : Int) ≤ sB r H c := by
  intro c
  induction c with
  | zero =>
    show ((0 : Nat) : Int) ≤ _
    have := tB_b r H ((0 : Nat) : Int)
    unfold sB
    have a0 := (this 0).1
    have a1 := (this 1).1
    have a2 := (this 2).1
    have a3 := (this 3).1
    have a4 := (this 4).1
    have a5 := (this 5).1
    omega
  | succ c ih =>
    have m0 := tB_mo r H c 0
    have m1 := tB_mo r H c 1
    have m2 := tB_mo r H c 2
    have m3 := tB_mo r H c 3
    have m4 := tB_mo r H c 4
    have m5 := tB_mo r H c 5
    rw [show ((c + 1 : Nat) : Int) = (c : Int) + 1 from by omega]
    unfold lnL
    by_cases h : 0 ≤ onF r H c
    · rw [if_pos h]
      have he : r (onF r H c) = c := onF_c h
      have hl : onF r H c < H := (onF_b r H c).2
      have t0 : tB r H c (onF r H c) = 0 := by
        unfold tB
        rw [if_neg (by omega)]
      have t1 : tB r H ((c : Int) + 1) (onF r H c) = 1 := by
        unfold tB
        rw [if_pos (by omega)]
      show (((lnL r H c).length + 1 : Nat) : Int) ≤ _
      have cs : onF r H c = 0 ∨ onF r H c = 1 ∨ onF r H c = 2 ∨ onF r H c = 3 ∨ onF r H c = 4 ∨ onF r H c = 5 := by omega
      unfold sB at ih ⊢
      rcases cs with e | e | e | e | e | e <;> rw [e] at t0 t1 <;> omega
    · rw [if_neg h]
      unfold sB at ih ⊢
      omega
theorem sB_6 (r : Int → Int) (H v : Int) : sB r H v ≤ 6 := by
  have := tB_b r H v
  unfold sB
  have a0 := (this 0).2
  have a1 := (this 1).2
  have a2 := (this 2).2
  have a3 := (this 3).2
  have a4 := (this 4).2
  have a5 := (this 5).2
  omega
def liA (E : Mem) (r : Int → Int) : Int := (lnL r (eH E) (eG E).toNat).length
theorem add1 {p1 : Int} {M : Mem} {Q : Mem → Prop} (hI : IX M) (hn : M 167 1 ≤ 7) (hQ : ∀ M' : Mem, IX M' → Ks (fun k j => k = 0 ∨ (k = 167 ∧ j = 1)) M M' → M' 167 1 = M 167 1 + 1 → Q M') : qX4_add p1 M Q := by
  have b := bx_c167_1.mp (hI.bx 167 1)
  unfold qX4_add
  intro x1 e1 _
  refine ⟨fun c => by omega, fun c => ?_⟩
  intro x3 e3 _
  refine ⟨by omega, by omega, ?_⟩
  intro M6 h6 x7 e7 _
  have f7 : x7 = M 167 1 := by rw [e7, h6, up2_n (by decide)]
  have i6 : IX M6 := by rw [h6]; exact hI.up (by decide) (by simp [BX])
  refine ⟨⟨by omega, by omega⟩, ?_⟩
  intro M9 h9
  refine hQ M9 (by rw [h9]; exact i6.up (by decide) (bx_c167_1.mpr ⟨by omega, by omega⟩)) ?_ (by rw [h9, up2_s, f7])
  rw [h9, h6]
  exact (Ks.rf.wr (Or.inl rfl)).wr (Or.inr ⟨rfl, rfl⟩)
theorem gX11_line_L17 {Q : Int → Mem → Prop} {M0 E : Mem} {r : Int → Int} {N : Int} (hS0 : STR E M0) (hC0 : SC E M0 1 r) (hW : WR E r) (hN : N ≤ 6) (hQ : ∀ M' : Mem, IX M' → Q N M') : ∀ (n : Nat) (v1 v2 : Int) (M : Mem), IX M → Ks (fun k j => k = 0 ∨ (k = 167 ∧ j = 1)) M0 M → M 167 1 = v2 → v2 + (lnL r (eH E) v1.toNat).length = N → (0 ≤ v1 ∧ v1 ≤ 30) → (0 ≤ v2 ∧ v2 ≤ 6) → 6 - v2 < (n : Int) → qX11_line_L17 Q n v1 v2 M := by
  have eb := hS0.eb
  have ef := eb.f
  have b4 := eb.2.1
  have bg := hS0.g
  intro n
  induction n with
  | zero => intro v1 v2 M hI hK ht hT h1 h2 hm; omega
  | succ n ih =>
    intro v1 v2 M hI hK ht hT h1 h2 hm
    have hS : STR E M := hS0.fr (hK _ _ (by omega)) (hK _ _ (by omega)) (hK _ _ (by omega)) (fun j => hK 159 j (by omega))
    have hC : SC E M 1 r := hC0.fr (fun i j hi => hK _ j (by omega))
    rw [qX11_line_L17]
    refine ⟨⟨by omega, by omega⟩, ⟨fun c => ?_, fun c => ⟨⟨by omega, by omega⟩, ?_⟩⟩⟩
    · intro x5 e5 _
      have := hQ M hI
      rw [show N = x5 from by omega] at this
      exact this
    · refine gX6_foremostBelow hS hC hW ?_
      intro x7 p7 _
      refine ⟨fun c2 => ⟨by omega, by omega, ?_⟩, fun c2 => ?_⟩
      · obtain ⟨z0, z1, z2, z3⟩ : (0 ≤ x7 ∧ x7 < E 1 4) ∧ 0 ≤ r x7 ∧ r x7 < v1 ∧ ∀ h, 0 ≤ h → h < E 1 4 → r h < v1 → r h ≤ r x7 := by
          rcases p7 with q | q
          · exact absurd q.1 c2
          · exact q
        intro x11 e11 _
        have f11 : x11 = r x7 := by rw [e11]; exact hC.2.2.1 x7 z0.1 (by omega)
        have hd : DST r (eH E : Nat) := by rw [ef.1]; exact hW.1
        rw [lnL_f hd ⟨z0.1, by omega⟩ z1 v1.toNat (by omega) (fun i a q w => z3 i a (by omega) (by omega))] at hT
        have hT' : v2 + (((lnL r (eH E) (r x7).toNat).length + 1 : Nat) : Int) = N := hT
        refine add1 hI (by omega) ?_
        intro M12 i12 k12 t12
        refine ih x11 (v2 + 1) M12 i12 (hK.tr k12) (by omega) ?_ (by omega) (by omega) (by omega)
        rw [f11]
        omega
      · intro x13 e13 _
        have e : lnL r (eH E) v1.toNat = [] := by
          rcases p7 with q | q
          · exact lnL_0 v1.toNat (fun i a w u => by have := q.2 i a (by omega) u; omega)
          · omega
        rw [e] at hT
        have hT' : v2 + ((0 : Nat) : Int) = N := hT
        have := hQ M hI
        rw [show N = x13 from by omega] at this
        exact this
theorem gX11_line {M E : Mem} {r : Int → Int} {Q : Int → Mem → Prop} (hI : IX M) (hS : STR E M) (hC : SC E M 1 r) (hW : WR E r) (hQ : ∀ M' : Mem, IX M' → Q (liA E r) M') : qX11_line M Q := by
  have eb := hS.eb
  have ef := eb.f
  have b4 := eb.2.1
  have bg := eb.1
  have eg : eG E = E 1 3 - 1 := rfl
  unfold qX11_line qX4_clear
  intro M1 h1 x2 e2 _
  have i1 : IX M1 := by rw [h1]; exact hI.up (by decide) (bx_c167_1.mpr (by decide))
  have k1 : Ks (fun k j => k = 167 ∧ j = 1) M M1 := by rw [h1]; exact Ks.rf.wr ⟨rfl, rfl⟩
  have S1 : STR E M1 := hS.fr (k1 _ _ (by omega)) (k1 _ _ (by omega)) (k1 _ _ (by omega)) (fun j => k1 159 j (by omega))
  have C1 : SC E M1 1 r := hC.fr (fun i j hi => k1 _ j (by omega))
  have f2 : x2 = E 1 3 := by rw [e2]; exact S1.1
  have hl : (lnL r (eH E) x2.toNat).length = (lnL r (eH E) (eG E).toNat).length := by
    have nn : ¬ 0 ≤ onF r (eH E) (eG E) := by
      intro q
      have hb := (onF_b r (eH E) (eG E)).2
      have hc := onF_c q
      have w := hW.2.1 _ q (by omega)
      omega
    rw [show x2.toNat = (eG E + 1).toNat from by omega, lnL_s (by omega), if_neg nn]
  have len := lnL_len (r := r) (H := eH E) (by omega) (eG E).toNat
  have s6 := sB_6 r (eH E : Nat) ((eG E).toNat : Nat)
  refine ⟨7, gX11_line_L17 (N := liA E r) S1 C1 hW (by unfold liA; omega) hQ 7 x2 0 M1 i1 Ks.rf (by rw [h1, up2_s]) ?_ (by omega) (by omega) (by omega)⟩
  unfold liA
  omega
theorem gX12_line_L20 {b N : Int} {Q : Int → Mem → Prop} (hN : N ≤ 6) (hQ : ∀ M' : Mem, IM b M' → Q N M') : ∀ (n : Nat) (v1 : Int) (M : Mem), IM b M → M 1 35 = N → M 1 1 = v1 → (0 ≤ v1 ∧ v1 ≤ N) → N - v1 < (n : Int) → qX12_line_L20 Q n v1 M := by
  intro n
  induction n with
  | zero => intro v1 M hI h35 h1 hv hm; omega
  | succ n ih =>
    intro v1 M hI h35 h1 hv hm
    rw [qX12_line_L20]
    intro x4 e4 _
    refine ⟨⟨by omega, by omega⟩, ⟨fun c => ?_, fun c => ⟨by omega, by omega, ?_⟩⟩⟩
    · intro x7 e7 _
      have := hQ M hI
      rw [show N = x7 from by omega] at this
      exact this
    · intro x10 _ _
      refine entC hI (by omega) ?_
      intro M11 i11 k11 t11
      exact ih (v1 + 1) M11 i11 (by rw [k11 1 35 (by omega)]; exact h35) (by omega) (by omega) (by omega)
theorem gX12_line {b : Int} {M E : Mem} {Q : Int → Mem → Prop} (hI : IM b M) (hE : CE E M) (hE0 : EBx E) (hQ : ∀ M' : Mem, IM b M' → Q (liA E (M 5)) M') : qX12_line M Q := by
  have eb := hE0.2.1
  unfold qX12_line
  intro M1 h1
  obtain ⟨i1, E1, k5, k6, _⟩ := th0 hI hE h1
  refine gX12_laysLine (k1 := 5) i1 E1 (Or.inl rfl) ?_
  intro M2 i2 f2 l2 len M3 h3
  rw [k5] at l2 len
  have i3 : IM b M3 := by rw [h3]; exact i2.up (by omega) (bm_c1_1.mpr (by decide))
  refine ⟨7, gX12_line_L20 (b := b) (N := liA E (M 5)) (by unfold liA; omega) hQ 7 0 M3 i3 ?_ (by rw [h3, up2_s]) ⟨Int.le_refl _, by unfold liA; omega⟩ (by unfold liA; omega)⟩
  rw [h3, up2_j (by decide), l2.1]
  unfold liA
  omega
noncomputable def ahA (E : Mem) (r : Int → Int) (n : Int) : Int := if 0 ≤ n ∧ n ≤ 99 then itF E n.toNat r 12 else -1
theorem gX11_ahead_L48 {p1 : Int} {Q : Int → Mem → Prop} {M0 : Mem} (h6 : M0 8 6 ≤ 6 ∧ 0 ≤ M0 8 6) (hQ : ∀ M' : Mem, IX M' → Q (M0 8 8) M') : ∀ (n : Nat) (v2 : Int) (M : Mem), IX M → Ks (fun k j => k = 0 ∨ (k = 167 ∧ j = 1)) M0 M → M 167 1 = v2 → (0 ≤ v2 ∧ v2 ≤ M0 8 6) → M0 8 6 - v2 < (n : Int) → qX11_ahead_L48 p1 Q n v2 M := by
  intro n
  induction n with
  | zero => intro v2 M hI hK ht hv hm; omega
  | succ n ih =>
    intro v2 M hI hK ht hv hm
    have g6 : M 8 6 = M0 8 6 := hK 8 6 (by omega)
    rw [qX11_ahead_L48]
    intro x7 e7 _
    refine ⟨⟨by omega, by omega⟩, ⟨fun c => ?_, fun c => ⟨by omega, by omega, ?_⟩⟩⟩
    · intro x10 e10 _
      rw [e10, hK 8 8 (by omega)]
      exact hQ M hI
    · intro x13 _ _
      refine add1 hI (by omega) ?_
      intro M14 i14 k14 t14
      exact ih (v2 + 1) M14 i14 (hK.tr k14) (by omega) (by omega) (by omega)
theorem gX11_ahead {p1 : Int} {M E : Mem} {r : Int → Int} {Q : Int → Mem → Prop} (hI : IX M) (hS : STR E M) (hL : LAW E M (M 155 16).toNat) (hw : WFC (E 11) (E 1 24)) (hC : SC E M 1 r) (hW : WR E r) (h37 : r 37 ≤ 1999999000) (hQ : ∀ M' : Mem, IX M' → Q (ahA E r p1) M') : qX11_ahead p1 M Q := by
  have el : (M 155 16).toNat = 187 ∨ (M 155 16).toNat = 192 := hI.l16
  have e4 := hS.eb.2.1
  unfold ahA at hQ
  have NO : ¬ (0 ≤ p1 ∧ p1 ≤ 99) → Q (-1) M := fun n => by have := hQ M hI; rw [if_neg n] at this; exact this
  unfold qX11_ahead
  refine ⟨fun c => NO (by omega), fun c => ⟨fun c2 => ?_, fun c2 => NO (by omega)⟩⟩
  have cp : 0 ≤ p1 ∧ p1 ≤ 99 := by omega
  rw [if_pos cp] at hQ
  refine gX6_copyFrom hI (show isS 8 by decide) (show isS 1 by decide) (by decide) ?_
  intro M3 i3 k3 s3 _
  have g16 : M3 155 16 = M 155 16 := k3 155 16 (by omega)
  have S3 : STR E M3 := hS.fr (k3 _ _ (by omega)) (k3 _ _ (by omega)) (k3 _ _ (by omega)) (fun j => k3 159 j (by omega))
  have L3 : LAW E M3 (M 155 16).toNat := hL.fr (k3 _ _ (by omega)) (k3 _ _ (by omega)) (fun j => k3 _ j (by omega)) (fun j => k3 _ j (by omega))
  refine ⟨i3.l16, ?_⟩
  rw [g16]
  refine gX10_walk i3 (show isS 8 by decide) hI.l16 S3 L3 hw (s3 E r hC) hW h37 (by omega) ?_
  intro M5 i5 k5 c5 w5
  unfold qX4_clear
  intro M6 h6
  have i6 : IX M6 := by rw [h6]; exact i5.up (by decide) (bx_c167_1.mpr (by decide))
  have g6 : M6 8 6 = E 1 4 := by rw [h6, up2_n (by decide)]; exact c5.1
  refine ⟨7, gX11_ahead_L48 (M0 := M6) (by omega) ?_ 7 0 M6 i6 Ks.rf (by rw [h6, up2_s]) (by omega) (by omega)⟩
  intro M' i'
  have := hQ M' i'
  rw [show M6 8 8 = itF E p1.toNat r 12 from by rw [h6, up2_n (by decide)]; exact c5.2.2.2.2.1]
  exact this
theorem gX12_ahead_L39 {p1 b : Int} {Q : Int → Mem → Prop} {M0 : Mem} (h6 : M0 1 4 ≤ 6 ∧ 0 ≤ M0 1 4) (hQ : ∀ M' : Mem, IM b M' → Q (M0 6 12) M') : ∀ (n : Nat) (v2 : Int) (M : Mem), IM b M → Ks (fun k j => k = 0 ∨ (k = 1 ∧ j = 1)) M0 M → M 1 1 = v2 → (0 ≤ v2 ∧ v2 ≤ M0 1 4) → M0 1 4 - v2 < (n : Int) → qX12_ahead_L39 p1 Q n v2 M := by
  intro n
  induction n with
  | zero => intro v2 M hI hK ht hv hm; omega
  | succ n ih =>
    intro v2 M hI hK ht hv hm
    have g6 : M 1 4 = M0 1 4 := hK 1 4 (by omega)
    rw [qX12_ahead_L39]
    intro x7 e7 _
    refine ⟨⟨by omega, by omega⟩, ⟨fun c => ?_, fun c => ⟨by omega, by omega, ?_⟩⟩⟩
    · intro x10 e10 _
      rw [e10, hK 6 12 (by omega)]
      exact hQ M hI
    · intro x13 _ _
      refine entC hI (by omega) ?_
      intro M14 i14 k14 t14
      exact ih (v2 + 1) M14 i14 (hK.tr k14) (by omega) (by omega) (by omega)
theorem gX12_ahead {p1 b : Int} {M E : Mem} {Q : Int → Mem → Prop} (hI : IM b M) (hE : CE E M) (hE0 : EBx E) (hb : b + 200 ≤ 2000000000) (hQ : ∀ M' : Mem, IM (b + 200) M' → Q (ahA E (cr (M 5) (M 6)) p1) M') : qX12_ahead p1 M Q := by
  have e4 := hE0.2.1
  unfold ahA at hQ
  unfold qX12_ahead
  intro M1 h1
  obtain ⟨i1, E1, k5, k6, _⟩ := th0 hI hE h1
  refine sX12_in (p0 := p1) (p2 := 0) (p4 := 99) i1 ?_
  intro z hz _ _
  refine ⟨fun c => ?_, fun c => by have := hQ M1 (i1.mono (by omega)); rw [if_neg (by have := hz.2.2 c; omega)] at this; exact this⟩
  have cp := hz.2.1 (by rcases hz.1 with q | q <;> omega)
  rw [if_pos cp] at hQ
  refine gX12_copiesC i1 ?_
  intro M4 i4 f4 g4
  rw [k5, k6] at g4
  refine gX12_goesOn (p2 := p1) i4 (E1.c6 f4) (by omega) (Or.inr rfl) (by omega) ?_
  intro M5 i5 E5 g5
  rw [g4] at g5
  intro M6 h6
  have i6 : IM (b + 200) M6 := by rw [h6]; exact i5.up (by omega) (bm_c1_1.mpr (by decide))
  have g14 : M6 1 4 = E 1 4 := by rw [h6, up2_j (by decide)]; exact E5 1 4 cE14
  refine ⟨7, gX12_ahead_L39 (b := b + 200) (M0 := M6) (by omega) ?_ 7 0 M6 i6 Ks.rf (by rw [h6, up2_s]) (by omega) (by omega)⟩
  intro M' i'
  have := hQ M' i'
  rw [show M6 6 12 = itF E p1.toNat (cr (M 5) (M 6)) 12 from by rw [h6, up2_n (by decide), g5]]
  exact this
-- passing
def ahF (r : Int → Int) (a b : Int) : Prop := (0 ≤ r a ∧ 0 ≤ r b ∧ r b < r a) ∨ (r a < 0 ∧ (0 ≤ r b ∨ r (6 + a) < r (6 + b)))
noncomputable def pvF (E : Mem) (r : Int → Int) (a b : Int) : Nat → Int → Int
  | 0, _ => -2
  | n + 1, v => @ite Int (ahF (itF E v.toNat r) a b) (Classical.propDecidable _) v (pvF E r a b n (v + 1))
abbrev paOK (E : Mem) (a b : Int) : Prop := (0 ≤ a ∧ a < E 1 4) ∧ (0 ≤ b ∧ b < E 1 4) ∧ a ≠ b
noncomputable def pvA (E : Mem) (r : Int → Int) (a b : Int) : Int := if ¬ paOK E a b then -1 else if r a < 0 ∨ r b < 0 ∨ r b < r a then -2 else pvF E r a b 60 1
theorem gX6_isAheadOf {k0 : Nat} {p1 p2 : Int} {M E : Mem} {r : Int → Int} {Q : Int → Mem → Prop} (hE : EBx E) (hC : SC E M k0 r) (hW : WR E r) (h1 : 0 ≤ p1 ∧ p1 < E 1 4) (h2 : 0 ≤ p2 ∧ p2 < E 1 4) (hQ : ∀ z : Int, (z = 1 ∧ ahF r p1 p2 ∨ z = 0 ∧ ¬ ahF r p1 p2) → Q z M) : qX6_isAheadOf k0 p1 p2 M Q := by
  have e4 := hE.2.1
  have w1 := hW.2.1 p1 h1.1 h1.2
  have w2 := hW.2.1 p2 h2.1 h2.2
  have a1 : M (k0 + 1) p1 = r p1 := hC.2.2.1 p1 h1.1 (by omega)
  have a2 : M (k0 + 1) p2 = r p2 := hC.2.2.1 p2 h2.1 (by omega)
  have c1 : M (k0 + 2) p1 = r (6 + p1) := hC.2.2.2.1 p1 h1.1 (by omega)
  have c2 : M (k0 + 2) p2 = r (6 + p2) := hC.2.2.2.1 p2 h2.1 (by omega)
  unfold ahF at hQ
  unfold qX6_isAheadOf
  refine gX6_hasArrived (by omega) ?_
  intro x1 q1 _ _
  rw [c1] at q1
  refine ⟨fun d => ?_, fun d => ?_⟩
  · refine gX6_hasArrived (by omega) ?_
    intro x3 q3 _ _
    rw [c2] at q3
    refine ⟨fun d2 => hQ 0 (Or.inr ⟨rfl, by omega⟩), fun d2 => ⟨by omega, by omega, ?_⟩⟩
    intro x7 e7 _
    refine ⟨by omega, by omega, ?_⟩
    intro x10 e10 _
    exact ⟨fun d3 => hQ 0 (Or.inr ⟨rfl, by omega⟩), fun d3 => hQ 1 (Or.inl ⟨rfl, by omega⟩)⟩
  · refine gX6_hasArrived (by omega) ?_
    intro x3 q3 _ _
    rw [c2] at q3
    refine ⟨fun d2 => hQ 1 (Or.inl ⟨rfl, by omega⟩), fun d2 => ⟨by omega, by omega, ?_⟩⟩
    intro x7 e7 _
    refine ⟨by omega, by omega, ?_⟩
    intro x10 e10 _
    exact ⟨fun d3 => hQ 0 (Or.inr ⟨rfl, by omega⟩), fun d3 => hQ 1 (Or.inl ⟨rfl, by omega⟩)⟩
theorem gX12_isAhead {k0 : Nat} {p1 p2 : Int} {M : Mem} {Q : Int → Mem → Prop} (h1 : 0 ≤ p1 ∧ p1 ≤ 5) (h2 : 0 ≤ p2 ∧ p2 ≤ 5) (hQ : ∀ z : Int, (z = 1 ∧ ahF (M k0) p1 p2 ∨ z = 0 ∧ ¬ ahF (M k0) p1 p2) → Q z M) : qX12_isAhead k0 p1 p2 M Q := by
  unfold ahF at hQ
  unfold qX12_isAhead
  refine gX12_isOn (by omega) ?_
  intro x1 q1 _ _
  refine ⟨fun d => ?_, fun d => ?_⟩
  · refine gX12_isOn (by omega) ?_
    intro x3 q3 _ _
    refine ⟨fun d2 => hQ 1 (Or.inl ⟨rfl, by omega⟩), fun d2 => ⟨by omega, by omega, ?_⟩⟩
    intro x7 e7 _
    refine ⟨by omega, by omega, ?_⟩
    intro x10 e10 _
    exact ⟨fun d3 => hQ 0 (Or.inr ⟨rfl, by omega⟩), fun d3 => hQ 1 (Or.inl ⟨rfl, by omega⟩)⟩
  · refine gX12_isOn (by omega) ?_
    intro x3 q3 _ _
    refine ⟨fun d2 => hQ 0 (Or.inr ⟨rfl, by omega⟩), fun d2 => ⟨by omega, by omega, ?_⟩⟩
    intro x7 e7 _
    refine ⟨by omega, by omega, ?_⟩
    intro x10 e10 _
    exact ⟨fun d3 => hQ 0 (Or.inr ⟨rfl, by omega⟩), fun d3 => hQ 1 (Or.inl ⟨rfl, by omega⟩)⟩
theorem gX11_passes_L88 {p1 p2 T : Int} {X121 : Int → Mem → Prop} {Q : Int → Mem → Prop} {M0 E : Mem} {r : Int → Int} (h1 : 0 ≤ p1 ∧ p1 < E 1 4) (h2 : 0 ≤ p2 ∧ p2 < E 1 4) (hI0 : IX M0) (hS0 : STR E M0) (hL0 : LAW E M0 (M0 155 16).toNat) (hw : WFC (E 11) (E 1 24)) (hW : WR E r) (h37 : r 37 ≤ 1999999000) (hX : ∀ (v : Int) (M' : Mem), IX M' → (1 ≤ v ∧ v ≤ 60) → T = v → X121 v M') (hQ : T = -2 → ∀ M' : Mem, IX M' → Q (-2) M') : ∀ (n : Nat) (v3 : Int) (M : Mem), IX M → Ks (kAd 8 (M0 155 16).toNat) M0 M → SC E M 8 (itF E (v3 - 1).toNat r) → pvF E r p1 p2 n v3 = T → (1 ≤ v3 ∧ v3 + n = 61) → qX11_passes_L88 p1 p2 X121 Q (n + 1) v3 M := by
  intro n
  induction n with
  | zero =>
    intro v3 M hI hK hC hT hv
    rw [qX11_passes_L88]
    exact ⟨⟨by omega, by omega⟩, ⟨fun _ => hQ hT.symm M hI, fun c => by omega⟩⟩
  | succ n ih =>
    intro v3 M hI hK hC hT hv
    have W := WR.it hS0.eb hW (v3 - 1).toNat
    rw [qX11_passes_L88]
    unfold pvF at hT
    refine ⟨⟨by omega, by omega⟩, ⟨fun c => by omega, fun c => ?_⟩⟩
    refine adv8 hI hI0 hS0 hL0 hw hK hC W (by rw [itF_37 hS0.eb]; omega) ?_
    intro M9 i9 k9 c9 w9
    have e9 : stF E (itF E (v3 - 1).toNat r) = itF E v3.toNat r := by
      rw [← itF_s (by omega), show v3 - 1 + 1 = v3 from by omega]
    rw [e9] at c9 w9
    refine gX6_isAheadOf hS0.eb c9 w9 h1 h2 ?_
    intro x22 q22 _ _
    refine ⟨fun d => ?_, fun d => ?_⟩
    · rw [if_neg (by rcases q22 with q | q; omega; exact q.2)] at hT
      refine ih (v3 + 1) M9 i9 k9 ?_ hT (by omega)
      rw [show v3 + 1 - 1 = v3 from by omega]
      exact c9
    · rw [if_pos (by rcases q22 with q | q; exact q.2; omega)] at hT
      exact hX v3 M9 i9 (by omega) hT.symm
theorem gX11_passes {p1 p2 : Int} {M E : Mem} {r : Int → Int} {Q : Int → Mem → Prop} (hI : IX M) (hS : STR E M) (hL : LAW E M (M 155 16).toNat) (hw : WFC (E 11) (E 1 24)) (hC : SC E M 1 r) (hW : WR E r) (h37 : r 37 ≤ 1999999000) (hQ : ∀ M' : Mem, IX M' → Q (pvA E r p1 p2) M') : qX11_passes p1 p2 M Q := by
  have el : (M 155 16).toNat = 187 ∨ (M 155 16).toNat = 192 := hI.l16
  have e4 := hS.eb.2.1
  unfold pvA at hQ
  have NO : ¬ paOK E p1 p2 → Q (-1) M := fun n => by have := hQ M hI; rw [if_pos n] at this; exact this
  unfold qX11_passes
  refine gX6_isHearse hC ?_
  intro x1 q1 _ _
  refine ⟨fun c => NO (fun u => by have := u.1; omega), fun c => ?_⟩
  refine gX6_isHearse hC ?_
  intro x3 q3 _ _
  refine ⟨fun c2 => NO (fun u => by have := u.2.1; omega), fun c2 => ⟨fun c3 => ?_, fun c3 => NO (fun u => u.2.2 c3)⟩⟩
  have h1 : 0 ≤ p1 ∧ p1 < E 1 4 := by omega
  have h2 : 0 ≤ p2 ∧ p2 < E 1 4 := by omega
  have ok : paOK E p1 p2 := ⟨h1, h2, c3⟩
  have w1 := hW.2.1 p1 h1.1 h1.2
  have w2 := hW.2.1 p2 h2.1 h2.2
  have b1 : M (1 + 2) p1 = r (6 + p1) := hC.2.2.2.1 p1 h1.1 (by omega)
  have b2 : M (1 + 2) p2 = r (6 + p2) := hC.2.2.2.1 p2 h2.1 (by omega)
  rw [if_neg (fun u => u ok)] at hQ
  have N2 : (r p1 < 0 ∨ r p2 < 0 ∨ r p2 < r p1) → Q (-2) M := fun n => by have := hQ M hI; rw [if_pos n] at this; exact this
  refine gX6_hasArrived (by omega) ?_
  intro x6 q6 _ _
  rw [b1] at q6
  refine ⟨fun d => N2 (by omega), fun d => ?_⟩
  refine gX6_hasArrived (by omega) ?_
  intro x8 q8 _ _
  rw [b2] at q8
  refine ⟨fun d2 => N2 (by omega), fun d2 => ⟨by omega, by omega, ?_⟩⟩
  intro x12 e12 _
  have f12 : x12 = r p1 := by rw [e12]; exact hC.2.2.1 p1 h1.1 (by omega)
  refine ⟨by omega, by omega, ?_⟩
  intro x15 e15 _
  have f15 : x15 = r p2 := by rw [e15]; exact hC.2.2.1 p2 h2.1 (by omega)
  refine ⟨fun d3 => ?_, fun d3 => N2 (by omega)⟩
  rw [if_neg (by omega)] at hQ
  refine gX6_copyFrom hI (show isS 8 by decide) (show isS 1 by decide) (by decide) ?_
  intro M3 i3 k3 s3 _
  have g16 : M3 155 16 = M 155 16 := k3 155 16 (by omega)
  have S3 : STR E M3 := hS.fr (k3 _ _ (by omega)) (k3 _ _ (by omega)) (k3 _ _ (by omega)) (fun j => k3 159 j (by omega))
  have L3 : LAW E M3 (M3 155 16).toNat := by rw [g16]; exact hL.fr (k3 _ _ (by omega)) (k3 _ _ (by omega)) (fun j => k3 _ j (by omega)) (fun j => k3 _ j (by omega))
  refine ⟨61, gX11_passes_L88 (E := E) (r := r) (M0 := M3) (T := pvF E r p1 p2 60 1) h1 h2 i3 S3 L3 hw hW h37 ?_ (fun e M' i' => by have := hQ M' i'; rw [e] at this; exact this) 60 1 M3 i3 Ks.rf (s3 E r hC) rfl (by omega)⟩
  intro v M' i' hv hT
  refine ⟨by omega, by omega, ?_⟩
  intro x27 _ _
  refine tell1 i' ?_
  intro M28 i28 _
  have := hQ M28 i28
  rw [hT] at this
  exact ⟨⟨by omega, by omega⟩, this⟩
theorem gX12_passes_L71 {p1 p2 b T : Int} {X97 : Int → Mem → Prop} {Q : Int → Mem → Prop} {E : Mem} {r : Int → Int} (h1 : 0 ≤ p1 ∧ p1 ≤ 5) (h2 : 0 ≤ p2 ∧ p2 ≤ 5) (hb : b + 61 ≤ 2000000000) (hX : ∀ (v : Int) (M' : Mem), IM (b + 61) M' → (1 ≤ v ∧ v ≤ 60) → T = v → X97 v M') (hQ : T = -2 → ∀ M' : Mem, IM (b + 61) M' → Q (-2) M') : ∀ (n : Nat) (v3 : Int) (M : Mem), IM (b + v3) M → CE E M → M 6 = itF E (v3 - 1).toNat r → pvF E r p1 p2 n v3 = T → (1 ≤ v3 ∧ v3 + n = 61) → qX12_passes_L71 p1 p2 X97 Q (n + 1) v3 M := by
  intro n
  induction n with
  | zero =>
    intro v3 M hI hE h6 hT hv
    rw [qX12_passes_L71]
    exact ⟨⟨by omega, by omega⟩, ⟨fun _ => hQ hT.symm M (hI.mono (by omega)), fun c => by omega⟩⟩
  | succ n ih =>
    intro v3 M hI hE h6 hT hv
    rw [qX12_passes_L71]
    unfold pvF at hT
    refine ⟨⟨by omega, by omega⟩, ⟨fun c => by omega, fun c => ?_⟩⟩
    refine gX12_stepGoes hI hE (by omega) (Or.inr rfl) ?_
    intro M' i' E' k'
    have e9 : M' 6 = itF E v3.toNat r := by
      rw [k', h6, ← itF_s (by omega), show v3 - 1 + 1 = v3 from by omega]
    refine gX12_isAhead h1 h2 ?_
    intro x17 q17 _ _
    rw [e9] at q17
    refine ⟨fun d => ?_, fun d => ?_⟩
    · rw [if_neg (by rcases q17 with q | q; omega; exact q.2)] at hT
      refine ih (v3 + 1) M' (i'.mono (by omega)) E' ?_ hT (by omega)
      rw [show v3 + 1 - 1 = v3 from by omega]
      exact e9
    · rw [if_pos (by rcases q17 with q | q; exact q.2; omega)] at hT
      exact hX v3 M' (i'.mono (by omega)) (by omega) hT.symm
theorem gX12_passes {p1 p2 b : Int} {M E : Mem} {Q : Int → Mem → Prop} (hI : IM b M) (hE : CE E M) (hE0 : EBx E) (hb : b + 100 ≤ 2000000000) (hQ : ∀ M' : Mem, IM (b + 100) M' → Q (pvA E (cr (M 5) (M 6)) p1 p2) M') : qX12_passes p1 p2 M Q := by
  have e4 := hE0.2.1
  unfold pvA at hQ
  unfold qX12_passes
  intro M1 h1'
  obtain ⟨i1, E1, k5, k6, _⟩ := th0 hI hE h1'
  have NO : ¬ paOK E p1 p2 → Q (-1) M1 := fun n => by have := hQ M1 (i1.mono (by omega)); rw [if_pos n] at this; exact this
  refine gX12_isHearse i1 E1 ?_
  intro x1 q1 _ _
  refine ⟨fun c => NO (fun u => by have := u.1; omega), fun c => ?_⟩
  refine gX12_isHearse i1 E1 ?_
  intro x3 q3 _ _
  refine ⟨fun c2 => NO (fun u => by have := u.2.1; omega), fun c2 => ⟨fun c3 => ?_, fun c3 => NO (fun u => u.2.2 c3)⟩⟩
  have h1 : 0 ≤ p1 ∧ p1 < E 1 4 := by omega
  have h2 : 0 ≤ p2 ∧ p2 < E 1 4 := by omega
  have ok : paOK E p1 p2 := ⟨h1, h2, c3⟩
  rw [if_neg (fun u => u ok), cr_i (f := M 5) (g := M 6) (j := p1) (by omega) (by omega), cr_i (f := M 5) (g := M 6) (j := p2) (by omega) (by omega), ← k5] at hQ
  have N2 : (M1 5 p1 < 0 ∨ M1 5 p2 < 0 ∨ M1 5 p2 < M1 5 p1) → Q (-2) M1 := fun n => by have := hQ M1 (i1.mono (by omega)); rw [if_pos n] at this; exact this
  refine gX12_isOn (by omega) ?_
  intro x7 q7 _ _
  refine ⟨fun d => N2 (by omega), fun d => ?_⟩
  refine gX12_isOn (by omega) ?_
  intro x9 q9 _ _
  refine ⟨fun d2 => N2 (by omega), fun d2 => ?_⟩
  refine gX12_isAhead ⟨by omega, by omega⟩ ⟨by omega, by omega⟩ ?_
  intro x11 q11 _ _
  unfold ahF at q11
  refine ⟨fun d3 => ?_, fun d3 => N2 (by omega)⟩
  rw [if_neg (by omega)] at hQ
  refine gX12_copiesC i1 ?_
  intro M4 i4 f4 g4
  rw [k6] at g4
  refine ⟨61, gX12_passes_L71 (b := b) (E := E) (r := cr (M1 5) (M 6)) (T := pvF E (cr (M1 5) (M 6)) p1 p2 60 1) ⟨h1.1, by omega⟩ ⟨h2.1, by omega⟩ (by omega) ?_ (fun e M' i' => by have := hQ M' (i'.mono (by omega)); rw [e] at this; exact this) 60 1 M4 (i4.mono (by omega)) (E1.c6 f4) g4 rfl (by omega)⟩
  intro v M' i' hv hT M20 h20
  have i20 : IM (b + 61) M20 := by rw [h20]; exact i'.up (by omega) (bm_c1_1.mpr (by decide))
  have t20 : M20 1 1 = 0 := by rw [h20, up2_s]
  refine ⟨by omega, by omega, ?_⟩
  intro x23 _ _
  refine entC i20 (by omega) ?_
  intro M24 i24 _ _
  have := hQ M24 (i24.mono (by omega))
  rw [hT] at this
  exact ⟨⟨by omega, by omega⟩, this⟩
