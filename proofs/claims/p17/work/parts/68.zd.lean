/-! READING HEARSES, the reference -/
def cbH (c : Int → Int) (r0 : Int → Int) (H0 : Int) : Nat → Int → Int
  | 0 => r0
  | i + 1 => adH (cbH c r0 H0 i) (H0 + i) (c i)
theorem cbH_s {c r0 : Int → Int} {H0 i : Int} (h : 0 ≤ i) : cbH c r0 H0 (i + 1).toNat = adH (cbH c r0 H0 i.toNat) (H0 + i) (c i) := by
  rw [show (i + 1).toNat = i.toNat + 1 from by omega]
  show adH (cbH c r0 H0 i.toNat) (H0 + (i.toNat : Nat)) (c (i.toNat : Nat)) = _
  rw [show ((i.toNat : Nat) : Int) = i from by omega]
theorem cbH_cg {c d r0 : Int → Int} {H0 : Int} : ∀ n : Nat, (∀ i : Int, 0 ≤ i → i < n → c i = d i) → cbH c r0 H0 n = cbH d r0 H0 n := by
  intro n
  induction n with
  | zero => intro _; rfl
  | succ n ih =>
    intro h
    unfold cbH
    rw [ih (fun i a q => h i a (by omega)), h n (by omega) (by omega)]
theorem onF_ad {r : Int → Int} {H v w : Int} (hH : 0 ≤ H ∧ H ≤ 5) : onF (adH r H w) (H + 1).toNat v = if w = v then H else onF r H.toNat v := by
  rw [onF_s hH.1]
  have e : adH r H w H = w := by unfold adH; rw [up_j (by omega), upS]
  rw [e, onF_cg (c := adH r H w) (d := r) (fun i a q => by unfold adH; rw [up_j (by omega), up_j (by omega)])]
theorem onF_cb {c r0 : Int → Int} {H0 v : Int} (h0 : 0 ≤ H0) : ∀ m : Nat, H0 + m ≤ 6 → (onF (cbH c r0 H0 m) (H0 + m).toNat v < 0 ↔ onF r0 H0.toNat v < 0 ∧ ∀ i : Int, 0 ≤ i → i < m → c i ≠ v) := by
  intro m
  induction m with
  | zero =>
    intro _
    rw [show H0 + ((0 : Nat) : Int) = H0 from by omega]
    exact ⟨fun h => ⟨h, fun i a q => by omega⟩, fun h => h.1⟩
  | succ m ih =>
    intro hm
    have i := ih (by omega)
    unfold cbH
    rw [show H0 + ((m + 1 : Nat) : Int) = H0 + m + 1 from by omega, onF_ad (by omega)]
    by_cases e : c m = v
    · rw [if_pos e]
      exact ⟨fun h => by omega, fun h => absurd e (h.2 m (by omega) (by omega))⟩
    · rw [if_neg e, i]
      refine ⟨fun h => ⟨h.1, fun j a q => ?_⟩, fun h => ⟨h.1, fun j a q => h.2 j a (by omega)⟩⟩
      by_cases cj : j = m
      · rw [cj]; exact e
      · exact h.2 j a (by omega)
theorem gX12_readsCell_L45 {b v2 : Int} {X85 : Int → Int → Mem → Prop} {Q : Int → Mem → Prop} {M : Mem} (hv2 : iR v2) (hm : 0 ≤ M 1 20 ∧ M 1 20 ≤ 8) {P : Prop} (hX : ∀ v3 : Int, (v3 = 0 ∨ v3 = 1) → (v3 = 1 ↔ P ∧ ∀ i, 0 ≤ i → i < M 1 20 → M 9 i ≠ v2) → X85 v2 v3 M) : ∀ (n : Nat) (v3 v4 : Int), (v3 = 0 ∨ v3 = 1) → (v3 = 1 ↔ P ∧ ∀ i, 0 ≤ i → i < v4 → M 9 i ≠ v2) → (0 ≤ v4 ∧ v4 ≤ M 1 20) → M 1 20 - v4 < (n : Int) → qX12_readsCell_L45 1 X85 Q n v2 v3 v4 M := by
  intro n
  induction n with
  | zero => intro v3 v4 h3 hp hv hm'; exact absurd hm' (by omega)
  | succ n ih =>
    intro v3 v4 h3 hp hv hm'
    rw [qX12_readsCell_L45]
    intro x5 e5 _
    refine ⟨⟨by omega, by omega⟩, ⟨fun c => hX v3 h3 (by rw [show M 1 20 = v4 from by omega]; exact hp), fun c => ⟨fun c2 => absurd c2 (by decide), fun _ => ⟨by rcases h3 with q | q <;> rw [q] <;> exact ⟨by decide, by decide⟩, ⟨fun c3 => ?_, fun c3 => ⟨by omega, by omega, ?_⟩⟩⟩⟩⟩⟩
    · refine ih 0 (v4 + 1) (Or.inl rfl) ⟨fun q => absurd q (by decide), fun q => ?_⟩ (by omega) (by omega)
      exfalso
      have := hp.mpr ⟨q.1, fun i a w => q.2 i a (by omega)⟩
      omega
    · intro x13 e13 _
      refine ⟨hv2, ⟨fun c4 => ?_, fun c4 => ?_⟩⟩
      · refine ih 0 (v4 + 1) (Or.inl rfl) ⟨fun q => absurd q (by decide), fun q => ?_⟩ (by omega) (by omega)
        exact absurd (by rw [← e13]; exact c4) (q.2 v4 hv.1 (by omega))
      · have p1 := hp.mp (by omega)
        refine ih 1 (v4 + 1) (Or.inr rfl) ⟨fun _ => ⟨p1.1, fun i a q => ?_⟩, fun _ => rfl⟩ (by omega) (by omega)
        by_cases ci : i = v4
        · rw [ci, ← e13]; exact c4
        · exact p1.2 i a (by omega)
theorem gX12_readsCell1 {b : Int} {M E : Mem} {Q : Int → Mem → Prop} (hI : IM b M) (hE : CE E M) (hm : E 1 4 + M 1 20 ≤ 5) (ha : M 1 15 ≤ M 1 16) (hQ : ∀ (z : Int) (M' : Mem), IM b M' → FrJ (fun k j => k = 1 ∧ j = 15) M M' → M' 1 15 = (rd1 (M 7) (M 1 16) (eG E) (E 1 4 + M 1 20) (cbH (M 9) (M 5) (E 1 4) (M 1 20).toNat) (M 1 15)).2 → z = (rd1 (M 7) (M 1 16) (eG E) (E 1 4 + M 1 20) (cbH (M 9) (M 5) (E 1 4) (M 1 20).toNat) (M 1 15)).1 → Q z M') : qX12_readsCell 1 M Q := by
  have e4 : M 1 4 = E 1 4 := hE 1 4 cE14
  have b4 := bm_c1_4.mp (hI.bx 1 4)
  have b20 := bm_c1_20.mp (hI.bx 1 20)
  have b15 := bm_c1_15.mp (hI.bx 1 15)
  have bn := nuZ_b (f := M 7) (t := M 1 16) (a := M 1 15)
  unfold rd1 at hQ
  rw [if_neg (by omega)] at hQ
  unfold qX12_readsCell
  refine gX12_number (p1 := 2) hI (by decide) ?_
  intro z1 M1 i1 f1 n1 r1
  obtain ⟨ez, ea⟩ := NUM.fn (p := 2) (by omega) n1
  have E1 : CE E M1 := hE.fr f1 (by intro k j h; rcases h with h | h | h | h | h <;> omega)
  have g20 : M1 1 20 = M 1 20 := f1 1 20 (by omega)
  have g9 : M1 9 = M 9 := funext fun j => f1 9 j (by omega)
  have g5 : M1 5 = M 5 := funext fun j => f1 5 j (by omega)
  have on := onF_cb (c := M 9) (r0 := M 5) (H0 := E 1 4) (v := z1) (by omega) (M 1 20).toNat (by omega)
  rw [show E 1 4 + (((M 1 20).toNat : Nat) : Int) = E 1 4 + M 1 20 from by omega] at on
  refine ⟨fun c => ?_, fun c => ?_⟩
  · rw [if_neg (by omega)] at hQ
    have J99 : ∀ v3 t0 : Int, (v3 = 0 ∧ t0 = 1 ∨ v3 = 1 ∧ t0 = 0) → (v3 = 1 ↔ (z1 < eG E ∧ onF (M 5) (E 1 4).toNat z1 < 0) ∧ ∀ i, 0 ≤ i → i < M 1 20 → M 9 i ≠ z1) → qX12_readsCell_J99 1 Q z1 v3 t0 (M1 1 15) M1 := by
      intro v3 t0 ht hv
      unfold qX12_readsCell_J99
      refine ⟨⟨by omega, by omega⟩, ?_⟩
      refine gX12_flag (p0 := t0) i1 ?_
      intro _
      have bb := bn.2.1 (by omega)
      have bt := bn.2.2.1 ha
      have b16 := bm_c1_16.mp (hI.bx 1 16)
      rcases ht with ⟨q1, q2⟩ | ⟨q1, q2⟩
      · rw [if_neg (by omega)]
        refine ⟨⟨by omega, by omega⟩, ?_⟩
        intro M23 h23
        refine ⟨⟨by omega, by omega⟩, ⟨fun _ => ?_, fun c3 => absurd q1 c3⟩⟩
        have bad : eG E ≤ nuZ (M 7) (M 1 16) 2 (M 1 15) ∨ 0 ≤ onF (cbH (M 9) (M 5) (E 1 4) (M 1 20).toNat) (E 1 4 + M 1 20).toNat (nuZ (M 7) (M 1 16) 2 (M 1 15)) := by
          rw [← ez]
          by_cases d : eG E ≤ z1
          · exact Or.inl d
          · refine Or.inr ?_
            rcases Int.lt_or_le (onF (cbH (M 9) (M 5) (E 1 4) (M 1 20).toNat) (E 1 4 + M 1 20).toNat z1) 0 with w | w
            · exfalso
              have u := on.mp w
              have := hv.mpr ⟨⟨by omega, u.1⟩, fun i a q => u.2 i a (by omega)⟩
              omega
            · exact w
        rw [if_pos bad] at hQ
        refine hQ _ M23 (by rw [h23]; exact i1.up (by omega) (bm_c1_15.mpr ⟨by omega, by omega⟩)) (by rw [h23]; exact f1.up ⟨rfl, rfl⟩) ?_ rfl
        rw [h23, up2_s, ea]
      · rw [if_pos q2]
        refine ⟨⟨by omega, by omega⟩, ?_⟩
        intro M23 h23
        refine ⟨⟨by omega, by omega⟩, ⟨fun c3 => by omega, fun c3 => ⟨r1, ?_⟩⟩⟩
        have u := hv.mp q1
        have good : ¬ (eG E ≤ nuZ (M 7) (M 1 16) 2 (M 1 15) ∨ 0 ≤ onF (cbH (M 9) (M 5) (E 1 4) (M 1 20).toNat) (E 1 4 + M 1 20).toNat (nuZ (M 7) (M 1 16) 2 (M 1 15))) := by
          rw [← ez]
          intro w
          have := on.mpr ⟨u.1.2, fun i a q => u.2 i a (by omega)⟩
          omega
        rw [if_neg good] at hQ
        refine hQ _ M23 (by rw [h23]; exact i1.up (by omega) (bm_c1_15.mpr ⟨by omega, by omega⟩)) (by rw [h23]; exact f1.up ⟨rfl, rfl⟩) ?_ ez
        rw [h23, up2_s, ea, Int.sub_zero]
    have J85 : ∀ v3 : Int, (v3 = 0 ∨ v3 = 1) → (v3 = 1 ↔ (z1 < eG E ∧ onF (M 5) (E 1 4).toNat z1 < 0) ∧ ∀ i, 0 ≤ i → i < M1 1 20 → M1 9 i ≠ z1) → qX12_readsCell_J85 1 Q z1 v3 M1 := by
      intro v3 h3 hv
      rw [g20, g9] at hv
      unfold qX12_readsCell_J85
      intro x17 e17 _
      rw [e17]
      refine ⟨⟨by omega, by omega⟩, ⟨fun d => J99 _ _ (Or.inr ⟨by omega, rfl⟩) hv, fun d => J99 _ _ (Or.inl ⟨d, rfl⟩) hv⟩⟩
    have L : ∀ v3 : Int, (v3 = 0 ∨ v3 = 1) → (v3 = 1 ↔ (z1 < eG E ∧ onF (M 5) (E 1 4).toNat z1 < 0)) → qX12_readsCell_L45 1 (fun v2 v3 M => qX12_readsCell_J85 1 Q v2 v3 M) Q 9 z1 v3 0 M1 := by
      intro v3 h3 hv
      refine gX12_readsCell_L45 (b := b) (P := z1 < eG E ∧ onF (M 5) (E 1 4).toNat z1 < 0) r1 (by omega) (fun v h h' => J85 v h h') _ _ _ h3 ⟨fun q => ⟨hv.mp q, fun i a w => by omega⟩, fun q => hv.mpr q.1⟩ (by omega) (by omega)
    refine gX12_gate i1 E1 ?_
    intro _
    refine ⟨fun d => ⟨9, L 0 (Or.inl rfl) ⟨fun q => absurd q (by decide), fun q => by omega⟩⟩, fun d => ⟨fun q => absurd q (by decide), fun _ => ?_⟩⟩
    refine gX12_onCell i1 E1 ?_
    intro _
    rw [g5, show eH E = (E 1 4).toNat from rfl]
    refine ⟨fun d2 => ⟨9, L 0 (Or.inl rfl) ⟨fun q => absurd q (by decide), fun q => by omega⟩⟩, fun d2 => ⟨9, L 1 (Or.inr rfl) ⟨fun _ => ⟨by omega, by omega⟩, fun _ => rfl⟩⟩⟩
  · rw [if_pos (by omega)] at hQ
    have := bn.2.2.2 (by omega)
    refine hQ _ M1 i1 f1 ?_ rfl
    show M1 1 15 = M 1 15
    omega
abbrev kRm (k : Nat) (j : Int) : Prop := k = 9 ∨ (k = 1 ∧ (j = 15 ∨ j = 20))
theorem gX12_readsHearse {b : Int} {M E : Mem} {Q : Int → Mem → Prop} (hI : IM b M) (hE : CE E M) (hm : E 1 4 + M 1 20 ≤ 6) (ha : M 1 15 ≤ M 1 16) (hQ : ∀ (z : Int) (M' : Mem), IM b M' → FrJ kRm M M' → M' 1 15 = (rd1 (M 7) (M 1 16) (eG E) (E 1 4 + M 1 20) (cbH (M 9) (M 5) (E 1 4) (M 1 20).toNat) (M 1 15)).2 → ((rd1 (M 7) (M 1 16) (eG E) (E 1 4 + M 1 20) (cbH (M 9) (M 5) (E 1 4) (M 1 20).toNat) (M 1 15)).1 < 0 ∧ z = 0 ∨ 0 ≤ (rd1 (M 7) (M 1 16) (eG E) (E 1 4 + M 1 20) (cbH (M 9) (M 5) (E 1 4) (M 1 20).toNat) (M 1 15)).1 ∧ z = 1 ∧ M' 1 20 = M 1 20 + 1 ∧ (∀ j, 0 ≤ j → j < M 1 20 → M' 9 j = M 9 j) ∧ M' 9 (M 1 20) = (rd1 (M 7) (M 1 16) (eG E) (E 1 4 + M 1 20) (cbH (M 9) (M 5) (E 1 4) (M 1 20).toNat) (M 1 15)).1) → Q z M') : qX12_readsHearse M Q := by
  have e4 : M 1 4 = E 1 4 := hE 1 4 cE14
  have b4 := bm_c1_4.mp (hI.bx 1 4)
  have b20 := bm_c1_20.mp (hI.bx 1 20)
  have b15 := bm_c1_15.mp (hI.bx 1 15)
  have bg := hE.g hI
  have rb := rd1_b (f := M 7) (t := M 1 16) (g := eG E) (H := E 1 4 + M 1 20) (r := cbH (M 9) (M 5) (E 1 4) (M 1 20).toNat) (a := M 1 15) ⟨b15.1, ha⟩
  unfold qX12_readsHearse
  intro x1 e1 _ x2 e2 _
  refine ⟨⟨by omega, by omega⟩, ⟨fun c => ?_, fun c => ?_⟩⟩
  · refine gX12_readsCell1 hI hE (by omega) ha ?_
    intro z5 M5 i5 f5 a5 ez _ x6 e6 _
    have f6 : x6 = M 1 20 := by rw [e6]; exact f5 1 20 (by omega)
    refine ⟨by omega, by omega, ?_⟩
    intro M9 h9 x10 e10 _
    have i9 : IM b M9 := by rw [h9]; exact i5.up (by omega) (bm_c9.mpr ⟨by omega, by omega⟩)
    have f10 : x10 = M 1 20 := by rw [e10, h9, up2_n (by decide)]; exact f5 1 20 (by omega)
    refine ⟨⟨by omega, by omega⟩, ?_⟩
    intro M12 h12
    have i12 : IM b M12 := by rw [h12]; exact i9.up (by omega) (bm_c1_20.mpr ⟨by omega, by omega⟩)
    have F12 : FrJ kRm M M12 := by
      rw [h12, h9]
      exact ((f5.mono (by intro k j h; omega)).up (Or.inl rfl)).up (Or.inr ⟨rfl, Or.inr rfl⟩)
    have a12 : M12 1 15 = M5 1 15 := by rw [h12, up2_j (by decide), h9, up2_n (by decide)]
    refine ⟨fun d => ?_, fun d => ?_⟩
    · exact hQ 0 M12 i12 F12 (by rw [a12, a5]) (Or.inl ⟨by omega, rfl⟩)
    · refine hQ 1 M12 i12 F12 (by rw [a12, a5]) (Or.inr ⟨by omega, rfl, by rw [h12, up2_s, f10], fun j p q => ?_, ?_⟩)
      · rw [h12, up2_n (by decide), h9, up2_j (by omega)]
        exact f5 9 j (by omega)
      · rw [h12, up2_n (by decide), h9, f6, up2_s, ez]
  · have e : rd1 (M 7) (M 1 16) (eG E) (E 1 4 + M 1 20) (cbH (M 9) (M 5) (E 1 4) (M 1 20).toNat) (M 1 15) = (-1, M 1 15) := by
      unfold rd1
      rw [if_pos (by omega)]
    rw [e] at hQ
    exact hQ 0 M hI FrJ.rf rfl (Or.inl ⟨by show (-1 : Int) < 0; decide, rfl⟩)
theorem gX12_takes {p1 b : Int} {M : Mem} {Q : Int → Mem → Prop} (hI : IM b M) (hQ : ∀ (z : Int) (M' : Mem), IM b M' → FrJ (fun k j => k = 1 ∧ j = 15) M M' → ((M 1 15 < M 1 16 ∧ M 7 (M 1 15) = p1) ∧ z = 1 ∧ M' 1 15 = M 1 15 + 1 ∨ ¬ (M 1 15 < M 1 16 ∧ M 7 (M 1 15) = p1) ∧ z = 0 ∧ M' 1 15 = M 1 15) → Q z M') : qX12_takes p1 M Q := by
  have b15 := bm_c1_15.mp (hI.bx 1 15)
  have b16 := bm_c1_16.mp (hI.bx 1 16)
  have J29 : ∀ t0 : Int, (t0 = 1 ∧ (M 1 15 < M 1 16 ∧ M 7 (M 1 15) = p1) ∨ t0 = 0 ∧ ¬ (M 1 15 < M 1 16 ∧ M 7 (M 1 15) = p1)) → qX12_takes_J29 p1 Q t0 M := by
    intro t0 ht
    unfold qX12_takes_J29
    intro x4 e4 _
    refine ⟨by rcases ht with q | q <;> rw [q.1] <;> exact ⟨by decide, by decide⟩, ?_⟩
    refine gX12_flag (p0 := t0) hI ?_
    intro _
    rcases ht with ⟨q1, q2⟩ | ⟨q1, q2⟩
    · rw [if_neg (by omega)]
      refine ⟨⟨by omega, by omega⟩, ?_⟩
      intro M8 h8
      refine ⟨Or.inr q1, ?_⟩
      exact hQ t0 M8 (by rw [h8]; exact hI.up (by omega) (bm_c1_15.mpr ⟨by omega, by omega⟩)) (by rw [h8]; exact FrJ.rf.up ⟨rfl, rfl⟩) (Or.inl ⟨q2, q1, by rw [h8, up2_s, e4]⟩)
    · rw [if_pos q1]
      refine ⟨⟨by omega, by omega⟩, ?_⟩
      intro M8 h8
      refine ⟨Or.inl q1, ?_⟩
      exact hQ t0 M8 (by rw [h8]; exact hI.up (by omega) (bm_c1_15.mpr ⟨by omega, by omega⟩)) (by rw [h8]; exact FrJ.rf.up ⟨rfl, rfl⟩) (Or.inr ⟨q2, q1, by rw [h8, up2_s, e4, Int.add_zero]⟩)
  unfold qX12_takes qX12_takes_J28
  intro x1 e1 _ x2 e2 _
  refine ⟨fun c => J29 0 (Or.inr ⟨rfl, by omega⟩), fun c => ?_⟩
  intro x10 e10 _
  refine ⟨by omega, by omega, ?_⟩
  intro x13 e13 _
  rw [e10] at e13
  exact ⟨fun c2 => J29 0 (Or.inr ⟨rfl, by omega⟩), fun c2 => J29 1 (Or.inl ⟨rfl, by omega, by omega⟩)⟩
theorem gX12_hearses_L29 {b v1 : Int} {X60 : Int → Int → Mem → Prop} {Q : Int → Mem → Prop} {M0 E : Mem} {T : Int × Int × Int × (Int → Int)} (hE0 : CE E M0) (hX0 : T.1 = 0 → ∀ M' : Mem, IM b M' → FrJ kRm M0 M' → M' 1 15 = T.2.1 → X60 v1 0 M') (hX1 : T.1 = 1 → ∀ M' : Mem, IM b M' → FrJ kRm M0 M' → M' 1 15 = T.2.1 → E 1 4 + M' 1 20 = T.2.2.1 → cbH (M' 9) (M0 5) (E 1 4) (M' 1 20).toNat = T.2.2.2 → X60 v1 1 M') : ∀ (n : Nat) (v2 : Int) (M : Mem), IM b M → FrJ kRm M0 M → rdH (M0 7) (M0 1 16) (eG E) n (E 1 4 + M 1 20) (cbH (M 9) (M0 5) (E 1 4) (M 1 20).toNat) (M 1 15) = T → M 1 15 ≤ M0 1 16 → E 1 4 + M 1 20 ≤ 6 → 7 ≤ E 1 4 + M 1 20 + n → qX12_hearses_L29 X60 Q (n + 1) v1 v2 1 M := by
  intro n
  induction n with
  | zero => intro v2 M hI hF hT ha hm hn; omega
  | succ n ih =>
    intro v2 M hI hF hT ha hm hn
    have e7 : M 7 = M0 7 := funext fun j => hF 7 j (by omega)
    have e5 : M 5 = M0 5 := funext fun j => hF 5 j (by omega)
    have e16 : M 1 16 = M0 1 16 := hF 1 16 (by omega)
    have b20 := bm_c1_20.mp (hI.bx 1 20)
    have b15 := bm_c1_15.mp (hI.bx 1 15)
    have b4 := bm_c1_4.mp (hI.bx 1 4)
    have hE : CE E M := hE0.fr hF (by intro k j h; rcases h with h | h | h | h | h <;> omega)
    have e4 : M 1 4 = E 1 4 := hE 1 4 cE14
    rw [qX12_hearses_L29]
    refine ⟨⟨by decide, by decide⟩, ⟨fun c => absurd c (by decide), fun _ => ?_⟩⟩
    refine gX12_readsHearse hI hE hm (by rw [e16]; exact ha) ?_
    intro z7 M7 i7 f7 a7 p7 _ _
    rw [e7, e5, e16] at a7 p7
    have rb := rd1_b (f := M0 7) (t := M0 1 16) (g := eG E) (H := E 1 4 + M 1 20) (r := cbH (M 9) (M0 5) (E 1 4) (M 1 20).toNat) (a := M 1 15) ⟨b15.1, ha⟩
    have F7 : FrJ kRm M0 M7 := hF.tr f7
    unfold rdH at hT
    refine ⟨fun c => ?_, fun c => ?_⟩
    · have c1 : (rd1 (M0 7) (M0 1 16) (eG E) (E 1 4 + M 1 20) (cbH (M 9) (M0 5) (E 1 4) (M 1 20).toNat) (M 1 15)).1 < 0 := by
        rcases p7 with q | q
        · exact q.1
        · omega
      rw [if_pos c1] at hT
      subst hT
      rw [c, qX12_hearses_L29]
      exact ⟨⟨by decide, by decide⟩, ⟨fun _ => hX0 rfl M7 i7 F7 a7, fun q => absurd rfl q⟩⟩
    · rcases p7 with q | ⟨q0, q1, q2, q3, q4⟩
      · exact absurd q.2 c
      · have h6 := rb.2.2 q0
        rw [if_neg (by omega)] at hT
        have CB : cbH (M7 9) (M0 5) (E 1 4) (M7 1 20).toNat = adH (cbH (M 9) (M0 5) (E 1 4) (M 1 20).toNat) (E 1 4 + M 1 20) (rd1 (M0 7) (M0 1 16) (eG E) (E 1 4 + M 1 20) (cbH (M 9) (M0 5) (E 1 4) (M 1 20).toNat) (M 1 15)).1 := by
          rw [q2, cbH_s b20.1, q4, cbH_cg (c := M7 9) (d := M 9) _ (fun i a w => q3 i a (by omega))]
        refine gX12_takes i7 ?_
        intro z9 M9 i9 f9 p9 _ _
        have g7 : M7 7 = M0 7 := funext fun j => F7 7 j (by omega)
        have g16 : M7 1 16 = M0 1 16 := F7 1 16 (by omega)
        rw [g7, g16, a7] at p9
        have F9 : FrJ kRm M0 M9 := F7.tr (f9.mono (by intro k j h; omega))
        have g20 : M9 1 20 = M 1 20 + 1 := by rw [f9 1 20 (by omega)]; exact q2
        have g9 : M9 9 = M7 9 := funext fun j => f9 9 j (by omega)
        have CB9 : cbH (M9 9) (M0 5) (E 1 4) (M9 1 20).toNat = adH (cbH (M 9) (M0 5) (E 1 4) (M 1 20).toNat) (E 1 4 + M 1 20) (rd1 (M0 7) (M0 1 16) (eG E) (E 1 4 + M 1 20) (cbH (M 9) (M0 5) (E 1 4) (M 1 20).toNat) (M 1 15)).1 := by
          rw [g9, g20, ← q2]
          exact CB
        rw [q1]
        rcases p9 with ⟨w1, w2, w3⟩ | ⟨w1, w2, w3⟩
        · rw [if_pos w1] at hT
          refine ⟨fun d => by omega, fun d => ?_⟩
          refine ih 1 M9 i9 F9 ?_ (by omega) (by omega) (by omega)
          rw [CB9, w3, g20, ← Int.add_assoc]
          exact hT
        · rw [if_neg w1] at hT
          refine ⟨fun d => ?_, fun d => by omega⟩
          subst hT
          rw [qX12_hearses_L29]
          refine ⟨⟨by decide, by decide⟩, ⟨fun _ => ?_, fun q => absurd rfl q⟩⟩
          exact hX1 rfl M9 i9 F9 w3 (by show E 1 4 + M9 1 20 = E 1 4 + M 1 20 + 1; omega) CB9
theorem gX12_faultOf {p1 p2 p3 b : Int} {M : Mem} {Q : Int → Mem → Prop} (hI : IM b M) (h3 : p3 = 0 ∨ p3 = 1) (h2 : 0 ≤ p2 ∧ p2 ≤ 80) (h1 : 0 ≤ p1 ∧ p1 ≤ 80) (ht : M 1 16 = min p1 p2) (ha : M 1 15 ≤ M 1 16) (hQ : Q (if p3 = 1 ∧ p1 ≤ M 1 15 then 0 else -1 - M 1 15) M) : qX12_faultOf p1 p2 p3 M Q := by
  have b15 := bm_c1_15.mp (hI.bx 1 15)
  have J44 : ∀ v4 : Int, (v4 = 1 ∧ p3 = 1 ∧ p1 ≤ M 1 15 ∨ v4 = 0 ∧ ¬ (p3 = 1 ∧ p1 ≤ M 1 15)) → qX12_faultOf_J44 p1 p2 p3 Q v4 M := by
    intro v4 h
    unfold qX12_faultOf_J44
    refine ⟨by rcases h with q | q <;> rw [q.1] <;> exact ⟨by decide, by decide⟩, ⟨fun c => ?_, fun c => ?_⟩⟩
    · intro x5 e5 _
      refine ⟨⟨by omega, by omega⟩, ?_⟩
      rw [if_neg (by omega), ← e5] at hQ
      exact hQ
    · rw [if_pos (by omega)] at hQ
      exact hQ
  have MOST : p2 < p1 → M 1 15 = p2 → Q (-1 - p2) M := by
    intro a c
    rw [if_neg (by omega), c] at hQ
    exact hQ
  have J20 : ∀ t0 : Int, (t0 = 1 ∧ p3 = 1 ∧ M 1 15 = M 1 16 ∨ t0 = 0 ∧ ¬ (p3 = 1 ∧ M 1 15 = M 1 16)) → qX12_faultOf_J20 p1 p2 p3 Q t0 M := by
    intro t0 h
    unfold qX12_faultOf_J20
    refine ⟨fun c => J44 _ ?_, fun c => ⟨by rcases h with q | q <;> rw [q.1] <;> exact ⟨by decide, by decide⟩, ⟨fun c2 => ⟨⟨by omega, by omega⟩, MOST (by omega) (by omega)⟩, fun c2 => ?_⟩⟩⟩
    · rcases h with q | q
      · exact Or.inl ⟨q.1, q.2.1, by omega⟩
      · exact Or.inr ⟨q.1, fun w => q.2 ⟨w.1, by omega⟩⟩
    · intro x10 e10 _
      refine ⟨fun c3 => J44 _ (Or.inr ⟨c2, by omega⟩), fun c3 => ⟨⟨by omega, by omega⟩, MOST (by omega) (by omega)⟩⟩
  unfold qX12_faultOf qX12_faultOf_J19
  refine ⟨fun c => J20 0 (Or.inr ⟨rfl, by omega⟩), fun c => ?_⟩
  intro x13 e13 _ x14 e14 _
  exact ⟨fun c2 => J20 0 (Or.inr ⟨rfl, by omega⟩), fun c2 => J20 1 (Or.inl ⟨rfl, by omega, by omega⟩)⟩
theorem gX12_hearses_L81 {b : Int} {X135 : Mem → Prop} {Q : Int → Mem → Prop} {M0 E : Mem} (hE4 : M0 1 4 = E 1 4) (hm : E 1 4 + M0 1 20 ≤ 6 ∧ 0 ≤ M0 1 20 ∧ 0 ≤ E 1 4) (hX : ∀ M' : Mem, IM b M' → FrJ (fun k j => k = 5 ∨ (k = 1 ∧ j = 4)) M0 M' → M' 1 4 = E 1 4 + M0 1 20 → M' 5 = cbH (M0 9) (M0 5) (E 1 4) (M0 1 20).toNat → X135 M') : ∀ (n : Nat) (v5 : Int) (M : Mem), IM b M → FrJ (fun k j => k = 5 ∨ (k = 1 ∧ j = 4)) M0 M → M 1 4 = E 1 4 + v5 → M 5 = cbH (M0 9) (M0 5) (E 1 4) v5.toNat → (0 ≤ v5 ∧ v5 ≤ M0 1 20) → M0 1 20 - v5 < (n : Int) → qX12_hearses_L81 X135 Q n v5 M := by
  intro n
  induction n with
  | zero => intro v5 M hI hF h4 h5 hv hn; exact absurd hn (by omega)
  | succ n ih =>
    intro v5 M hI hF h4 h5 hv hn
    have g20 : M 1 20 = M0 1 20 := hF 1 20 (by omega)
    rw [qX12_hearses_L81]
    intro x16 e16 _
    refine ⟨⟨by omega, by omega⟩, ⟨fun c => ?_, fun c => ?_⟩⟩
    · have ev : v5 = M0 1 20 := by omega
      rw [ev] at h4 h5
      exact hX M hI hF h4 h5
    intro x19 e19 _
    refine ⟨by omega, by omega, ?_⟩
    intro x22 e22 _
    have b22 : -1 ≤ x22 ∧ x22 ≤ 29 := by rw [e22]; exact bm_c9.mp (hI.bx _ _)
    have f22 : x22 = M0 9 v5 := by rw [e22]; exact hF 9 v5 (by omega)
    refine ⟨by omega, by omega, ?_⟩
    intro M25 h25 x26 e26 _
    have f26 : x26 = E 1 4 + v5 := by rw [e26, h25, up2_n (by decide)]; exact h4
    refine ⟨by omega, by omega, ?_⟩
    intro M29 h29 x30 e30 _
    have f30 : x30 = E 1 4 + v5 := by rw [e30, h29, up2_n (by decide), h25, up2_n (by decide)]; exact h4
    refine ⟨⟨by omega, by omega⟩, ?_⟩
    intro M32 h32
    have i25 : IM b M25 := by rw [h25]; exact hI.up (by omega) ((bm_n (Or.inl rfl)).mpr ⟨by omega, by omega, by omega, by omega⟩)
    have i29 : IM b M29 := by rw [h29]; exact i25.up (by omega) ((bm_n (Or.inl rfl)).mpr ⟨by omega, by omega, by omega, by omega⟩)
    have i32 : IM b M32 := by rw [h32]; exact i29.up (by omega) (bm_c1_4.mpr ⟨by omega, by omega⟩)
    refine ih _ M32 i32 (by rw [h32, h29, h25]; exact ((hF.up (Or.inl rfl)).up (Or.inl rfl)).up (Or.inr ⟨rfl, rfl⟩)) (by rw [h32, up2_s]; omega) ?_ (by omega) (by omega)
    rw [h32, up2_n (by decide), h29, up2_up, h25, up2_up, cbH_s hv.1, h5, f22, f26, show x19 = E 1 4 + v5 from by omega]
    rfl
theorem gX12_isNew {b : Int} {M : Mem} {Q : Int → Mem → Prop} (hI : IM b M) (hb : b + 1 ≤ 2000000000) (hQ : ∀ M' : Mem, IM (b + 1) M' → FrJ (fun k j => k = 1 ∧ (j = 6 ∨ j = 28)) M M' → (0 < M 1 20 → M' 1 28 = 0 ∧ M' 1 6 = M 1 6 + 1) → (M 1 20 ≤ 0 → M' 1 28 = M 1 28 ∧ M' 1 6 = M 1 6) → Q (M 1 20) M') : qX12_isNew M Q := by
  have b28 := bm_c1_28.mp (hI.bx 1 28)
  have b6 := bm_c1_6.mp (hI.bx 1 6)
  have J16 : ∀ t0 : Int, (0 < M 1 20 ∧ t0 = 0 ∨ M 1 20 ≤ 0 ∧ t0 = M 1 28) → qX12_isNew_J16 Q t0 M := by
    intro t0 ht
    unfold qX12_isNew_J16
    refine ⟨⟨by omega, by omega⟩, ?_⟩
    intro M5 h5 x6 e6 _ x7 e7 _
    have i5 : IM b M5 := by rw [h5]; exact hI.up (by omega) (bm_c1_28.mpr ⟨by omega, by omega⟩)
    have F5 : FrJ (fun k j => k = 1 ∧ (j = 6 ∨ j = 28)) M M5 := by rw [h5]; exact FrJ.rf.up ⟨rfl, Or.inr rfl⟩
    have f6 : x6 = M 1 6 := by rw [e6, h5, up2_j (by decide)]
    have f7 : x7 = M 1 20 := by rw [e7, h5, up2_j (by decide)]
    have k28 : M5 1 28 = t0 := by rw [h5, up2_s]
    have J36 : ∀ u : Int, (0 < M 1 20 ∧ u = 1 ∨ M 1 20 ≤ 0 ∧ u = 0) → qX12_isNew_J36 Q u x6 M5 := by
      intro u hu
      unfold qX12_isNew_J36
      refine ⟨by rcases hu with q | q <;> rw [q.2] <;> exact ⟨by decide, by decide⟩, ?_⟩
      refine gX12_flag (p0 := u) i5 ?_
      intro _
      have ef : (if u = 0 then (0 : Int) else 1) = u := by
        rcases hu with q | q
        · rw [if_neg (by omega), q.2]
        · rw [if_pos q.2, q.2]
      rw [ef]
      refine ⟨⟨by omega, by omega⟩, ?_⟩
      intro M12 h12 x13 e13 _
      have f13 : x13 = M 1 20 := by rw [e13, h12, up2_j (by decide), h5, up2_j (by decide)]
      have k6 : M12 1 6 = M 1 6 + u := by rw [h12, up2_s, f6]
      have k28' : M12 1 28 = t0 := by rw [h12, up2_j (by decide)]; exact k28
      rw [f13]
      exact hQ M12 (by rw [h12]; exact (i5.mono (by omega)).up (by omega) (bm_c1_6.mpr ⟨by omega, by omega⟩)) (by rw [h12]; exact F5.up ⟨rfl, Or.inl rfl⟩) (fun q => ⟨by omega, by omega⟩) (fun q => ⟨by omega, by omega⟩)
    exact ⟨fun c => J36 0 (Or.inr ⟨by omega, rfl⟩), fun c => J36 1 (Or.inl ⟨by omega, rfl⟩)⟩
  unfold qX12_isNew
  intro x1 e1 _
  refine ⟨fun c => ?_, fun c => J16 0 (Or.inl ⟨by omega, rfl⟩)⟩
  intro x3 e3 _
  exact J16 _ (Or.inr ⟨by omega, e3⟩)
theorem gX12_hearses {b : Int} {M E : Mem} {Q : Int → Mem → Prop} (hI : IM b M) (hE : CE E M) (hb : b + 1 ≤ 2000000000) (hQ : ∀ M' : Mem, IM (b + 1) M' → M' 1 14 = 0 → (hsOK (M 7) (M 1 14) (eG E) (E 1 4) (M 5) ∧ M 1 14 ≠ 0 → M' 1 4 = (hsT (M 7) (M 1 14) (eG E) (E 1 4) (M 5)).2.2.1 ∧ M' 5 = (hsT (M 7) (M 1 14) (eG E) (E 1 4) (M 5)).2.2.2 ∧ M' 1 28 = 0 ∧ M' 1 6 = M 1 6 + 1 ∧ FrJ (fun k j => k = 5 ∨ k = 9 ∨ (k = 1 ∧ (j = 0 ∨ j = 4 ∨ j = 6 ∨ j = 14 ∨ j = 15 ∨ j = 16 ∨ j = 17 ∨ j = 20 ∨ j = 28))) M M') → (¬ (hsOK (M 7) (M 1 14) (eG E) (E 1 4) (M 5) ∧ M 1 14 ≠ 0) → FrJ (fun k j => k = 9 ∨ (k = 1 ∧ (j = 0 ∨ j = 14 ∨ j = 15 ∨ j = 16 ∨ j = 17 ∨ j = 20))) M M' ∧ M' 1 6 = M 1 6) → Q (hsA (M 7) (M 1 14) (eG E) (E 1 4) (M 5)) M') : qX12_hearses M Q := by
  have bL := bm_c1_14.mp (hI.bx 1 14)
  have e4 : M 1 4 = E 1 4 := hE 1 4 cE14
  have b4 := bm_c1_4.mp (hI.bx 1 4)
  unfold hsA at hQ
  unfold qX12_hearses
  intro M1 h1
  have i1 : IM b M1 := by rw [h1]; exact hI.up (by omega) (by simp [BM])
  have F1 : FrJ (fun k j => k = 9 ∨ (k = 1 ∧ (j = 0 ∨ j = 14 ∨ j = 15 ∨ j = 16 ∨ j = 17 ∨ j = 20))) M M1 := by rw [h1]; exact FrJ.rf.up (by omega)
  have g14 : M1 1 14 = M 1 14 := by rw [h1, up2_j (by decide)]
  refine gX12_begins (p1 := 17) i1 (by decide) ?_
  intro M2 i2 f2 a2 t2 _ l2
  rw [g14] at t2 ⊢
  intro _ M3 h3
  have i3 : IM b M3 := by rw [h3]; exact i2.up (by omega) (bm_c1_20.mpr (by decide))
  have F3 : FrJ (fun k j => k = 9 ∨ (k = 1 ∧ (j = 0 ∨ j = 14 ∨ j = 15 ∨ j = 16 ∨ j = 17 ∨ j = 20))) M M3 := by
    rw [h3]
    exact (F1.tr (f2.mono (by intro k j h; omega))).up (by omega)
  have k20 : M3 1 20 = 0 := by rw [h3, up2_s]
  have k15 : M3 1 15 = 0 := by rw [h3, up2_j (by decide)]; exact a2
  have k16 : M3 1 16 = min (M 1 14) 17 := by rw [h3, up2_j (by decide)]; exact t2
  have k14 : M3 1 14 = 0 := by rw [h3, up2_j (by decide)]; exact l2
  have E3 : CE E M3 := hE.fr F3 (by intro k j h; rcases h with h | h | h | h | h <;> omega)
  have g7 : M3 7 = M 7 := funext fun j => F3 7 j (by omega)
  have g5 : M3 5 = M 5 := funext fun j => F3 5 j (by omega)
  -- behind the reading
  have FIN : ∀ (is : Int) (M' : Mem), IM b M' → FrJ kRm M3 M' → (is = 0 ∨ is = 1) → M' 1 15 ≤ min (M 1 14) 17 → (is = 1 → E 1 4 + M' 1 20 ≤ 6) → (is = 1 ∧ M 1 14 ≤ M' 1 15 → (M 1 14 = 0 ∧ M' 1 20 = 0) ∨ (hsOK (M 7) (M 1 14) (eG E) (E 1 4) (M 5) ∧ M 1 14 ≠ 0 ∧ 0 < M' 1 20 ∧ E 1 4 + M' 1 20 = (hsT (M 7) (M 1 14) (eG E) (E 1 4) (M 5)).2.2.1 ∧ cbH (M' 9) (M 5) (E 1 4) (M' 1 20).toNat = (hsT (M 7) (M 1 14) (eG E) (E 1 4) (M 5)).2.2.2)) → (¬ (is = 1 ∧ M 1 14 ≤ M' 1 15) → M 1 14 ≠ 0 ∧ ¬ hsOK (M 7) (M 1 14) (eG E) (E 1 4) (M 5) ∧ M' 1 15 = (hsT (M 7) (M 1 14) (eG E) (E 1 4) (M 5)).2.1) → qX12_faultOf (M 1 14) 17 is M' (fun (x14 : Int) (M14 : Mem) => iR x14 → (((0 ≤ x14) → (∃ n33 : Nat, qX12_hearses_L81 (fun (M : Mem) => qX12_isNew M (fun (x34 : Int) (M34 : Mem) => iR x34 → (Q x34 M34))) Q n33 0 M14)) ∧ ((¬ (0 ≤ x14)) → (Q x14 M14)))) := by
    intro is M' i' f' his ha' h6 hok hbad
    have q14 : M' 1 14 = 0 := by rw [f' 1 14 (by omega)]; exact k14
    have q16 : M' 1 16 = min (M 1 14) 17 := by rw [f' 1 16 (by omega)]; exact k16
    have q4 : M' 1 4 = E 1 4 := by rw [f' 1 4 (by omega)]; exact E3 1 4 cE14
    have q5 : M' 5 = M 5 := by rw [← g5]; exact funext fun j => f' 5 j (by omega)
    have b20 := bm_c1_20.mp (i'.bx 1 20)
    have b15 := bm_c1_15.mp (i'.bx 1 15)
    have F' : FrJ (fun k j => k = 9 ∨ (k = 1 ∧ (j = 0 ∨ j = 14 ∨ j = 15 ∨ j = 16 ∨ j = 17 ∨ j = 20))) M M' := F3.tr (f'.mono (by intro k j h; omega))
    refine gX12_faultOf i' his (by decide) bL q16 (by rw [q16]; exact ha') ?_
    intro _
    by_cases c : is = 1 ∧ M 1 14 ≤ M' 1 15
    · rw [if_pos c]
      refine ⟨fun _ => ⟨9, ?_⟩, fun q => absurd (by decide) q⟩
      refine gX12_hearses_L81 (b := b) (M0 := M') (E := E) q4 ⟨h6 c.1, b20.1, by omega⟩ ?_ 9 0 M' i' FrJ.rf (by omega) rfl (by omega) (by omega)
      intro M4 i4 f4 w4 w5
      have q20 : M4 1 20 = M' 1 20 := f4 1 20 (by omega)
      refine gX12_isNew i4 hb ?_
      intro M5 i5 f5 n1 n2 _
      rw [q20] at n1 n2 ⊢
      have q6 : M4 1 6 = M 1 6 := by rw [f4 1 6 (by omega), F' 1 6 (by omega)]
      have z14 : M5 1 14 = 0 := by rw [f5 1 14 (by omega), f4 1 14 (by omega)]; exact q14
      rcases hok c with ⟨u1, u2⟩ | ⟨u1, u2, u3, u4, u5⟩
      · obtain ⟨v1, v2⟩ := n2 (by omega)
        have H := hQ M5 i5 z14 (fun q => absurd u1 q.2) (fun _ => ⟨fun k j h => ?_, by omega⟩)
        · rw [if_pos u1] at H
          rw [u2]
          exact H
        · by_cases k6 : k = 1 ∧ j = 6
          · rw [k6.1, k6.2, v2, q6]
          · by_cases k28 : k = 1 ∧ j = 28
            · rw [k28.1, k28.2, v1, f4 1 28 (by omega)]
              exact F' 1 28 (by omega)
            · rw [f5 k j (by omega)]
              by_cases kk : k = 5 ∨ (k = 1 ∧ j = 4)
              · rcases kk with kk | kk
                · rw [kk, w5, u2, q5]
                  rfl
                · rw [kk.1, kk.2, w4, u2, e4]
                  omega
              · rw [f4 k j (by omega)]
                exact F' k j h
      · obtain ⟨v1, v2⟩ := n1 u3
        have H := hQ M5 i5 z14 (fun _ => ⟨?_, ?_, v1, by omega, ?_⟩) (fun q => absurd ⟨u1, u2⟩ q)
        · rw [if_neg u2, if_pos u1, ← u4] at H
          rw [show E 1 4 + M' 1 20 - E 1 4 = M' 1 20 from by omega] at H
          exact H
        · rw [f5 1 4 (by omega), w4, u4]
        · rw [← u5, ← q5, ← w5]
          exact funext fun j => f5 5 j (by omega)
        · exact ((F'.mono (by intro k j h; omega)).tr (f4.mono (by intro k j h; omega))).tr (f5.mono (by intro k j h; omega))
    · rw [if_neg c]
      refine ⟨fun q => by omega, fun _ => ?_⟩
      obtain ⟨u1, u2, u3⟩ := hbad c
      have H := hQ M' (i'.mono (by omega)) q14 (fun q => absurd q.1 u2) (fun _ => ⟨F', F' 1 6 (by omega)⟩)
      rw [if_neg u1, if_neg u2, ← u3] at H
      exact H
  refine ⟨fun c => ⟨1, ?_⟩, fun c => ⟨8, ?_⟩⟩
  · rw [qX12_hearses_L29]
    refine ⟨⟨by decide, by decide⟩, ⟨fun _ => ⟨⟨by omega, by omega⟩, ⟨by decide, by decide⟩, ?_⟩, fun q => absurd rfl q⟩⟩
    exact FIN 1 M3 i3 FrJ.rf (Or.inr rfl) (by omega) (fun _ => by omega) (fun _ => Or.inl ⟨by omega, k20⟩) (fun q => absurd ⟨rfl, by omega⟩ q)
  · have hb7 := rdH_b (f := M 7) (t := min (M 1 14) 17) (g := eG E) 7 (E 1 4) (M 5) 0 (by omega) (by omega) (by omega)
    have hTT : rdH (M 7) (min (M 1 14) 17) (eG E) 7 (E 1 4) (M 5) 0 = hsT (M 7) (M 1 14) (eG E) (E 1 4) (M 5) := rfl
    rw [hTT] at hb7
    refine gX12_hearses_L29 (b := b) (M0 := M3) (E := E) (T := hsT (M 7) (M 1 14) (eG E) (E 1 4) (M 5)) E3 ?_ ?_ 7 1 M3 i3 FrJ.rf ?_ (by rw [k15, k16]; omega) (by omega) (by omega)
    · intro T0 M' i' f' a'
      refine ⟨⟨by omega, by omega⟩, ⟨by decide, by decide⟩, ?_⟩
      exact FIN 0 M' i' f' (Or.inl rfl) (by rw [a']; exact hb7.1.2) (fun q => absurd q (by decide)) (fun q => absurd q.1 (by decide)) (fun _ => ⟨by omega, fun q => by have := q.1; omega, a'⟩)
    · intro T1 M' i' f' a' n' cb'
      rw [g5] at cb'
      have b20 := bm_c1_20.mp (i'.bx 1 20)
      refine ⟨⟨by omega, by omega⟩, ⟨by decide, by decide⟩, ?_⟩
      exact FIN 1 M' i' f' (Or.inr rfl) (by rw [a']; exact hb7.1.2) (fun _ => by omega) (fun q => Or.inr ⟨⟨T1, by omega⟩, by omega, by omega, n', cb'⟩) (fun q => ⟨by omega, fun w => q ⟨rfl, by have := w.2; omega⟩, a'⟩)
    · rw [g7, k16, k20, k15, g5, Int.add_zero]
      exact hTT
