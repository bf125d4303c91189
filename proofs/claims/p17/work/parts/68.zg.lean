/-! READING MOURNERS, the reference -/
theorem tkL : ∀ n : Nat, n ≤ 6 → ((bS 2).take n).length = n ∧ ∀ i : Nat, i < n → ((bS 2).take n).getD i 0 = 97 + (i : Int) := by decide
theorem gX12_takesOwn {x b : Int} {M : Mem} {Q : Int → Mem → Prop} (hI : IM b M) (hx : 0 ≤ x ∧ x ≤ 6) (hQ : ∀ (z : Int) (M' : Mem), IM b M' → FrJ (fun k j => k = 1 ∧ j = 15) M M' → ((M 1 15 < M 1 16 ∧ 97 ≤ M 7 (M 1 15) ∧ M 7 (M 1 15) < 97 + x) ∧ z = M 7 (M 1 15) - 97 ∧ M' 1 15 = M 1 15 + 1 ∨ ¬ (M 1 15 < M 1 16 ∧ 97 ≤ M 7 (M 1 15) ∧ M 7 (M 1 15) < 97 + x) ∧ z = -1 ∧ M' 1 15 = M 1 15) → Q z M') : qX12_takesOf ((bS 2).take x.toNat) M Q := by
  obtain ⟨t1, t2⟩ := tkL x.toNat (by omega)
  refine gX12_takesOf hI (by rw [t1]; omega) ?_
  intro z M' i' f' p'
  refine hQ z M' i' f' ?_
  rcases p' with ⟨q1, q2, q3, q4⟩ | ⟨q1, q2, q3⟩
  · rw [t1] at q2
    rw [t2 z.toNat (by omega)] at q3
    exact Or.inl ⟨by omega, by omega, q4⟩
  · refine Or.inr ⟨fun w => ?_, q1, q2⟩
    rcases q3 with u | u
    · omega
    · rw [t1] at u
      have := u (M 7 (M 1 15) - 97) (by omega) (by omega)
      rw [t2 _ (by omega)] at this
      omega
def rc0 (f : Int → Int) (t g a : Int) : Int × Int := if nuZ f t 2 a < 0 then (-1, a) else if g ≤ nuZ f t 2 a then (-1, a + dgC f t 2 a - 1) else (nuZ f t 2 a, a + dgC f t 2 a)
theorem gX12_readsCell0 {b : Int} {M E : Mem} {Q : Int → Mem → Prop} (hI : IM b M) (hE : CE E M) (ha : M 1 15 ≤ M 1 16) (hQ : ∀ (z : Int) (M' : Mem), IM b M' → FrJ (fun k j => k = 1 ∧ j = 15) M M' → M' 1 15 = (rc0 (M 7) (M 1 16) (eG E) (M 1 15)).2 → z = (rc0 (M 7) (M 1 16) (eG E) (M 1 15)).1 → Q z M') : qX12_readsCell 0 M Q := by
  have b15 := bm_c1_15.mp (hI.bx 1 15)
  have b16 := bm_c1_16.mp (hI.bx 1 16)
  have bn := nuZ_b (f := M 7) (t := M 1 16) (a := M 1 15)
  unfold rc0 at hQ
  unfold qX12_readsCell
  refine gX12_number (p1 := 2) hI (by decide) ?_
  intro z1 M1 i1 f1 n1 r1
  obtain ⟨ez, ea⟩ := NUM.fn (p := 2) (by omega) n1
  have E1 : CE E M1 := hE.fr f1 (by intro k j h; rcases h with h | h | h | h | h <;> omega)
  have b20 := bm_c1_20.mp (i1.bx 1 20)
  refine ⟨fun c => ?_, fun c => ?_⟩
  · rw [if_neg (by omega)] at hQ
    have bb := bn.2.1 (by omega)
    have bt := bn.2.2.1 ha
    have J85 : ∀ v3 : Int, (v3 = 0 ∧ eG E ≤ z1 ∨ v3 = 1 ∧ z1 < eG E) → qX12_readsCell_J85 0 Q z1 v3 M1 := by
      intro v3 hv
      unfold qX12_readsCell_J85
      intro x17 e17 _
      refine ⟨by rcases hv with q | q <;> rw [q.1] <;> exact ⟨by decide, by decide⟩, ⟨fun d => ?_, fun d => ?_⟩⟩
      · have v1 : v3 = 1 := by rcases hv with q | q <;> omega
        unfold qX12_readsCell_J99
        refine ⟨⟨by decide, by decide⟩, ?_⟩
        refine gX12_flag (p0 := 0) i1 ?_
        intro _
        rw [if_pos rfl]
        refine ⟨⟨by omega, by omega⟩, ?_⟩
        intro M23 h23
        refine ⟨by rw [v1]; exact ⟨by decide, by decide⟩, ⟨fun c3 => absurd c3 d, fun c3 => ⟨r1, ?_⟩⟩⟩
        rw [if_neg (by rcases hv with q | q <;> omega)] at hQ
        refine hQ _ M23 (by rw [h23]; exact i1.up (by omega) (bm_c1_15.mpr ⟨by omega, by omega⟩)) (by rw [h23]; exact f1.up ⟨rfl, rfl⟩) ?_ ez
        rw [h23, up2_s, e17, ea, Int.sub_zero]
      · unfold qX12_readsCell_J99
        refine ⟨⟨by decide, by decide⟩, ?_⟩
        refine gX12_flag (p0 := 1) i1 ?_
        intro _
        rw [if_neg (by decide)]
        refine ⟨⟨by omega, by omega⟩, ?_⟩
        intro M23 h23
        refine ⟨by rw [d]; exact ⟨by decide, by decide⟩, ⟨fun _ => ?_, fun c3 => absurd d c3⟩⟩
        rw [if_pos (by rcases hv with q | q <;> omega)] at hQ
        refine hQ _ M23 (by rw [h23]; exact i1.up (by omega) (bm_c1_15.mpr ⟨by omega, by omega⟩)) (by rw [h23]; exact f1.up ⟨rfl, rfl⟩) ?_ rfl
        rw [h23, up2_s, e17, ea]
    have L : ∀ v3 : Int, (v3 = 0 ∧ eG E ≤ z1 ∨ v3 = 1 ∧ z1 < eG E) → qX12_readsCell_L45 0 (fun v2 v3 M => qX12_readsCell_J85 0 Q v2 v3 M) Q 1 z1 v3 0 M1 := by
      intro v3 hv
      rw [qX12_readsCell_L45]
      intro x5 e5 _
      exact ⟨⟨by decide, by decide⟩, ⟨fun _ => J85 v3 hv, fun _ => ⟨fun _ => J85 v3 hv, fun q => absurd rfl q⟩⟩⟩
    refine gX12_gate i1 E1 ?_
    intro _
    exact ⟨fun d => ⟨1, L 0 (Or.inl ⟨rfl, d⟩)⟩, fun d => ⟨fun _ => ⟨1, L 1 (Or.inr ⟨rfl, by omega⟩)⟩, fun q => absurd rfl q⟩⟩
  · rw [if_pos (by omega)] at hQ
    have := bn.2.2.2 (by omega)
    refine hQ _ M1 i1 f1 ?_ rfl
    show M1 1 15 = M 1 15
    omega
theorem rd2_rc {f : Int → Int} {t g H m a : Int} (h : m < 8) : rd2 f t g H m a = if (rc0 f t g a).1 < 0 then (-1, 0, (rc0 f t g a).2) else if (rc0 f t g a).2 < t ∧ 97 ≤ f (rc0 f t g a).2 ∧ f (rc0 f t g a).2 < 97 + H then ((rc0 f t g a).1, f (rc0 f t g a).2 - 97, (rc0 f t g a).2 + 1) else (-1, 0, (rc0 f t g a).2) := by
  unfold rd2 rc0
  rw [if_neg (by omega)]
  by_cases c : nuZ f t 2 a < 0
  · rw [if_pos c, if_pos c]
    rfl
  · rw [if_neg c, if_neg c]
    by_cases c2 : g ≤ nuZ f t 2 a
    · rw [if_pos c2, if_pos c2]
      rfl
    · rw [if_neg c2, if_neg c2]
      show _ = if nuZ f t 2 a < 0 then _ else _
      rw [if_neg c]
theorem gX12_readsMourner {b : Int} {M E : Mem} {Q : Int → Mem → Prop} (hI : IM b M) (hE : CE E M) (hm : E 1 5 + M 1 20 ≤ 8) (ha : M 1 15 ≤ M 1 16) (hQ : ∀ (z : Int) (M' : Mem), IM b M' → FrJ kRm M M' → M' 1 15 = (rd2 (M 7) (M 1 16) (eG E) (E 1 4) (E 1 5 + M 1 20) (M 1 15)).2.2 → ((rd2 (M 7) (M 1 16) (eG E) (E 1 4) (E 1 5 + M 1 20) (M 1 15)).1 < 0 ∧ z = 0 ∨ 0 ≤ (rd2 (M 7) (M 1 16) (eG E) (E 1 4) (E 1 5 + M 1 20) (M 1 15)).1 ∧ z = 1 ∧ M' 1 20 = M 1 20 + 1 ∧ (∀ j, 0 ≤ j → j < 2 * M 1 20 → M' 9 j = M 9 j) ∧ M' 9 (2 * M 1 20) = (rd2 (M 7) (M 1 16) (eG E) (E 1 4) (E 1 5 + M 1 20) (M 1 15)).1 ∧ M' 9 (2 * M 1 20 + 1) = (rd2 (M 7) (M 1 16) (eG E) (E 1 4) (E 1 5 + M 1 20) (M 1 15)).2.1) → Q z M') : qX12_readsMourner M Q := by
  have e4 : M 1 4 = E 1 4 := hE 1 4 cE14
  have e5 : M 1 5 = E 1 5 := hE 1 5 cE15
  have b4 := bm_c1_4.mp (hI.bx 1 4)
  have b5 := bm_c1_5.mp (hI.bx 1 5)
  have b20 := bm_c1_20.mp (hI.bx 1 20)
  have b15 := bm_c1_15.mp (hI.bx 1 15)
  have bg := hE.g hI
  unfold qX12_readsMourner
  intro x1 e1 _ x2 e2 _
  refine ⟨⟨by omega, by omega⟩, ⟨fun c => ?_, fun c => ?_⟩⟩
  · rw [rd2_rc (by omega)] at hQ
    refine gX12_readsCell0 hI hE ha ?_
    intro z5 M5 i5 f5 a5 ez _ x6 e6 _
    rw [← ez, ← a5] at hQ
    have bz : -1 ≤ z5 ∧ z5 < eG E := by
      have bn := nuZ_b (f := M 7) (t := M 1 16) (a := M 1 15)
      rw [ez]
      unfold rc0
      split
      · show (-1 : Int) ≤ -1 ∧ (-1 : Int) < eG E
        omega
      · split
        · show (-1 : Int) ≤ -1 ∧ (-1 : Int) < eG E
          omega
        · show -1 ≤ nuZ (M 7) (M 1 16) 2 (M 1 15) ∧ nuZ (M 7) (M 1 16) 2 (M 1 15) < eG E
          omega
    have f6 : x6 = M 1 20 := by rw [e6]; exact f5 1 20 (by omega)
    have h7 : M5 7 = M 7 := funext fun j => f5 7 j (by omega)
    have h16 : M5 1 16 = M 1 16 := f5 1 16 (by omega)
    refine ⟨by omega, by omega, ?_⟩
    intro M9 h9 x10 e10 _
    have i9 : IM b M9 := by rw [h9]; exact i5.up (by omega) (bm_c9.mpr ⟨by omega, by omega⟩)
    have f10 : x10 = M 1 20 := by rw [e10, h9, up2_n (by decide)]; exact f5 1 20 (by omega)
    have F9 : FrJ kRm M M9 := by rw [h9]; exact (f5.mono (by intro k j h; omega)).up (Or.inl rfl)
    have at9 : M9 1 15 = M5 1 15 := by rw [h9, up2_n (by decide)]
    have J68 : ∀ (t0 : Int) (N : Mem), IM b N → FrJ (fun k j => k = 1 ∧ j = 15) M9 N → (-1 ≤ t0 ∧ t0 ≤ 5) → (t0 < 0 → (∀ M' : Mem, IM b M' → FrJ kRm M M' → M' 1 15 = N 1 15 → Q 0 M')) → (0 ≤ t0 → (∀ M' : Mem, IM b M' → FrJ kRm M M' → M' 1 15 = N 1 15 → M' 1 20 = M 1 20 + 1 → (∀ j, 0 ≤ j → j < 2 * M 1 20 → M' 9 j = M 9 j) → M' 9 (2 * M 1 20) = z5 → M' 9 (2 * M 1 20 + 1) = t0 → Q 1 M')) → qX12_readsMourner_J68 Q t0 (2 * x10 + 1) N := by
      intro t0 N iN fN ht hq0 hq1
      have g20 : N 1 20 = M 1 20 := by rw [fN 1 20 (by omega), h9, up2_n (by decide)]; exact f5 1 20 (by omega)
      unfold qX12_readsMourner_J68
      refine ⟨by omega, by omega, ⟨by omega, by omega⟩, ?_⟩
      intro M20 h20 x21 e21 _
      have f21 : x21 = M 1 20 := by rw [e21, h20, up2_n (by decide)]; exact g20
      refine ⟨⟨by omega, by omega⟩, ?_⟩
      intro M23 h23 x24 e24 _
      have f24 : x24 = M 1 20 + 1 := by rw [e24, h23, up2_s, f21]
      refine ⟨by omega, by omega, ?_⟩
      intro x27 e27 _
      have f27 : x27 = t0 := by rw [e27, h23, up2_n (by decide), h20, show 2 * x24 - 1 = 2 * x10 + 1 from by omega, up2_s]
      have i20 : IM b M20 := by rw [h20]; exact iN.up (by omega) (bm_c9.mpr ⟨by omega, by omega⟩)
      have i23 : IM b M23 := by rw [h23]; exact i20.up (by omega) (bm_c1_20.mpr ⟨by omega, by omega⟩)
      have F23 : FrJ kRm M M23 := by
        rw [h23, h20]
        exact ((F9.tr (fN.mono (by intro k j h; omega))).up (Or.inl rfl)).up (Or.inr ⟨rfl, Or.inr rfl⟩)
      have a23 : M23 1 15 = N 1 15 := by rw [h23, up2_j (by decide), h20, up2_n (by decide)]
      refine ⟨fun d => hq0 (by omega) M23 i23 F23 a23, fun d => hq1 (by omega) M23 i23 F23 a23 (by rw [h23, up2_s, f21]) (fun j p q => ?_) ?_ ?_⟩
      · rw [h23, up2_n (by decide), h20, up2_j (by omega), fN 9 j (by omega), h9, up2_j (by omega)]
        exact f5 9 j (by omega)
      · rw [h23, up2_n (by decide), h20, up2_j (by omega), fN 9 _ (by omega), h9, ← f6, up2_s]
      · rw [h23, up2_n (by decide), h20, ← f10, up2_s]
    refine ⟨fun d => ?_, fun d => ?_⟩
    · intro x12 e12 _
      have f12 : x12 = E 1 4 := by rw [e12, h9, up2_n (by decide), f5 1 4 (by omega)]; exact e4
      refine ⟨by omega, by rw [show ((bS 2).length : Int) = 6 from rfl]; omega, ?_⟩
      rw [if_neg (by omega)] at hQ
      refine gX12_takesOwn i9 (by omega) ?_
      intro z16 M16 i16 f16 p16 _
      have k7 : M9 7 = M 7 := by rw [h9, up2_n (by decide)]; exact h7
      have k16 : M9 1 16 = M 1 16 := by rw [h9, up2_n (by decide)]; exact h16
      rw [k7, k16, at9, f12] at p16
      rcases p16 with ⟨q1, q2, q3⟩ | ⟨q1, q2, q3⟩
      · rw [if_pos q1] at hQ
        refine J68 z16 M16 i16 f16 ⟨by omega, by omega⟩ (fun w => by omega) (fun _ M' i' f' a' n' s' c0 c1 => ?_)
        exact hQ 1 M' i' f' (by rw [a', q3]) (Or.inr ⟨by show 0 ≤ z5; omega, rfl, n', s', c0, by rw [c1, q2]⟩)
      · rw [if_neg q1] at hQ
        refine J68 z16 M16 i16 f16 ⟨by omega, by omega⟩ (fun _ M' i' f' a' => ?_) (fun w => by omega)
        exact hQ 0 M' i' f' (by rw [a', q3]) (Or.inl ⟨by show (-1 : Int) < 0; decide, rfl⟩)
    · rw [if_pos (by omega)] at hQ
      refine J68 (-1) M9 i9 FrJ.rf ⟨by decide, by decide⟩ (fun _ M' i' f' a' => ?_) (fun w => absurd w (by decide))
      exact hQ 0 M' i' f' (by rw [a', at9]) (Or.inl ⟨by show (-1 : Int) < 0; decide, rfl⟩)
  · have e : rd2 (M 7) (M 1 16) (eG E) (E 1 4) (E 1 5 + M 1 20) (M 1 15) = (-1, 0, M 1 15) := by
      unfold rd2
      rw [if_pos (by omega)]
    rw [e] at hQ
    exact hQ 0 M hI FrJ.rf rfl (Or.inl ⟨by show (-1 : Int) < 0; decide, rfl⟩)
def cbM (c r0 : Int → Int) (m0 : Int) : Nat → Int → Int
  | 0 => r0
  | i + 1 => adM (cbM c r0 m0 i) (m0 + i) (c (2 * i))
def cow (c w0 : Int → Int) (m0 : Int) : Nat → Int → Int
  | 0 => w0
  | i + 1 => up (cow c w0 m0 i) (m0 + i) (c (2 * i + 1))
theorem cbM_s {c r0 : Int → Int} {m0 i : Int} (h : 0 ≤ i) : cbM c r0 m0 (i + 1).toNat = adM (cbM c r0 m0 i.toNat) (m0 + i) (c (2 * i)) := by
  rw [show (i + 1).toNat = i.toNat + 1 from by omega]
  show adM (cbM c r0 m0 i.toNat) (m0 + (i.toNat : Nat)) (c (2 * (i.toNat : Nat))) = _
  rw [show ((i.toNat : Nat) : Int) = i from by omega]
theorem cow_s {c r0 : Int → Int} {m0 i : Int} (h : 0 ≤ i) : cow c r0 m0 (i + 1).toNat = up (cow c r0 m0 i.toNat) (m0 + i) (c (2 * i + 1)) := by
  rw [show (i + 1).toNat = i.toNat + 1 from by omega]
  show up (cow c r0 m0 i.toNat) (m0 + (i.toNat : Nat)) (c (2 * (i.toNat : Nat) + 1)) = _
  rw [show ((i.toNat : Nat) : Int) = i from by omega]
theorem cbM_cg {c d r0 : Int → Int} {m0 : Int} : ∀ n : Nat, (∀ i : Int, 0 ≤ i → i < 2 * n → c i = d i) → cbM c r0 m0 n = cbM d r0 m0 n := by
  intro n
  induction n with
  | zero => intro _; rfl
  | succ n ih =>
    intro h
    unfold cbM
    rw [ih (fun i a q => h i a (by omega)), h (2 * n) (by omega) (by omega)]
theorem cow_cg {c d r0 : Int → Int} {m0 : Int} : ∀ n : Nat, (∀ i : Int, 0 ≤ i → i < 2 * n → c i = d i) → cow c r0 m0 n = cow d r0 m0 n := by
  intro n
  induction n with
  | zero => intro _; rfl
  | succ n ih =>
    intro h
    unfold cow
    rw [ih (fun i a q => h i a (by omega)), h (2 * n + 1) (by omega) (by omega)]
theorem gX12_mourners_L29 {b v1 : Int} {X60 : Int → Int → Mem → Prop} {Q : Int → Mem → Prop} {M0 E : Mem} {T : Int × Int × Int × (Int → Int) × (Int → Int)} (hE0 : CE E M0) (hX0 : T.1 = 0 → ∀ M' : Mem, IM b M' → FrJ kRm M0 M' → M' 1 15 = T.2.1 → X60 v1 0 M') (hX1 : T.1 = 1 → ∀ M' : Mem, IM b M' → FrJ kRm M0 M' → M' 1 15 = T.2.1 → E 1 5 + M' 1 20 = T.2.2.1 → cbM (M' 9) (M0 5) (E 1 5) (M' 1 20).toNat = T.2.2.2.1 → cow (M' 9) (M0 3) (E 1 5) (M' 1 20).toNat = T.2.2.2.2 → (∀ i, 0 ≤ i → i < M' 1 20 → 0 ≤ M' 9 (2 * i + 1) ∧ M' 9 (2 * i + 1) < E 1 4) → X60 v1 1 M') : ∀ (n : Nat) (v2 : Int) (M : Mem), IM b M → FrJ kRm M0 M → (∀ i, 0 ≤ i → i < M 1 20 → 0 ≤ M 9 (2 * i + 1) ∧ M 9 (2 * i + 1) < E 1 4) → rdM (M0 7) (M0 1 16) (eG E) (E 1 4) n (E 1 5 + M 1 20) (cbM (M 9) (M0 5) (E 1 5) (M 1 20).toNat) (cow (M 9) (M0 3) (E 1 5) (M 1 20).toNat) (M 1 15) = T → M 1 15 ≤ M0 1 16 → E 1 5 + M 1 20 ≤ 8 → 9 ≤ E 1 5 + M 1 20 + n → qX12_mourners_L29 X60 Q (n + 1) v1 v2 1 M := by
  intro n
  induction n with
  | zero => intro v2 M hI hF hw hT ha hm hn; omega
  | succ n ih =>
    intro v2 M hI hF hw hT ha hm hn
    have e7 : M 7 = M0 7 := funext fun j => hF 7 j (by omega)
    have e16 : M 1 16 = M0 1 16 := hF 1 16 (by omega)
    have b20 := bm_c1_20.mp (hI.bx 1 20)
    have b15 := bm_c1_15.mp (hI.bx 1 15)
    have hE : CE E M := hE0.fr hF (by intro k j h; rcases h with h | h | h | h | h <;> omega)
    rw [qX12_mourners_L29]
    refine ⟨⟨by decide, by decide⟩, ⟨fun c => absurd c (by decide), fun _ => ?_⟩⟩
    refine gX12_readsMourner hI hE hm (by rw [e16]; exact ha) ?_
    intro z7 M7 i7 f7 a7 p7 _ _
    rw [e7, e16] at a7 p7
    have rb := rd2_b (f := M0 7) (t := M0 1 16) (g := eG E) (H := E 1 4) (m := E 1 5 + M 1 20) (a := M 1 15) ⟨b15.1, ha⟩
    have F7 : FrJ kRm M0 M7 := hF.tr f7
    unfold rdM at hT
    refine ⟨fun c => ?_, fun c => ?_⟩
    · have c1 : (rd2 (M0 7) (M0 1 16) (eG E) (E 1 4) (E 1 5 + M 1 20) (M 1 15)).1 < 0 := by
        rcases p7 with q | q
        · exact q.1
        · omega
      rw [if_pos c1] at hT
      subst hT
      rw [c, qX12_mourners_L29]
      exact ⟨⟨by decide, by decide⟩, ⟨fun _ => hX0 rfl M7 i7 F7 a7, fun q => absurd rfl q⟩⟩
    · rcases p7 with q | ⟨q0, q1, q2, q3, q4, q5⟩
      · exact absurd q.2 c
      · have h6 := rb.2.2 q0
        rw [if_neg (by omega)] at hT
        refine gX12_takes i7 ?_
        intro z9 M9 i9 f9 p9 _ _
        have g7 : M7 7 = M0 7 := funext fun j => F7 7 j (by omega)
        have g16 : M7 1 16 = M0 1 16 := F7 1 16 (by omega)
        rw [g7, g16, a7] at p9
        have F9 : FrJ kRm M0 M9 := F7.tr (f9.mono (by intro k j h; omega))
        have g20 : M9 1 20 = M 1 20 + 1 := by rw [f9 1 20 (by omega)]; exact q2
        have g9 : M9 9 = M7 9 := funext fun j => f9 9 j (by omega)
        have CB9 : cbM (M9 9) (M0 5) (E 1 5) (M9 1 20).toNat = adM (cbM (M 9) (M0 5) (E 1 5) (M 1 20).toNat) (E 1 5 + M 1 20) (rd2 (M0 7) (M0 1 16) (eG E) (E 1 4) (E 1 5 + M 1 20) (M 1 15)).1 := by
          rw [g9, g20, cbM_s b20.1, q4, cbM_cg (c := M7 9) (d := M 9) _ (fun i a w => q3 i a (by omega))]
        have CO9 : cow (M9 9) (M0 3) (E 1 5) (M9 1 20).toNat = up (cow (M 9) (M0 3) (E 1 5) (M 1 20).toNat) (E 1 5 + M 1 20) (rd2 (M0 7) (M0 1 16) (eG E) (E 1 4) (E 1 5 + M 1 20) (M 1 15)).2.1 := by
          rw [g9, g20, cow_s b20.1, q5, cow_cg (c := M7 9) (d := M 9) _ (fun i a w => q3 i a (by omega))]
        have HW9 : ∀ i, 0 ≤ i → i < M9 1 20 → 0 ≤ M9 9 (2 * i + 1) ∧ M9 9 (2 * i + 1) < E 1 4 := by
          intro i a w
          rw [g9]
          by_cases ci : i = M 1 20
          · rw [ci, q5]
            exact h6.2.2
          · rw [q3 _ (by omega) (by omega)]
            exact hw i a (by omega)
        rw [q1]
        rcases p9 with ⟨w1, w2, w3⟩ | ⟨w1, w2, w3⟩
        · rw [if_pos w1] at hT
          refine ⟨fun d => by omega, fun d => ?_⟩
          refine ih 1 M9 i9 F9 HW9 ?_ (by omega) (by omega) (by omega)
          rw [CB9, CO9, w3, g20, ← Int.add_assoc]
          exact hT
        · rw [if_neg w1] at hT
          refine ⟨fun d => ?_, fun d => by omega⟩
          subst hT
          rw [qX12_mourners_L29]
          refine ⟨⟨by decide, by decide⟩, ⟨fun _ => ?_, fun q => absurd rfl q⟩⟩
          exact hX1 rfl M9 i9 F9 w3 (by show E 1 5 + M9 1 20 = E 1 5 + M 1 20 + 1; omega) CB9 CO9 HW9
theorem gX12_mourners_L81 {b : Int} {X173 : Mem → Prop} {Q : Int → Mem → Prop} {M0 E : Mem} (hE5 : M0 1 5 = E 1 5) (hm : E 1 5 + M0 1 20 ≤ 8 ∧ 0 ≤ M0 1 20 ∧ 0 ≤ E 1 5) (hw : ∀ i, 0 ≤ i → i < M0 1 20 → 0 ≤ M0 9 (2 * i + 1) ∧ M0 9 (2 * i + 1) ≤ 5) (hX : ∀ M' : Mem, IM b M' → FrJ (fun k j => k = 5 ∨ k = 3 ∨ (k = 1 ∧ j = 5)) M0 M' → M' 1 5 = E 1 5 + M0 1 20 → M' 5 = cbM (M0 9) (M0 5) (E 1 5) (M0 1 20).toNat → M' 3 = cow (M0 9) (M0 3) (E 1 5) (M0 1 20).toNat → X173 M') : ∀ (n : Nat) (v5 : Int) (M : Mem), IM b M → FrJ (fun k j => k = 5 ∨ k = 3 ∨ (k = 1 ∧ j = 5)) M0 M → M 1 5 = E 1 5 + v5 → M 5 = cbM (M0 9) (M0 5) (E 1 5) v5.toNat → M 3 = cow (M0 9) (M0 3) (E 1 5) v5.toNat → (0 ≤ v5 ∧ v5 ≤ M0 1 20) → M0 1 20 - v5 < (n : Int) → qX12_mourners_L81 X173 Q n v5 M := by
  intro n
  induction n with
  | zero => intro v5 M hI hF h4 h5 h3 hv hn; exact absurd hn (by omega)
  | succ n ih =>
    intro v5 M hI hF h4 h5 h3 hv hn
    have g20 : M 1 20 = M0 1 20 := hF 1 20 (by omega)
    rw [qX12_mourners_L81]
    intro x16 e16 _
    refine ⟨⟨by omega, by omega⟩, ⟨fun c => ?_, fun c => ?_⟩⟩
    · have ev : v5 = M0 1 20 := by omega
      rw [ev] at h4 h5 h3
      exact hX M hI hF h4 h5 h3
    have w := hw v5 hv.1 (by omega)
    intro x19 e19 _
    refine ⟨by omega, by omega, ?_⟩
    intro x22 e22 _
    have b22 : -1 ≤ x22 ∧ x22 ≤ 29 := by rw [e22]; exact bm_c9.mp (hI.bx _ _)
    have f22 : x22 = M0 9 (2 * v5) := by rw [e22]; exact hF 9 _ (by omega)
    refine ⟨by omega, by omega, ?_⟩
    intro M25 h25 x26 e26 _
    have f26 : x26 = E 1 5 + v5 := by rw [e26, h25, up2_n (by decide)]; exact h4
    refine ⟨by omega, by omega, ?_⟩
    intro x29 e29 _
    have f29 : x29 = M0 9 (2 * v5 + 1) := by rw [e29, h25, up2_n (by decide)]; exact hF 9 _ (by omega)
    refine ⟨by omega, by omega, ?_⟩
    intro M32 h32 x33 e33 _
    have f33 : x33 = E 1 5 + v5 := by rw [e33, h32, up2_n (by decide), h25, up2_n (by decide)]; exact h4
    refine ⟨by omega, by omega, ?_⟩
    intro M36 h36 x37 e37 _
    have f37 : x37 = E 1 5 + v5 := by rw [e37, h36, up2_n (by decide), h32, up2_n (by decide), h25, up2_n (by decide)]; exact h4
    refine ⟨by omega, by omega, ?_⟩
    intro M40 h40 x41 e41 _
    have f41 : x41 = E 1 5 + v5 := by rw [e41, h40, up2_n (by decide), h36, up2_n (by decide), h32, up2_n (by decide), h25, up2_n (by decide)]; exact h4
    refine ⟨⟨by omega, by omega⟩, ?_⟩
    intro M43 h43
    have i25 : IM b M25 := by rw [h25]; exact hI.up (by omega) ((bm_n (Or.inl rfl)).mpr ⟨by omega, by omega, by omega, by omega⟩)
    have i32 : IM b M32 := by rw [h32]; exact i25.up (by omega) (bm_c3.mpr ⟨by omega, by omega⟩)
    have i36 : IM b M36 := by rw [h36]; exact i32.up (by omega) ((bm_n (Or.inl rfl)).mpr ⟨by omega, by omega, by omega, by omega⟩)
    have i40 : IM b M40 := by rw [h40]; exact i36.up (by omega) ((bm_n (Or.inl rfl)).mpr ⟨by omega, by omega, by omega, by omega⟩)
    have i43 : IM b M43 := by rw [h43]; exact i40.up (by omega) (bm_c1_5.mpr ⟨by omega, by omega⟩)
    refine ih _ M43 i43 (by rw [h43, h40, h36, h32, h25]; exact ((((hF.up (Or.inl rfl)).up (Or.inr (Or.inl rfl))).up (Or.inl rfl)).up (Or.inl rfl)).up (Or.inr (Or.inr ⟨rfl, rfl⟩))) (by rw [h43, up2_s]; omega) ?_ ?_ (by omega) (by omega)
    · rw [h43, up2_n (by decide), h40, up2_up, h36, up2_up, h32, up2_n (by decide), h25, up2_up, cbM_s hv.1, h5, f22, f33, f37, show x19 = E 1 5 + v5 from by omega]
      rfl
    · rw [h43, up2_n (by decide), h40, up2_n (by decide), h36, up2_n (by decide), h32, up2_up, h25, up2_n (by decide), cow_s hv.1, h3, f29, f26]
theorem gX12_mourners {b : Int} {M E : Mem} {Q : Int → Mem → Prop} (hI : IM b M) (hE : CE E M) (hb : b + 1 ≤ 2000000000) (hQ : ∀ M' : Mem, IM (b + 1) M' → M' 1 14 = 0 → (msOK (M 7) (M 1 14) (eG E) (E 1 4) (E 1 5) (M 5) (E 3) ∧ M 1 14 ≠ 0 → M' 1 5 = (msT (M 7) (M 1 14) (eG E) (E 1 4) (E 1 5) (M 5) (E 3)).2.2.1 ∧ M' 5 = (msT (M 7) (M 1 14) (eG E) (E 1 4) (E 1 5) (M 5) (E 3)).2.2.2.1 ∧ M' 3 = (msT (M 7) (M 1 14) (eG E) (E 1 4) (E 1 5) (M 5) (E 3)).2.2.2.2 ∧ M' 1 28 = 0 ∧ M' 1 6 = M 1 6 + 1 ∧ FrJ (fun k j => k = 3 ∨ k = 5 ∨ k = 9 ∨ (k = 1 ∧ (j = 0 ∨ j = 5 ∨ j = 6 ∨ j = 14 ∨ j = 15 ∨ j = 16 ∨ j = 17 ∨ j = 20 ∨ j = 28))) M M') → (¬ (msOK (M 7) (M 1 14) (eG E) (E 1 4) (E 1 5) (M 5) (E 3) ∧ M 1 14 ≠ 0) → FrJ (fun k j => k = 9 ∨ (k = 1 ∧ (j = 0 ∨ j = 14 ∨ j = 15 ∨ j = 16 ∨ j = 17 ∨ j = 20))) M M') → Q (msA (M 7) (M 1 14) (eG E) (E 1 4) (E 1 5) (M 5) (E 3)) M') : qX12_mourners M Q := by
  have bL := bm_c1_14.mp (hI.bx 1 14)
  have e5 : M 1 5 = E 1 5 := hE 1 5 cE15
  have e4 : M 1 4 = E 1 4 := hE 1 4 cE14
  have b5 := bm_c1_5.mp (hI.bx 1 5)
  have b4 := bm_c1_4.mp (hI.bx 1 4)
  have e3 : M 3 = E 3 := funext fun j => hE 3 j (cE3 j)
  unfold msA at hQ
  unfold qX12_mourners
  intro M1 h1
  have i1 : IM b M1 := by rw [h1]; exact hI.up (by omega) (by simp [BM])
  have F1 : FrJ (fun k j => k = 9 ∨ (k = 1 ∧ (j = 0 ∨ j = 14 ∨ j = 15 ∨ j = 16 ∨ j = 17 ∨ j = 20))) M M1 := by rw [h1]; exact FrJ.rf.up (by omega)
  have g14 : M1 1 14 = M 1 14 := by rw [h1, up2_j (by decide)]
  refine gX12_begins (p1 := 39) i1 (by decide) ?_
  intro M2 i2 f2 a2 t2 _ l2
  rw [g14] at t2 ⊢
  intro _ M3 h3
  have i3 : IM b M3 := by rw [h3]; exact i2.up (by omega) (bm_c1_20.mpr (by decide))
  have F3 : FrJ (fun k j => k = 9 ∨ (k = 1 ∧ (j = 0 ∨ j = 14 ∨ j = 15 ∨ j = 16 ∨ j = 17 ∨ j = 20))) M M3 := by
    rw [h3]
    exact (F1.tr (f2.mono (by intro k j h; omega))).up (by omega)
  have k20 : M3 1 20 = 0 := by rw [h3, up2_s]
  have k15 : M3 1 15 = 0 := by rw [h3, up2_j (by decide)]; exact a2
  have k16 : M3 1 16 = min (M 1 14) 39 := by rw [h3, up2_j (by decide)]; exact t2
  have k14 : M3 1 14 = 0 := by rw [h3, up2_j (by decide)]; exact l2
  have E3 : CE E M3 := hE.fr F3 (by intro k j h; rcases h with h | h | h | h | h <;> omega)
  have g7 : M3 7 = M 7 := funext fun j => F3 7 j (by omega)
  have g5 : M3 5 = M 5 := funext fun j => F3 5 j (by omega)
  have g3 : M3 3 = E 3 := by rw [← e3]; exact funext fun j => F3 3 j (by omega)
  have FIN : ∀ (is : Int) (M' : Mem), IM b M' → FrJ kRm M3 M' → (is = 0 ∨ is = 1) → M' 1 15 ≤ min (M 1 14) 39 → (is = 1 → E 1 5 + M' 1 20 ≤ 8) → (is = 1 → ∀ i, 0 ≤ i → i < M' 1 20 → 0 ≤ M' 9 (2 * i + 1) ∧ M' 9 (2 * i + 1) ≤ 5) → (is = 1 ∧ M 1 14 ≤ M' 1 15 → (M 1 14 = 0 ∧ M' 1 20 = 0) ∨ (msOK (M 7) (M 1 14) (eG E) (E 1 4) (E 1 5) (M 5) (E 3) ∧ M 1 14 ≠ 0 ∧ 0 < M' 1 20 ∧ E 1 5 + M' 1 20 = (msT (M 7) (M 1 14) (eG E) (E 1 4) (E 1 5) (M 5) (E 3)).2.2.1 ∧ cbM (M' 9) (M 5) (E 1 5) (M' 1 20).toNat = (msT (M 7) (M 1 14) (eG E) (E 1 4) (E 1 5) (M 5) (E 3)).2.2.2.1 ∧ cow (M' 9) (E 3) (E 1 5) (M' 1 20).toNat = (msT (M 7) (M 1 14) (eG E) (E 1 4) (E 1 5) (M 5) (E 3)).2.2.2.2)) → (¬ (is = 1 ∧ M 1 14 ≤ M' 1 15) → M 1 14 ≠ 0 ∧ ¬ msOK (M 7) (M 1 14) (eG E) (E 1 4) (E 1 5) (M 5) (E 3) ∧ M' 1 15 = (msT (M 7) (M 1 14) (eG E) (E 1 4) (E 1 5) (M 5) (E 3)).2.1) → qX12_faultOf (M 1 14) 39 is M' (fun (x14 : Int) (M14 : Mem) => iR x14 → (((0 ≤ x14) → (∃ n44 : Nat, qX12_mourners_L81 (fun (M : Mem) => qX12_isNew M (fun (x45 : Int) (M45 : Mem) => iR x45 → (Q x45 M45))) Q n44 0 M14)) ∧ ((¬ (0 ≤ x14)) → (Q x14 M14)))) := by
    intro is M' i' f' his ha' h6 hw' hok hbad
    have q14 : M' 1 14 = 0 := by rw [f' 1 14 (by omega)]; exact k14
    have q16 : M' 1 16 = min (M 1 14) 39 := by rw [f' 1 16 (by omega)]; exact k16
    have q5' : M' 1 5 = E 1 5 := by rw [f' 1 5 (by omega)]; exact E3 1 5 cE15
    have q5 : M' 5 = M 5 := by rw [← g5]; exact funext fun j => f' 5 j (by omega)
    have q3 : M' 3 = E 3 := by rw [← g3]; exact funext fun j => f' 3 j (by omega)
    have b20 := bm_c1_20.mp (i'.bx 1 20)
    have b15 := bm_c1_15.mp (i'.bx 1 15)
    have F' : FrJ (fun k j => k = 9 ∨ (k = 1 ∧ (j = 0 ∨ j = 14 ∨ j = 15 ∨ j = 16 ∨ j = 17 ∨ j = 20))) M M' := F3.tr (f'.mono (by intro k j h; omega))
    refine gX12_faultOf i' his (by decide) bL q16 (by rw [q16]; exact ha') ?_
    intro _
    by_cases c : is = 1 ∧ M 1 14 ≤ M' 1 15
    · rw [if_pos c]
      refine ⟨fun _ => ⟨10, ?_⟩, fun q => absurd (by decide) q⟩
      refine gX12_mourners_L81 (b := b) (M0 := M') (E := E) q5' ⟨h6 c.1, b20.1, by omega⟩ (hw' c.1) ?_ 10 0 M' i' FrJ.rf (by omega) rfl rfl (by omega) (by omega)
      intro M4 i4 f4 w4 w5 w3
      have q20 : M4 1 20 = M' 1 20 := f4 1 20 (by omega)
      refine gX12_isNew i4 hb ?_
      intro M5 i5 f5 n1 n2 _
      rw [q20] at n1 n2 ⊢
      have q6 : M4 1 6 = M 1 6 := by rw [f4 1 6 (by omega), F' 1 6 (by omega)]
      have z14 : M5 1 14 = 0 := by rw [f5 1 14 (by omega), f4 1 14 (by omega)]; exact q14
      rcases hok c with ⟨u1, u2⟩ | ⟨u1, u2, u3, u4, u5, u6⟩
      · obtain ⟨v1, v2⟩ := n2 (by omega)
        have H := hQ M5 i5 z14 (fun q => absurd u1 q.2) (fun _ => fun k j h => ?_)
        · rw [if_pos u1] at H
          rw [u2]
          exact H
        · by_cases k6 : k = 1 ∧ j = 6
          · rw [k6.1, k6.2, v2, q6]
          · by_cases k28 : k = 1 ∧ j = 28
            · rw [k28.1, k28.2, v1, f4 1 28 (by omega)]
              exact F' 1 28 (by omega)
            · rw [f5 k j (by omega)]
              by_cases kk : k = 5 ∨ k = 3 ∨ (k = 1 ∧ j = 5)
              · rcases kk with kk | kk | kk
                · rw [kk, w5, u2, q5]
                  rfl
                · rw [kk, w3, u2, q3, e3]
                  rfl
                · rw [kk.1, kk.2, w4, u2, e5]
                  omega
              · rw [f4 k j (by omega)]
                exact F' k j h
      · obtain ⟨v1, v2⟩ := n1 u3
        have H := hQ M5 i5 z14 (fun _ => ⟨?_, ?_, ?_, v1, by omega, ?_⟩) (fun q => absurd ⟨u1, u2⟩ q)
        · rw [if_neg u2, if_pos u1, ← u4] at H
          rw [show E 1 5 + M' 1 20 - E 1 5 = M' 1 20 from by omega] at H
          exact H
        · rw [f5 1 5 (by omega), w4, u4]
        · rw [← u5, ← q5, ← w5]
          exact funext fun j => f5 5 j (by omega)
        · rw [← u6, ← q3, ← w3]
          exact funext fun j => f5 3 j (by omega)
        · exact ((F'.mono (by intro k j h; omega)).tr (f4.mono (by intro k j h; omega))).tr (f5.mono (by intro k j h; omega))
    · rw [if_neg c]
      refine ⟨fun q => by omega, fun _ => ?_⟩
      obtain ⟨u1, u2, u3⟩ := hbad c
      have H := hQ M' (i'.mono (by omega)) q14 (fun q => absurd q.1 u2) (fun _ => F')
      rw [if_neg u1, if_neg u2, ← u3] at H
      exact H
  refine ⟨fun c => ⟨1, by decide, ?_⟩, fun c => ⟨10, by decide, ?_⟩⟩
  · rw [qX12_mourners_L29]
    refine ⟨⟨by decide, by decide⟩, ⟨fun _ => ⟨⟨by omega, by omega⟩, ⟨by decide, by decide⟩, ?_⟩, fun q => absurd rfl q⟩⟩
    exact FIN 1 M3 i3 FrJ.rf (Or.inr rfl) (by omega) (fun _ => by omega) (fun _ i a q => by omega) (fun _ => Or.inl ⟨by omega, k20⟩) (fun q => absurd ⟨rfl, by omega⟩ q)
  · have hb7 := rdM_b (f := M 7) (t := min (M 1 14) 39) (g := eG E) (H := E 1 4) 9 (E 1 5) (M 5) (E 3) 0 (by omega) (by omega) (by omega)
    have hTT : rdM (M 7) (min (M 1 14) 39) (eG E) (E 1 4) 9 (E 1 5) (M 5) (E 3) 0 = msT (M 7) (M 1 14) (eG E) (E 1 4) (E 1 5) (M 5) (E 3) := rfl
    rw [hTT] at hb7
    refine gX12_mourners_L29 (b := b) (M0 := M3) (E := E) (T := msT (M 7) (M 1 14) (eG E) (E 1 4) (E 1 5) (M 5) (E 3)) E3 ?_ ?_ 9 1 M3 i3 FrJ.rf (fun i a q => by omega) ?_ (by rw [k15, k16]; omega) (by omega) (by omega)
    · intro T0 M' i' f' a'
      refine ⟨⟨by omega, by omega⟩, ⟨by decide, by decide⟩, ?_⟩
      exact FIN 0 M' i' f' (Or.inl rfl) (by rw [a']; exact hb7.1.2) (fun q => absurd q (by decide)) (fun q => absurd q (by decide)) (fun q => absurd q.1 (by decide)) (fun _ => ⟨by omega, fun q => by have := q.1; omega, a'⟩)
    · intro T1 M' i' f' a' n' cb' co' hw'
      rw [g5] at cb'
      rw [g3] at co'
      have b20 := bm_c1_20.mp (i'.bx 1 20)
      refine ⟨⟨by omega, by omega⟩, ⟨by decide, by decide⟩, ?_⟩
      exact FIN 1 M' i' f' (Or.inr rfl) (by rw [a']; exact hb7.1.2) (fun _ => by omega) (fun _ i a q => by have := hw' i a q; omega) (fun q => Or.inr ⟨⟨T1, by omega⟩, by omega, by omega, n', cb', co'⟩) (fun q => ⟨by omega, fun w => q ⟨rfl, by have := w.2; omega⟩, a'⟩)
    · rw [g7, k16, k20, k15, g5, g3, Int.add_zero]
      exact hTT
-- the state after
theorem WR.addM {E : Mem} {r w : Int → Int} {m v o : Int} (hW : WR (eM E w m) r) (h4 : 0 ≤ E 1 4 ∧ E 1 4 ≤ 6) (hm : 0 ≤ m ∧ m < 8) (hv : 0 ≤ v ∧ v < eG E) : WR (eM E (up w m o) (m + 1)) (adM r m v) := by
  obtain ⟨a, b, c, d, e⟩ := hW
  have g1 : ∀ w' m', eG (eM E w' m') = eG E := fun w' m' => by show eM E w' m' 1 3 - 1 = E 1 3 - 1; rw [eM_1 _ _ _ (by decide)]
  have g2 : ∀ w' m', eH (eM E w' m') = eH E := fun w' m' => by show (eM E w' m' 1 4).toNat = (E 1 4).toNat; rw [eM_1 _ _ _ (by decide)]
  have lo : ∀ j, j ≤ 12 → adM r m v j = r j := fun j q => adM_o (by omega)
  have h37 : adM r m v 37 = r 37 := adM_o (by omega)
  unfold WR DST
  rw [g1, g2, eM_1 _ _ _ (by decide), eM_5]
  rw [g1] at b c
  rw [eM_1 _ _ _ (by decide)] at b
  rw [eM_5, eM_1 _ _ _ (show (4 : Int) ≠ 5 by decide)] at c
  rw [g2] at d
  unfold DST at a
  rw [eM_1 _ _ _ (by decide)] at a
  refine ⟨fun i j i0 i1 j0 j1 q p => ?_, fun i i0 i1 => ?_, fun i i0 i1 => ?_, ?_, by rw [h37]; exact e⟩
  · rw [lo i (by omega), lo j (by omega)] at q
    rw [lo i (by omega)] at p
    exact a i j i0 i1 j0 j1 q p
  · rw [lo i (by omega), lo (6 + i) (by omega)]
    exact b i i0 i1
  · by_cases ci : i = m
    · rw [ci]
      have v1 : adM r m v (21 + m) = -1 := by unfold adM; rw [up_j (by omega), upS]
      have v2 : adM r m v (13 + m) = v := by unfold adM; rw [up_j (by omega), up_j (by omega), upS]
      have v3 : adM r m v (29 + m) = -1 := by unfold adM; rw [upS]
      rw [v1, v2, v3]
      omega
    · rw [adM_o (by omega), adM_o (by omega), adM_o (by omega)]
      exact c i i0 (by omega)
  · rw [lo 12 (by decide), d]
    have eh : ((eH E : Nat) : Int) = E 1 4 := by
      show (((E 1 4).toNat : Nat) : Int) = E 1 4
      omega
    exact arF_cg (fun i i0 i1 => by rw [lo i (by omega)])
theorem WR.rdm {E : Mem} {f : Int → Int} {t : Int} (h4 : 0 ≤ E 1 4 ∧ E 1 4 ≤ 6) : ∀ (n : Nat) (m : Int) (r w : Int → Int) (a : Int), WR (eM E w m) r → (∀ i, 0 ≤ i → i < m → 0 ≤ w i ∧ w i < E 1 4) → (0 ≤ m ∧ m ≤ 8) → (0 ≤ a ∧ a ≤ t) → (rdM f t (eG E) (E 1 4) n m r w a).1 = 1 → WR (eM E (rdM f t (eG E) (E 1 4) n m r w a).2.2.2.2 (rdM f t (eG E) (E 1 4) n m r w a).2.2.1) (rdM f t (eG E) (E 1 4) n m r w a).2.2.2.1 ∧ ∀ i, 0 ≤ i → i < (rdM f t (eG E) (E 1 4) n m r w a).2.2.1 → 0 ≤ (rdM f t (eG E) (E 1 4) n m r w a).2.2.2.2 i ∧ (rdM f t (eG E) (E 1 4) n m r w a).2.2.2.2 i < E 1 4 := by
  intro n
  induction n with
  | zero => intro m r w a hW hw hm ha h; exact absurd h (by show ¬ (0 : Int) = 1; decide)
  | succ n ih =>
    intro m r w a hW hw hm ha h
    have b1 := rd2_b (f := f) (t := t) (g := eG E) (H := E 1 4) (m := m) ha
    unfold rdM at h ⊢
    by_cases c : (rd2 f t (eG E) (E 1 4) m a).1 < 0
    · rw [if_pos c] at h
      exact absurd h (by show ¬ (0 : Int) = 1; decide)
    · rw [if_neg c] at h ⊢
      have h6 := b1.2.2 (by omega)
      have W := hW.addM (o := (rd2 f t (eG E) (E 1 4) m a).2.1) h4 ⟨hm.1, h6.1⟩ (v := (rd2 f t (eG E) (E 1 4) m a).1) ⟨by omega, h6.2.1⟩
      have hw' : ∀ i, 0 ≤ i → i < m + 1 → 0 ≤ up w m (rd2 f t (eG E) (E 1 4) m a).2.1 i ∧ up w m (rd2 f t (eG E) (E 1 4) m a).2.1 i < E 1 4 := by
        intro i p q
        by_cases ci : i = m
        · rw [ci, upS]; exact h6.2.2
        · rw [up_j ci]; exact hw i p (by omega)
      by_cases c2 : (rd2 f t (eG E) (E 1 4) m a).2.2 < t ∧ f (rd2 f t (eG E) (E 1 4) m a).2.2 = 59
      · rw [if_pos c2] at h ⊢
        exact ih _ _ _ _ W hw' (by omega) (by omega) h
      · rw [if_neg c2] at h ⊢
        exact ⟨W, hw'⟩
theorem LAW.em {E M : Mem} {kl : Nat} {w : Int → Int} {m : Int} (h : LAW E M kl) : LAW (eM E w m) M kl := by
  unfold LAW
  rw [eM_1 _ _ _ (by decide), eM_k _ _ _ (by decide) (by decide)]
  exact h
theorem STR.em {E M : Mem} {w : Int → Int} {m : Int} (h : STR E M) (hm : 0 ≤ m ∧ m ≤ 8) (hw : ∀ i, 0 ≤ i → i < m → 0 ≤ w i ∧ w i < E 1 4) : STR (eM E w m) M := by
  obtain ⟨a1, a2, a3, a4, a5, a6, a7, a8, a9⟩ := h
  unfold STR
  rw [eM_1 _ _ _ (show (3 : Int) ≠ 5 by decide), eM_1 _ _ _ (show (4 : Int) ≠ 5 by decide), eM_1 _ _ _ (show (7 : Int) ≠ 5 by decide), eM_5, eM_3, eM_k _ _ _ (show 2 ≠ 1 by decide) (by decide), eM_k _ _ _ (show 4 ≠ 1 by decide) (by decide)]
  exact ⟨a1, a2, a3, a4, a5, a6, a7, hm, hw⟩
theorem STA.mourners {E MX MM MX' MM' : Mem} {m' : Int} {r' w' : Int → Int} (h : STA E MX MM) (hE : EBx E) (hI : IX MX) (hm : E 1 5 < m' ∧ m' ≤ 8) (hw : ∀ i, 0 ≤ i → i < m' → 0 ≤ w' i ∧ w' i < E 1 4) (kx : Ks (fun k j => (1 ≤ k ∧ k ≤ 14) ∨ k = 156 ∨ (k = 163 ∧ j = 2)) MX MX') (x2 : MX' 163 2 = 0) (hC : SC (eM E w' m') MX' 1 r') (m5 : MM' 5 = r') (m28 : MM' 1 28 = 0) (m6 : MM' 1 6 = MM 1 6 + 1) (km : FrJ (fun k j => k = 3 ∨ k = 5 ∨ k = 9 ∨ (k = 1 ∧ (j = 0 ∨ j = 5 ∨ j = 6 ∨ j = 14 ∨ j = 15 ∨ j = 16 ∨ j = 17 ∨ j = 20 ∨ j = 28))) MM MM') (hW : WR (eM E w' m') r') : STA (eM E w' m') MX' MM' := by
  have e5 := hE.2.2
  obtain ⟨a, b, c, d, e, f⟩ := h
  refine ⟨(a.fr (kx _ _ (by omega)) (kx _ _ (by omega)) (kx _ _ (by omega)) (fun j => kx 159 j (by omega))).em (by omega) hw, (b.kx hI (kx _ _ (by omega)) (fun k j q => kx k j (by omega))).em, by rw [m5]; exact hC, by rw [m5]; exact hW, HIS.nil x2 m28, ?_⟩
  intro i p q
  obtain ⟨u, v⟩ := f i p q
  rw [kx 166 i (by omega), km 29 i (by omega), km 30 i (by omega), m6, kx (29 + 7 * i.toNat) 6 (by omega), kx (29 + 7 * i.toNat) 7 (by omega), eM_5, eM_1 _ _ _ (show (4 : Int) ≠ 5 by decide)]
  refine ⟨u, fun w => ?_⟩
  obtain ⟨b1, b2, b3, b4⟩ := v w
  exact ⟨by omega, by omega, fun w2 => by omega, fun _ => Or.inr (by omega)⟩
