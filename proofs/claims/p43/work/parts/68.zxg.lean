/-! WHERE TO STAND, WHEN TO TURN, THE CROWD -/
/-- the least below N for which it is so; -2: none -/
def LST (ok : Int → Prop) (N z : Int) : Prop := (z = -2 ∧ ∀ v, 0 ≤ v → v < N → ¬ ok v) ∨ ((0 ≤ z ∧ z < N) ∧ ok z ∧ ∀ v, 0 ≤ v → v < z → ¬ ok v)
theorem LST.uq {ok : Int → Prop} {N z w : Int} (h : LST ok N z) (h2 : LST ok N w) : z = w := by
  rcases h with ⟨a, b⟩ | ⟨a, b, c⟩
  · rcases h2 with ⟨d, e⟩ | ⟨d, e, f⟩
    · omega
    · exact absurd e (b w d.1 d.2)
  · rcases h2 with ⟨d, e⟩ | ⟨d, e, f⟩
    · exact absurd b (e z a.1 a.2)
    · rcases Int.lt_or_le z w with q | q
      · exact absurd b (f z a.1 q)
      · rcases Int.lt_or_le w z with q2 | q2
        · exact absurd e (c w d.1 q2)
        · omega
def sdR (r : Int → Int) (m v : Int) : Int → Int := up (up r (13 + m) v) (21 + m) (-1)
theorem WR.sd {E : Mem} {r : Int → Int} {m v : Int} (hW : WR E r) (hE : EBx E) (hm : 0 ≤ m ∧ m < E 1 5) (hv : 0 ≤ v ∧ v < eG E) : WR E (sdR r m v) := by
  have g := hE.2
  have f := hE.f
  have lo : ∀ j, j < 13 → sdR r m v j = r j := fun j hj => by unfold sdR; rw [up_j (by omega), up_j (by omega)]
  refine ⟨fun i j i0 i1 j0 j1 q p => ?_, fun i i0 i1 => ?_, fun i i0 i1 => ?_, ?_, ?_⟩
  · rw [lo i (by omega), lo j (by omega)] at q
    rw [lo i (by omega)] at p
    exact hW.1 i j i0 i1 j0 j1 q p
  · rw [lo i (by omega), lo (6 + i) (by omega)]
    exact hW.2.1 i i0 i1
  · have b := hW.2.2.1 i i0 i1
    unfold sdR
    by_cases c : i = m
    · rw [c, upS, up_j (show 13 + m ≠ 21 + m by omega), upS, up_j (show 29 + m ≠ 21 + m by omega), up_j (show 29 + m ≠ 13 + m by omega), ← c]
      exact ⟨⟨by omega, by omega⟩, hv, b.2.2⟩
    · rw [up_j (show 21 + i ≠ 21 + m by omega), up_j (show 21 + i ≠ 13 + m by omega), up_j (show 13 + i ≠ 21 + m by omega), up_j (show 13 + i ≠ 13 + m by omega), up_j (show 29 + i ≠ 21 + m by omega), up_j (show 29 + i ≠ 13 + m by omega)]
      exact b
  · rw [lo 12 (by omega), hW.2.2.2.1]
    exact arF_cg (fun i p q => by rw [lo i (by omega)])
  · unfold sdR
    rw [up_j (by omega), up_j (by omega)]
    exact hW.2.2.2.2
theorem fol_sd {E : Mem} {r : Int → Int} {m v : Int} (hf : fol E r) (hE : EBx E) (hW : WR E r) (hm : 0 ≤ m ∧ m < E 1 5) : fol E (sdR r m v) := by
  have g := hE.2
  intro i p q w
  have b := (hW.2.2.1 i p q).1
  unfold sdR at w ⊢
  rw [up_j (by omega), up_j (by omega)] at w
  by_cases c : i = m
  · rw [c, upS]
    exact Or.inl (by decide)
  · rw [up_j (show 21 + i ≠ 21 + m by omega), up_j (show 21 + i ≠ 13 + m by omega), up_j (show r (21 + i) ≠ 21 + m by omega), up_j (show r (21 + i) ≠ 13 + m by omega)]
    exact hf i p q w
theorem sd37 {r : Int → Int} {m v : Int} (hm : 0 ≤ m ∧ m ≤ 7) : sdR r m v 37 = r 37 := by unfold sdR; rw [up_j (by omega), up_j (by omega)]
theorem gX11_stands_L42 {p1 : Int} {X117 : Int → Int → Mem → Prop} {Q : Int → Mem → Prop} {M0 E : Mem} {l : Nat} {r : Int → Int} (h : TB E M0 l) (hC : SC E M0 1 r) (hW : WR E r) (hf : fol E r) (h37 : r 37 ≤ 1999999000) (hp : 0 ≤ p1 ∧ p1 < E 1 5) (hX : ∀ (z v2 v3 : Int) (M' : Mem), IX M' → LST (fun v => okR E (sdR r p1 v) p1) (eG E) z → (v3 = 0 ∧ z = -2 ∨ (0 < v3 ∧ v3 ≤ 30) ∧ v2 = z) → X117 v2 v3 M') : ∀ (n : Nat) (v2 v3 v4 : Int) (M : Mem), IX M → Ks (kTr l) M0 M → (-1 ≤ v4 ∧ v4 < eG E) → (0 ≤ v3 ∧ v3 + v4 + 1 ≤ eG E) → (v3 = 0 ∧ (∀ v, v4 < v → v < eG E → ¬ okR E (sdR r p1 v) p1) ∨ 0 < v3 ∧ (v4 < v2 ∧ v2 < eG E) ∧ okR E (sdR r p1 v2) p1 ∧ ∀ v, v4 < v → v < v2 → ¬ okR E (sdR r p1 v) p1) → v4 + 1 < (n : Int) → qX11_stands_L42 p1 X117 Q n v2 v3 v4 M := by
  have hE := h.2.2.2.1.eb
  have g := hE.2
  have g1 := hE.1
  have f := hE.f
  intro n
  induction n with
  | zero => intro v2 v3 v4 M hI hK h4 h3 hv hm; exact absurd hm (by omega)
  | succ n ih =>
    intro v2 v3 v4 M hI hK h4 h3 hv hm
    rw [qX11_stands_L42]
    refine ⟨⟨by omega, by omega⟩, ⟨fun c => ?_, fun c => ?_⟩⟩
    · rcases hv with ⟨a, b⟩ | ⟨a, b, d, e⟩
      · exact hX (-2) v2 v3 M hI (Or.inl ⟨rfl, fun v p q => b v (by omega) q⟩) (Or.inl ⟨a, rfl⟩)
      · exact hX v2 v2 v3 M hI (Or.inr ⟨⟨by omega, b.2⟩, d, fun v p q => e v (by omega) q⟩) (Or.inr ⟨⟨a, by omega⟩, rfl⟩)
    · refine trC h hC hI hK ?_
      intro M8 i8 k8 c8
      refine ⟨hp.1, by omega, ?_⟩
      intro M11 h11 M12 h12
      have i11 : IX M11 := by rw [h11]; exact i8.up (by decide) (by simp [BX]; omega)
      have i12 : IX M12 := by rw [h12]; exact i11.up (by decide) (by simp [BX])
      have k12 : Ks (kTr l) M0 M12 := by rw [h12, h11]; exact (k8.wr (by omega)).wr (by omega)
      have c12 : SC E M12 8 (sdR r p1 v4) := by
        rw [h12, h11]
        exact (c8.place (by omega)).foll (by omega)
      refine trX h i12 k12 c12 (hW.sd hE hp (by omega)) (fol_sd hf hE hW hp) (by rw [sd37 (by omega)]; exact h37) ?_
      intro M14 T i14 k14 c14 w14 g14 _
      refine okX hE c14 g14 hp ?_
      intro z hz _ _
      refine ⟨fun d => ?_, fun d => ?_⟩
      · have no : ¬ okR E (sdR r p1 v4) p1 := by
          rcases hz with q | q
          · omega
          · exact q.2
        refine ih _ _ _ M14 i14 k14 (by omega) (by omega) ?_ (by omega)
        rcases hv with ⟨a, b⟩ | ⟨a, b, d, e⟩
        · refine Or.inl ⟨a, fun v p q => ?_⟩
          by_cases ev : v = v4
          · rw [ev]; exact no
          · exact b v (by omega) q
        · refine Or.inr ⟨a, ⟨by omega, b.2⟩, d, fun v p q => ?_⟩
          by_cases ev : v = v4
          · rw [ev]; exact no
          · exact e v (by omega) q
      · have yes : okR E (sdR r p1 v4) p1 := by
          rcases hz with q | q
          · exact q.2
          · omega
        exact ih _ _ _ M14 i14 k14 (by omega) (by omega) (Or.inr ⟨by omega, ⟨by omega, by omega⟩, yes, fun v p q => by omega⟩) (by omega)
/-- the answer of stands -/
def SDA (E : Mem) (r : Int → Int) (m z : Int) : Prop := (¬ (0 ≤ m ∧ m < E 1 5) ∧ z = -1) ∨ (0 ≤ m ∧ m < E 1 5) ∧ (0 ≤ r (29 + m) ∧ z = -2 ∨ r (29 + m) < 0 ∧ LST (fun v => okR E (sdR r m v) m) (eG E) z)
theorem SDA.uq {E : Mem} {r : Int → Int} {m z w : Int} (h : SDA E r m z) (h2 : SDA E r m w) : z = w := by
  rcases h with ⟨a, b⟩ | ⟨a, b⟩
  · rcases h2 with ⟨c, d⟩ | ⟨c, d⟩
    · omega
    · exact absurd c a
  · rcases h2 with ⟨c, d⟩ | ⟨c, d⟩
    · exact absurd a c
    · rcases b with ⟨b, e⟩ | ⟨b, e⟩
      · rcases d with ⟨d, f⟩ | ⟨d, f⟩ <;> omega
      · rcases d with ⟨d, f⟩ | ⟨d, f⟩
        · omega
        · exact e.uq f
theorem gX11_stands {p1 : Int} {M E : Mem} {l : Nat} {r : Int → Int} {Q : Int → Mem → Prop} (h : TB E M l) (hC : SC E M 1 r) (hW : WR E r) (hf : fol E r) (h37 : r 37 ≤ 1999999000) (hQ : ∀ (z : Int) (M' : Mem), IX M' → SDA E r p1 z → Q z M') : qX11_stands p1 M Q := by
  have hE := h.2.2.2.1.eb
  have g := hE.2
  have g1 := hE.1
  have f := hE.f
  unfold qX11_stands
  refine gX6_isMourner hC ?_
  intro x1 h1 _ _
  refine ⟨fun c => ?_, fun c => hQ _ _ h.1 (Or.inl ⟨by omega, rfl⟩)⟩
  have hp : 0 ≤ p1 ∧ p1 < E 1 5 := by omega
  refine gX6_hasEnded (k0 := 1) (by omega) ?_
  intro x3 h3 _ _
  have w := hW.2.2.1 p1 hp.1 hp.2
  have e3 : M (1 + 6) p1 = r (29 + p1) := hC.2.2.2.2.2.2.2.2.1 p1 hp.1 (by omega)
  rw [e3] at h3
  refine ⟨fun d => ?_, fun d => hQ _ _ h.1 (Or.inr ⟨hp, Or.inl ⟨by omega, rfl⟩⟩)⟩
  refine gX8_gate h.1 h.2.2.2.1 ?_
  intro _
  refine ⟨31, gX11_stands_L42 (E := E) (M0 := M) (r := r) h hC hW hf h37 hp ?_ 31 (-1) 0 (eG E - 1) M h.1 Ks.rf (by omega) (by omega) (Or.inl ⟨rfl, fun v p q => by omega⟩) (by omega)⟩
  intro z v2 v3 M' i' hz hv
  refine ⟨⟨by omega, by omega⟩, ⟨fun c => ?_, fun c => ?_⟩⟩
  · refine tell1 i' ?_
    intro M20 i20 _
    have ez : v2 = z := by omega
    rw [ez]
    refine ⟨?_, hQ z M20 i20 (Or.inr ⟨hp, Or.inr ⟨by omega, hz⟩⟩)⟩
    rcases hz with q | q
    · exact ⟨by omega, by omega⟩
    · exact ⟨by omega, by omega⟩
  · have ez : z = -2 := by omega
    rw [ez] at hz
    exact hQ _ _ i' (Or.inr ⟨hp, Or.inr ⟨by omega, hz⟩⟩)
theorem gX12_stands_L42 {p1 b : Int} {X95 : Int → Int → Mem → Prop} {Q : Int → Mem → Prop} {E : Mem} {r5 g : Int → Int} (hE : EBx E) (ho : ∀ m, 0 ≤ m → m < E 1 5 → 0 ≤ E 3 m ∧ E 3 m < E 1 4) (hW : WR E (cr r5 g)) (hp : 0 ≤ p1 ∧ p1 < E 1 5) (hb : b + 8000 ≤ 2000000000) (hX : ∀ (z v3 : Int) (M' : Mem), IM (b + 8000) M' → LST (fun v => okR E (sdR (cr r5 g) p1 v) p1) (eG E) z → (0 ≤ v3 ∧ v3 ≤ 30) → X95 z v3 M') : ∀ (n : Nat) (v2 v3 v4 : Int) (M : Mem), TM E (b + 200 * (30 - v4)) r5 g M → (-1 ≤ v4 ∧ v4 < eG E) → (0 ≤ v3 ∧ v3 + v4 + 1 ≤ eG E) → (v2 = -2 ∧ (∀ v, v4 < v → v < eG E → ¬ okR E (sdR (cr r5 g) p1 v) p1) ∨ (v4 < v2 ∧ v2 < eG E) ∧ okR E (sdR (cr r5 g) p1 v2) p1 ∧ ∀ v, v4 < v → v < v2 → ¬ okR E (sdR (cr r5 g) p1 v) p1) → v4 + 1 < (n : Int) → qX12_stands_L42 p1 X95 Q n v2 v3 v4 M := by
  have g2 := hE.2
  have g1 := hE.1
  have f := hE.f
  intro n
  induction n with
  | zero => intro v2 v3 v4 M hT h4 h3 hv hm; exact absurd hm (by omega)
  | succ n ih =>
    intro v2 v3 v4 M hT h4 h3 hv hm
    rw [qX12_stands_L42]
    refine ⟨⟨by omega, by omega⟩, ⟨fun c => ?_, fun c => ?_⟩⟩
    · refine hX v2 v3 M (hT.1.mono (by omega)) ?_ (by omega)
      rcases hv with ⟨a, b⟩ | ⟨b, d, e⟩
      · exact Or.inl ⟨a, fun v p q => b v (by omega) q⟩
      · exact Or.inr ⟨⟨by omega, b.2⟩, d, fun v p q => e v (by omega) q⟩
    · refine cpM hT ?_
      intro M9 t9 e9
      refine ⟨by omega, by omega, ?_⟩
      intro M12 h12
      refine ⟨by omega, by omega, ?_⟩
      intro M15 h15
      have e15 : M15 6 = sdR (cr r5 g) p1 v4 := by rw [h15, up2_up, h12, up2_up, e9]; rfl
      have t15 : TM E (b + 200 * (30 - v4)) r5 g M15 := by
        obtain ⟨i9, E9, k9, o9⟩ := t9
        have i12 : IM (b + 200 * (30 - v4)) M12 := by rw [h12]; exact i9.up (by omega) ((bm_n (Or.inr rfl)).mpr ⟨by omega, by omega, by omega, by omega⟩)
        have i15 : IM (b + 200 * (30 - v4)) M15 := by rw [h15]; exact i12.up (by omega) ((bm_n (Or.inr rfl)).mpr ⟨by omega, by omega, by omega, by omega⟩)
        have E12 : CE E M12 := by rw [h12]; exact E9.up (by intro h; rcases h with h | h | h | h | h <;> omega)
        have E15 : CE E M15 := by rw [h15]; exact E12.up (by intro h; rcases h with h | h | h | h | h <;> omega)
        refine ⟨i15, E15, ?_, ?_⟩
        · rw [h15, h12]
          funext j
          rw [up2_n (by decide), up2_n (by decide)]
          exact congrFun k9 j
        · rw [e15]
          exact ((OUT.cr r5 g).up (by omega)).up (by omega)
      refine rtM t15 ho (by rw [e15]; exact hW.sd hE hp (by omega)) (by omega) ?_
      intro M16 t16 _ _
      rw [e15]
      refine okM hE hp ?_
      intro z hz _ _
      refine ⟨fun d => ?_, fun d => ?_⟩
      · have no : ¬ okR E (sdR (cr r5 g) p1 v4) p1 := by
          rcases hz with q | q
          · omega
          · exact q.2
        refine ih _ _ _ M16 (t16.mono (by omega)) (by omega) (by omega) ?_ (by omega)
        rcases hv with ⟨a, b⟩ | ⟨b, d, e⟩
        · refine Or.inl ⟨a, fun v p q => ?_⟩
          by_cases ev : v = v4
          · rw [ev]; exact no
          · exact b v (by omega) q
        · refine Or.inr ⟨⟨by omega, b.2⟩, d, fun v p q => ?_⟩
          by_cases ev : v = v4
          · rw [ev]; exact no
          · exact e v (by omega) q
      · have yes : okR E (sdR (cr r5 g) p1 v4) p1 := by
          rcases hz with q | q
          · exact q.2
          · omega
        exact ih _ _ _ M16 (t16.mono (by omega)) (by omega) (by omega) (Or.inr ⟨⟨by omega, by omega⟩, yes, fun v p q => by omega⟩) (by omega)
theorem gX12_stands {p1 b : Int} {M E : Mem} {Q : Int → Mem → Prop} (hI : IM b M) (hE : CE E M) (ho : ∀ m, 0 ≤ m → m < E 1 5 → 0 ≤ E 3 m ∧ E 3 m < E 1 4) (hW : WR E (cr (M 5) (M 6))) (hb : b + 8000 ≤ 2000000000) (hQ : ∀ (z : Int) (M' : Mem), IM (b + 8000) M' → SDA E (cr (M 5) (M 6)) p1 z → Q z M') : qX12_stands p1 M Q := by
  have E0 := hE.eb hI
  have g := E0.2
  have g1 := E0.1
  have f := E0.f
  unfold qX12_stands
  intro M1 h1
  obtain ⟨i1, E1, k5, k6, _⟩ := th0 hI hE h1
  refine gX12_isMourner i1 E1 ?_
  intro x2 h2 _ _
  refine ⟨fun c => ?_, fun c => hQ _ _ (i1.mono (by omega)) (Or.inl ⟨by omega, rfl⟩)⟩
  have hp : 0 ≤ p1 ∧ p1 < E 1 5 := by omega
  refine gX12_isEnded (k0 := 5) (by omega) ?_
  intro x4 h4 _ _
  rw [k5, ← cr_i (f := M 5) (g := M 6) (j := 29 + p1) (by omega) (by omega)] at h4
  refine ⟨fun d => ?_, fun d => hQ _ _ (i1.mono (by omega)) (Or.inr ⟨hp, Or.inl ⟨by omega, rfl⟩⟩)⟩
  refine gX12_gate i1 E1 ?_
  intro _
  refine ⟨31, gX12_stands_L42 (E := E) (b := b) (r5 := M 5) (g := M 6) E0 ho hW hp hb ?_ 31 (-2) 0 (eG E - 1) M1 ⟨i1.mono (by omega), E1, k5, by rw [k6]; exact fun _ _ => rfl⟩ (by omega) (by omega) (Or.inl ⟨rfl, fun v p q => by omega⟩) (by omega)⟩
  intro z v3 M' i' hz hv
  have hz' : SDA E (cr (M 5) (M 6)) p1 z := Or.inr ⟨hp, Or.inr ⟨by omega, hz⟩⟩
  refine ⟨?_, ⟨fun c => hQ _ _ i' hz', fun c => ?_⟩⟩
  · rcases hz with q | q
    · exact ⟨by omega, by omega⟩
    · exact ⟨by omega, by omega⟩
  · intro M22 h22
    have i22 : IM (b + 8000) M22 := by rw [h22]; exact i'.up (by omega) (bm_c1_1.mpr (by decide))
    have t22 : M22 1 1 = 0 := by rw [h22, up2_s]
    refine ⟨⟨by omega, by omega⟩, ?_⟩
    refine entC i22 (by omega) ?_
    intro M24 i24 _ _
    exact hQ _ _ i24 hz'
