/-! THE REFERENCE TRIES ALL ARRANGEMENTS -/
theorem VAL.row {E : Mem} {r w : Int → Int} (hE : EBx E) (hW : WR E r) (h : VAL E r w) : WR E (wR E r w) := by
  have ef := hE.f
  have sur : ∀ a, 0 ≤ a → a < unF r (eH E) → ∃ i, (0 ≤ i ∧ i < E 1 4) ∧ 0 ≤ r i ∧ unF r i.toNat = a := fun a p t => by
    obtain ⟨i, hi, g⟩ := unF_sur (eH E) a p t
    exact ⟨i, by omega, g⟩
  have ix : ∀ i, 0 ≤ i → i < E 1 4 → 0 ≤ r i → oxF r (eH E) (unF r i.toNat) = i := fun i p t c => oxF_u _ i (by omega) c
  have e : wR E r w = plR r (fun a => w (oxF r (eH E) a)) (eH E) := funext fun j => by
    unfold wR
    by_cases c : 0 ≤ j ∧ j < E 1 4
    · rw [if_pos c, plR_i _ j (by omega)]
      have g := hW.2.1 j c.1 c.2
      by_cases d : r j < 0
      · rw [if_pos d, h.1 j c.1 c.2 d]; omega
      · rw [if_neg d, ix j c.1 c.2 (by omega)]
    · rw [if_neg c, plR_o _ j (by omega)]
  rw [e]
  refine plR_W hE hW (fun a b a0 a1 b0 b1 e => ?_) (fun a a0 a1 => ?_)
  · obtain ⟨i, hi, ri, ei⟩ := sur a a0 a1
    obtain ⟨j, hj, rj, ej⟩ := sur b b0 b1
    have e' : w (oxF r (eH E) a) = w (oxF r (eH E) b) := e
    rw [← ei, ← ej, ix i hi.1 hi.2 ri, ix j hj.1 hj.2 rj] at e'
    have := h.2.2 i j hi.1 hi.2 hj.1 hj.2 ri rj e'
    rw [← ei, ← ej, this]
  · obtain ⟨i, hi, ri, ei⟩ := sur a a0 a1
    obtain ⟨k, hk, rk, ek⟩ := h.2.1 i hi.1 hi.2 ri
    have g := hW.2.1 k hk.1 hk.2
    show 0 ≤ w (oxF r (eH E) a) ∧ w (oxF r (eH E) a) < eG E
    rw [← ei, ix i hi.1 hi.2 ri, ek]
    omega
theorem wR_cg {E : Mem} {r w c : Int → Int} (h : ∀ j, 0 ≤ j → j < E 1 4 → w j = c j) : wR E r w = wR E r c := funext fun j => by
  unfold wR
  by_cases d : 0 ≤ j ∧ j < E 1 4
  · rw [if_pos d, if_pos d]; exact h j d.1 d.2
  · rw [if_neg d, if_neg d]
/-- the first p1 hearses are put so, on the cells of those in p2 -/
def PX (E : Mem) (r c : Int → Int) (p1 p2 : Int) : Prop := (∀ h, 0 ≤ h → h < p1 → r h < 0 → c h = -1) ∧ (∀ h, 0 ≤ h → h < p1 → 0 ≤ r h → ∃ i, (0 ≤ i ∧ i < E 1 4) ∧ 0 ≤ r i ∧ c h = r i) ∧ (∀ h i, 0 ≤ h → h < p1 → 0 ≤ i → i < p1 → 0 ≤ r h → 0 ≤ r i → c h = c i → h = i) ∧ ∀ i, 0 ≤ i → i < E 1 4 → 0 ≤ r i → (bt (iI p2) i.toNat = true ↔ ∃ h, (0 ≤ h ∧ h < p1) ∧ 0 ≤ r h ∧ c h = r i)
theorem PX.cg {E : Mem} {r c c' : Int → Int} {p1 p2 : Int} (h : PX E r c p1 p2) (e : ∀ j, j < p1 → c' j = c j) : PX E r c' p1 p2 := by
  obtain ⟨a1, a2, a3, a4⟩ := h
  refine ⟨fun h p t u => by rw [e h t]; exact a1 h p t u, fun h p t u => by rw [e h t]; exact a2 h p t u, fun h i p t p2 t2 u u2 q => ?_, fun i p t u => ?_⟩
  · rw [e h t, e i t2] at q
    exact a3 h i p t p2 t2 u u2 q
  · rw [a4 i p t u]
    refine ⟨fun ⟨h, q, s, v⟩ => ⟨h, q, s, by rw [e h q.2]; exact v⟩, fun ⟨h, q, s, v⟩ => ⟨h, q, s, by rw [← e h q.2]; exact v⟩⟩
theorem PX.arr {E : Mem} {r c : Int → Int} {p1 p2 : Int} (h : PX E r c p1 p2) (hr : r p1 < 0) : PX E r (up c p1 (-1)) (p1 + 1) p2 := by
  have h' : PX E r (up c p1 (-1)) p1 p2 := h.cg (fun j q => up_j (by omega))
  obtain ⟨a1, a2, a3, a4⟩ := h'
  have ne : ∀ h, h < p1 + 1 → 0 ≤ r h → h < p1 := fun h t u => by
    by_cases c : h = p1
    · subst c; omega
    · omega
  refine ⟨fun h p t u => ?_, fun h p t u => a2 h p (ne h t u) u, fun h i p t p2 t2 u u2 q => a3 h i p (ne h t u) p2 (ne i t2 u2) u u2 q, fun i p t u => ?_⟩
  · by_cases c : h = p1
    · rw [c]; exact upS _ _ _
    · exact a1 h p (by omega) u
  · rw [a4 i p t u]
    exact ⟨fun ⟨h, q, s, v⟩ => ⟨h, by omega, s, v⟩, fun ⟨h, q, s, v⟩ => ⟨h, ⟨q.1, ne h q.2 s⟩, s, v⟩⟩
theorem PX.put {E : Mem} {r c : Int → Int} {p1 p2 x : Int} (hE : EBx E) (hW : WR E r) (h : PX E r c p1 p2) (hp : 0 ≤ p1) (hx : 0 ≤ x ∧ x < E 1 4) (hr : 0 ≤ r x) (hr1 : 0 ≤ r p1) (hb : ¬ bt (iI p2) x.toNat = true) : PX E r (up c p1 (r x)) (p1 + 1) (oI p2 (slI 1 x)) := by
  have g := hE.2
  have h' : PX E r (up c p1 (r x)) p1 p2 := h.cg (fun j q => up_j (by omega))
  obtain ⟨a1, a2, a3, a4⟩ := h'
  have no : ∀ h, 0 ≤ h → h < p1 → 0 ≤ r h → up c p1 (r x) h ≠ r x := fun h p t u q => hb ((a4 x hx.1 hx.2 hr).mpr ⟨h, ⟨p, t⟩, u, q⟩)
  refine ⟨fun h p t u => ?_, fun h p t u => ?_, fun h i p t p2 t2 u u2 q => ?_, fun i p t u => ?_⟩
  · by_cases c : h = p1
    · subst c; omega
    · exact a1 h p (by omega) u
  · by_cases c : h = p1
    · exact ⟨x, hx, hr, by rw [c]; exact upS _ _ _⟩
    · exact a2 h p (by omega) u
  · by_cases c : h = p1
    · by_cases c2 : i = p1
      · omega
      · rw [c, upS] at q
        exact absurd q.symm (no i p2 (by omega) u2)
    · by_cases c2 : i = p1
      · rw [c2, upS] at q
        exact absurd q (no h p (by omega) u)
      · exact a3 h i p (by omega) p2 (by omega) u u2 q
  · rw [bt_oI, bt_sl1 (by omega) (by omega), show ((i.toNat : Nat) : Int) = i from by omega, Bool.or_eq_true, decide_eq_true_iff, a4 i p t u]
    refine ⟨fun q => ?_, fun ⟨h, q, s, v⟩ => ?_⟩
    · rcases q with ⟨h, q, s, v⟩ | q
      · exact ⟨h, by omega, s, v⟩
      · exact ⟨p1, by omega, hr1, by rw [q]; exact upS _ _ _⟩
    · by_cases c : h = p1
      · rw [c, upS] at v
        exact Or.inr (hW.1 x i hx.1 hx.2 p t v hr).symm
      · exact Or.inl ⟨h, by omega, s, v⟩
theorem PX.val {E : Mem} {r c : Int → Int} {p2 : Int} (h : PX E r c (E 1 4) p2) : VAL E r c := ⟨h.1, h.2.1, h.2.2.1⟩
/-- the best grows from z0 to z1 over all ways to go on behind the first p1 hearses -/
def PO (E : Mem) (r c : Int → Int) (p1 z0 z1 : Int) : Prop := z0 ≤ z1 ∧ (∀ w, VAL E r w → (∀ h, 0 ≤ h → h < p1 → w h = c h) → VH E r w ≤ z1) ∧ (z1 = z0 ∨ ∃ w, VAL E r w ∧ VH E r w = z1)
def PI (E : Mem) (b : Int) (r5 r : Int → Int) (M : Mem) : Prop := I6 b M ∧ CE E M ∧ M 5 = r5 ∧ OUT r (M 6)
theorem PI.up {E M : Mem} {b : Int} {r5 r : Int → Int} (h : PI E b r5 r M) {k : Nat} {j v : Int} (h5 : k ≠ 5) (h6 : k ≠ 6) (h11 : k ≠ 11 ∧ (k = 1 → j ≠ 24)) (hc : ¬ cE k j) (hv : ∀ b', BM b' k j v) : PI E b r5 r (up2 M k j v) := by
  obtain ⟨a, c, d, e⟩ := h
  refine ⟨a.up h11 hv, c.up hc, ?_, ?_⟩
  · rw [up2_n (fun q => h5 q.symm)]; exact d
  · rw [up2_n (fun q => h6 q.symm)]; exact e
theorem gX12_places_L14 {rc : Int → Int → Mem → (Mem → Prop) → Prop} {p1 p2 b z : Int} {E : Mem} {r5 r c : Int → Int} {X40 : Mem → Prop} {Q : Mem → Prop} (hX : ∀ M' : Mem, IM b M' → CE E M' → M' 5 = r5 → M' 22 = c → M' 1 42 = z → M' 6 = wR E r c → X40 M') : ∀ (n : Nat) (v3 : Int) (M : Mem), IM b M → CE E M → M 5 = r5 → M 22 = c → M 1 42 = z → (∀ j, M 6 j = if 0 ≤ j ∧ j < v3 then c j else r j) → (0 ≤ v3 ∧ v3 ≤ E 1 4) → E 1 4 - v3 < (n : Int) → qX12_places_L14 rc p1 p2 X40 Q n v3 M := by
  intro n
  induction n with
  | zero => intro v3 M hI hE h5 h22 hz h6 hv hm; exact absurd hm (by omega)
  | succ n ih =>
    intro v3 M hI hE h5 h22 hz h6 hv hm
    have g := (hE.eb hI).2
    have hbn := hI.nn
    rw [qX12_places_L14]
    intro x26 e26 _
    rw [hE 1 4 cE14] at e26
    refine ⟨⟨by omega, by omega⟩, ⟨fun c => hX M hI hE h5 h22 hz (funext fun j => ?_), fun c => ⟨by omega, by omega, ?_⟩⟩⟩
    · rw [h6 j]
      unfold wR
      rw [show v3 = E 1 4 from by omega]
    · intro x31 e31 _
      have b31 : -1 ≤ x31 ∧ x31 ≤ 29 := by rw [e31]; exact bm_c22.mp (hI.bx _ _)
      refine ⟨by omega, by omega, ?_⟩
      intro M34 h34
      refine ih _ _ (by rw [h34]; exact hI.up (by omega) ((bm_n (Or.inr rfl)).mpr ⟨by omega, by omega, by omega, by omega⟩)) (by rw [h34]; exact hE.up (by intro h; rcases h with h | h | h | h | h <;> omega)) (by rw [h34, up2_n (by decide)]; exact h5) (by rw [h34, up2_n (by decide)]; exact h22) (by rw [h34, up2_n (by decide)]; exact hz) (fun j => ?_) (by omega) (by omega)
      rw [h34]
      by_cases cj : j = v3
      · rw [cj, up2_s, e31, h22, if_pos ⟨by omega, by omega⟩]
      · rw [up2_j cj, h6 j]
        by_cases cc : 0 ≤ j ∧ j < v3
        · rw [if_pos cc, if_pos ⟨by omega, by omega⟩]
        · rw [if_neg cc, if_neg (by omega)]
theorem gX12_places_L64 {rc : Int → Int → Mem → (Mem → Prop) → Prop} {p1 p2 b z : Int} {E : Mem} {r5 r c : Int → Int} {Q : Mem → Prop} (hQ : ∀ M' : Mem, PI E b r5 r M' → M' 22 = c → M' 1 42 = z → Q M') : ∀ (n : Nat) (v4 : Int) (M : Mem), PI E b r5 r M → M 22 = c → M 1 42 = z → (0 ≤ v4 ∧ v4 ≤ 6) → 6 - v4 < (n : Int) → qX12_places_L64 rc p1 p2 Q n v4 M := by
  intro n
  induction n with
  | zero => intro v4 M hI h22 hz hv hm; exact absurd hm (by omega)
  | succ n ih =>
    intro v4 M hI h22 hz hv hm
    rw [qX12_places_L64]
    intro x41 e41 _
    have b41 : 0 ≤ x41 ∧ x41 ≤ 6 := by rw [e41]; exact bm_c1_4.mp (hI.1.im.bx _ _)
    refine ⟨⟨by omega, by omega⟩, ⟨fun c => hQ _ hI h22 hz, fun c => ⟨by omega, by omega, ?_⟩⟩⟩
    intro x46 _ _ M47 h47
    exact ih _ _ (by rw [h47]; exact hI.up (by decide) (by decide) (by omega) (by intro h; rcases h with h | h | h | h | h <;> omega) (fun b' => by simp [BM])) (by rw [h47, up2_n (by decide)]; exact h22) (by rw [h47, up2_n (by decide)]; exact hz) (by omega) (by omega)
theorem gX12_places_L123 {rc : Int → Int → Mem → (Mem → Prop) → Prop} {p1 p2 b z0 : Int} {E : Mem} {r5 r c0 : Int → Int} {Q : Mem → Prop} (hE : EBx E) (hW : WR E r) (h5 : ∀ j, 0 ≤ j → j < 6 → r5 j = r j) (hp : 0 ≤ p1 ∧ p1 < E 1 4) (hr : 0 ≤ r p1) (hX : PX E r c0 p1 p2)
    (hrc : ∀ (s : Int) (M : Mem) (Q : Mem → Prop), PI E b r5 r M → PX E r (M 22) (p1 + 1) s → (∀ M' : Mem, PI E b r5 r M' → (∀ j, j < p1 + 1 → M' 22 j = M 22 j) → PO E r (M 22) (p1 + 1) (M 1 42) (M' 1 42) → Q M') → rc (p1 + 1) s M Q)
    (hQ : ∀ M' : Mem, PI E b r5 r M' → (∀ j, j < p1 → M' 22 j = c0 j) → PO E r c0 p1 z0 (M' 1 42) → Q M') :
    ∀ (n : Nat) (v3 : Int) (M : Mem), PI E b r5 r M → (∀ j, j < p1 → M 22 j = c0 j) → z0 ≤ M 1 42 → (∀ w, VAL E r w → (∀ h, 0 ≤ h → h < p1 → w h = c0 h) → w p1 < v3 → VH E r w ≤ M 1 42) → (M 1 42 = z0 ∨ ∃ w, VAL E r w ∧ VH E r w = M 1 42) → (0 ≤ v3 ∧ v3 ≤ eG E) → eG E - v3 < (n : Int) → qX12_places_L123 rc p1 p2 Q n v3 M := by
  have ef := hE.f
  have g := hE.2
  have g3 := hE.1
  have eg : eG E = E 1 3 - 1 := rfl
  intro n
  induction n with
  | zero => intro v3 M hI h22 hz hw hz2 hv hm; exact absurd hm (by omega)
  | succ n ih =>
    intro v3 M hI h22 hz hw hz2 hv hm
    have m5 : ∀ j, 0 ≤ j → j < 6 → M 5 j = r j := fun j p q => by rw [hI.2.2.1]; exact h5 j p q
    have next : (∀ w, VAL E r w → (∀ h, 0 ≤ h → h < p1 → w h = c0 h) → w p1 = v3 → VH E r w ≤ M 1 42) → v3 < eG E → qX12_places_L123 rc p1 p2 Q n (v3 + 1) M := fun h d => by
      refine ih (v3 + 1) M hI h22 hz (fun w a f q => ?_) hz2 (by omega) (by omega)
      by_cases e : w p1 = v3
      · exact h w a f e
      · exact hw w a f (by omega)
    rw [qX12_places_L123]
    refine gX12_gate hI.1.im hI.2.1 ?_
    intro _
    refine ⟨⟨by omega, by omega⟩, ⟨fun c => hQ M hI h22 ⟨hz, fun w a f => hw w a f ?_, hz2⟩, fun c => ?_⟩⟩
    · obtain ⟨i, hi, ri, ei⟩ := a.2.1 p1 hp.1 hp.2 hr
      have := hW.2.1 i hi.1 hi.2
      omega
    · refine gX12_onCell hI.1.im hI.2.1 ?_
      intro _
      have ob := onF_b (M 5) (eH E) v3
      refine ⟨fun c2 => next (fun w a f e => ?_) (by omega), fun c2 => ?_⟩
      · obtain ⟨i, hi, ri, ei⟩ := a.2.1 p1 hp.1 hp.2 hr
        have := onF_n c2 i hi.1 (by omega)
        rw [m5 i hi.1 (by omega)] at this
        exact absurd (by omega) this
      · have oc := onF_c (c := M 5) (n := eH E) (v := v3) (by omega)
        generalize onF (M 5) (eH E) v3 = x at ob oc c2
        rw [m5 x (by omega) (by omega)] at oc
        refine hasM (by omega) ?_
        intro y hy _ _
        refine ⟨fun c3 => next (fun w a f e => ?_) (by omega), fun c3 => ?_⟩
        · have yb : bt (iI p2) x.toNat = true := by
            rcases hy with u | u
            · exact u.2
            · omega
          obtain ⟨h, hh, rh, eh⟩ := (hX.2.2.2 x (by omega) (by omega) (by omega)).mp yb
          have := a.2.2 h p1 hh.1 (by omega) hp.1 hp.2 rh hr (by rw [f h hh.1 hh.2, eh, e, oc])
          omega
        · have nb : ¬ bt (iI p2) x.toNat = true := by
            rcases hy with u | u
            · omega
            · exact u.2
          refine ⟨hp.1, by omega, ?_⟩
          intro M17 h17 x18 e18 _ x19 e19 _
          refine ⟨⟨by omega, by omega⟩, ?_⟩
          have i17 : PI E b r5 r M17 := by
            rw [h17]
            exact hI.up (by decide) (by decide) (by omega) (by intro h; rcases h with h | h | h | h | h <;> omega) (fun b' => bm_c22.mpr ⟨by omega, by omega⟩)
          have k17 : M17 22 = up (M 22) p1 (r x) := by
            rw [h17, oc]
            funext j
            by_cases cj : j = p1
            · rw [cj, up2_s, upS]
            · rw [up2_j cj, up_j cj]
          have z17 : M17 1 42 = M 1 42 := by rw [h17, up2_n (by decide)]
          have pm : PX E r (M 22) p1 p2 := hX.cg h22
          refine hrc x19 M17 _ i17 (by rw [k17, e19, e18]; exact pm.put hE hW hp.1 ⟨by omega, by omega⟩ (by omega) hr nb) ?_
          intro M21 i21 h21 po
          obtain ⟨q1, q2, q3⟩ := po
          rw [z17] at q1 q3
          refine ih (v3 + 1) M21 i21 (fun j q => ?_) (by omega) (fun w a f q => ?_) ?_ (by omega) (by omega)
          · rw [h21 j (by omega), k17, up_j (by omega)]
            exact h22 j q
          · by_cases e : w p1 = v3
            · refine q2 w a (fun h p t => ?_)
              rw [k17]
              by_cases ch : h = p1
              · rw [ch, upS, e, oc]
              · rw [up_j ch, h22 h (by omega)]
                exact f h p (by omega)
            · have := hw w a f (by omega)
              omega
          · rcases q3 with u | u
            · rw [u]; exact hz2
            · exact Or.inr u
theorem gX12_places {b : Int} {E : Mem} {r5 r : Int → Int} (hE : EBx E) (hW : WR E r) (ho : ∀ m, 0 ≤ m → m < E 1 5 → 0 ≤ E 3 m ∧ E 3 m < E 1 4) (h5 : ∀ j, 0 ≤ j → j < 38 → r5 j = r j) (hb : b + 200 ≤ 2000000000) : ∀ (k d : Nat) (p1 p2 : Int) (M : Mem) (Q : Mem → Prop), E 1 4 - p1 = (k : Nat) → k < d → PI E b r5 r M → 0 ≤ p1 → PX E r (M 22) p1 p2 → (∀ M' : Mem, PI E b r5 r M' → (∀ j, j < p1 → M' 22 j = M 22 j) → PO E r (M 22) p1 (M 1 42) (M' 1 42) → Q M') → qX12_places d p1 p2 M Q := by
  have ef := hE.f
  have g := hE.2
  have g3 := hE.1
  have eg : eG E = E 1 3 - 1 := rfl
  intro k
  induction k with
  | zero =>
    intro d p1 p2 M Q hk hd hI hp hX hQ
    obtain ⟨d', rfl⟩ : ∃ d', d = d' + 1 := ⟨d - 1, by omega⟩
    show bX12_places (qX12_places d') p1 p2 M Q
    unfold bX12_places
    intro x1 e1 _
    rw [hI.2.1 1 4 cE14] at e1
    have ep : p1 = E 1 4 := by omega
    refine ⟨fun c => absurd (by omega) c, fun _ => ?_⟩
    have V : VAL E r (M 22) := by rw [ep] at hX; exact hX.val
    have WV := V.row hE hW
    refine fX12_copies ?_
    intro M25 h25
    have i25 : IM b M25 := hI.1.copied h25
    have n25 : ∀ k, k ≠ 6 → M25 k = M k := fun k hk => funext fun j => by rw [h25, if_neg (fun q => hk q.1)]
    have E25 : CE E M25 := fun k j hc => by rw [n25 k (by intro q; rcases hc with h | h | h | h | h <;> omega)]; exact hI.2.1 k j hc
    refine ⟨7, gX12_places_L14 (b := b) (z := M 1 42) (E := E) (r5 := r5) (r := r) (c := M 22) ?_ 7 0 M25 i25 E25 (by rw [n25 5 (by decide)]; exact hI.2.2.1) (n25 22 (by decide)) (by rw [n25 1 (by decide)]) (fun j => ?_) (by omega) (by omega)⟩
    · intro M35 i35 E35 k35 c35 z35 r35
      refine fmX12_rightThen (gX12_rightThen i35 E35 ho (by rw [r35]; exact WV) hb (Q := fun z M' => z = rgE E (M35 6) ∧ IM (b + 200) M' ∧ CE E M' ∧ OUT (M35 6) (M' 6)) (fun M' i e o _ => ⟨rfl, i, e, o⟩)) ?_
      intro x36 M36 f36 h36 _
      obtain ⟨e36, i36, E36, o36⟩ := h36
      have p36 : PI E b r5 r M36 := by
        refine ⟨I6.of i35 i36 (fun j => f36 5 j (by omega)) (fun j => f36 15 j (by omega)) (fun j => f36 31 j (by omega)) (f36 1 6 (by omega)), E36, ?_, fun j hj => ?_⟩
        · rw [← k35]
          exact funext fun j => f36 5 j (by omega)
        · rw [o36 j hj, r35]
          exact if_neg (by omega)
      have c36 : M36 22 = M 22 := by rw [← c35]; exact funext fun j => f36 22 j (by omega)
      have z36 : M36 1 42 = M 1 42 := by rw [← z35]; exact f36 1 42 (by omega)
      have ev : bcF x36 = VH E r (M 22) := by rw [e36, r35]; rfl
      have all : ∀ w, (∀ h, 0 ≤ h → h < p1 → w h = M 22 h) → VH E r w = VH E r (M 22) := fun w f => by
        unfold VH
        rw [wR_cg (fun j p t => f j p (by omega))]
      refine gJ6_bitCount ?_
      rw [ev]
      intro _ x38 e38 _
      rw [z36] at e38
      refine ⟨fun c => hQ M36 p36 (fun j _ => by rw [c36]) ⟨by omega, fun w _ f => by rw [all w f]; omega, Or.inl z36⟩, fun c => ?_⟩
      intro M40 h40
      refine ⟨7, gX12_places_L64 (b := b) (z := VH E r (M 22)) (E := E) (r5 := r5) (r := r) (c := M 22) ?_ 7 0 M40 ?_ ?_ ?_ (by decide) (by decide)⟩
      · intro M' i' c' z'
        refine hQ M' i' (fun j _ => by rw [c']) ⟨by omega, fun w _ f => by rw [all w f]; omega, Or.inr ⟨M 22, V, z'.symm⟩⟩
      · rw [h40]
        exact p36.up (by decide) (by decide) (by decide) (by decide) (fun b' => by simp [BM])
      · rw [h40, up2_n (by decide)]; exact c36
      · rw [h40, up2_s]
    · rw [if_neg (by omega), h25]
      by_cases cj : 0 ≤ j ∧ j < 38
      · rw [if_pos ⟨rfl, cj⟩, hI.2.2.1]
        exact h5 j cj.1 cj.2
      · rw [if_neg (fun q => cj q.2)]
        exact hI.2.2.2 j (by omega)
  | succ k ih =>
    intro d p1 p2 M Q hk hd hI hp hX hQ
    obtain ⟨d', rfl⟩ : ∃ d', d = d' + 1 := ⟨d - 1, by omega⟩
    show bX12_places (qX12_places d') p1 p2 M Q
    unfold bX12_places
    intro x1 e1 _
    rw [hI.2.1 1 4 cE14] at e1
    refine ⟨fun _ => ⟨hp, by omega, ?_⟩, fun c => absurd c (by omega)⟩
    intro M5 h5'
    have i5 : PI E b r5 r M5 := by
      rw [h5']
      exact hI.up (by decide) (by decide) (by omega) (by intro h; rcases h with h | h | h | h | h <;> omega) (fun b' => bm_c22.mpr (by decide))
    have k5 : M5 22 = up (M 22) p1 (-1) := by
      rw [h5']
      funext j
      by_cases cj : j = p1
      · rw [cj, up2_s, upS]
      · rw [up2_j cj, up_j cj]
    have z5 : M5 1 42 = M 1 42 := by rw [h5', up2_n (by decide)]
    have rc : ∀ (s : Int) (M : Mem) (Q : Mem → Prop), PI E b r5 r M → PX E r (M 22) (p1 + 1) s → (∀ M' : Mem, PI E b r5 r M' → (∀ j, j < p1 + 1 → M' 22 j = M 22 j) → PO E r (M 22) (p1 + 1) (M 1 42) (M' 1 42) → Q M') → qX12_places d' (p1 + 1) s M Q := fun s M' Q' a f hq => ih d' (p1 + 1) s M' Q' (by omega) (by omega) a (by omega) f hq
    have m5 : M5 5 p1 = r p1 := by rw [i5.2.2.1]; exact h5 p1 hp (by omega)
    refine gX12_isOn (k0 := 5) (by omega) ?_
    intro z hz _ _
    rw [m5] at hz
    refine ⟨fun c => ?_, fun c => ⟨⟨by omega, by omega⟩, ?_⟩⟩
    · refine ⟨31, gX12_places_L123 (b := b) (z0 := M 1 42) (c0 := M 22) hE hW (fun j p q => h5 j p (by omega)) ⟨hp, by omega⟩ (by omega) hX rc (fun M' i' f' po => hQ M' i' f' po) 31 0 M5 i5 (fun j q => by rw [k5, up_j (by omega)]) (by omega) (fun w a f q => ?_) (Or.inl z5) (by omega) (by omega)⟩
      obtain ⟨i, hi, ri, ei⟩ := a.2.1 p1 hp (by omega) (by omega)
      omega
    · have ra : r p1 < 0 := by omega
      refine rc p2 M5 _ i5 (by rw [k5]; exact hX.arr ra) ?_
      intro M24 i24 f24 po
      obtain ⟨q1, q2, q3⟩ := po
      rw [z5] at q1 q3
      refine hQ M24 i24 (fun j q => by rw [f24 j (by omega), k5, up_j (by omega)]) ⟨q1, fun w a f => q2 w a (fun h p t => ?_), q3⟩
      rw [k5]
      by_cases ch : h = p1
      · rw [ch, upS]
        exact a.1 p1 hp (by omega) ra
      · rw [up_j ch]
        exact f h p (by omega)
theorem gX12_order_L23 {b z : Int} {Q : Int → Mem → Prop} (hQ : ∀ M' : Mem, IM b M' → Q z M') : ∀ (n : Nat) (v1 : Int) (M : Mem), IM b M → M 1 42 = z → (0 ≤ v1 ∧ v1 ≤ 6 ∧ M 1 1 ≤ v1) → 6 - v1 < (n : Int) → qX12_order_L23 Q n v1 M := by
  intro n
  induction n with
  | zero => intro v1 M hI hz hv hm; exact absurd hm (by omega)
  | succ n ih =>
    intro v1 M hI hz hv hm
    rw [qX12_order_L23]
    intro x6 e6 _
    have b6 : 0 ≤ x6 ∧ x6 ≤ 6 := by rw [e6]; exact bm_c1_4.mp (hI.bx _ _)
    refine ⟨⟨by omega, by omega⟩, ⟨fun c => ?_, fun c => ?_⟩⟩
    · intro x9 e9 _
      rw [e9, hz]
      exact hQ _ hI
    · refine sX12_isOn (p1 := v1) hI (Or.inl rfl) (by omega) ?_
      intro x10 _ _ _
      refine ⟨fun c2 => ih _ _ hI hz (by omega) (by omega), fun c2 => ⟨by omega, by omega, ?_⟩⟩
      intro x14 _ _
      refine entC hI (by omega) ?_
      intro M15 i15 k15 t15
      exact ih _ M15 i15 (by rw [k15 1 42 (by omega)]; exact hz) (by omega) (by omega)
theorem gX12_order {b : Int} {M E : Mem} {Q : Int → Mem → Prop} (hI : IM b M) (hC : CE E M) (ho : ∀ m, 0 ≤ m → m < E 1 5 → 0 ≤ E 3 m ∧ E 3 m < E 1 4) (hW : WR E (cr (M 5) (M 6))) (hb : b + 200 ≤ 2000000000) (hQ : ∀ (z : Int) (M' : Mem), IM (b + 200) M' → ODA E (cr (M 5) (M 6)) z → Q z M') : qX12_order M Q := by
  have hE := hC.eb hI
  have ef := hE.f
  have g := hE.2
  unfold qX12_order
  intro M1 h1
  obtain ⟨i1, E1, k5, k6, _⟩ := th0 hI hC h1
  intro M2 h2
  have i2 : IM b M2 := by rw [h2]; exact i1.up (by omega) (by simp [BM])
  have E2 : CE E M2 := by rw [h2]; exact E1.up (by decide)
  have k25 : M2 5 = M 5 := by rw [h2, ← k5]; exact up2_n (by decide)
  have k26 : M2 6 = M 6 := by rw [h2, ← k6]; exact up2_n (by decide)
  have z2 : M2 1 42 = -1 := by rw [h2, up2_s]
  refine ⟨8, by omega, ?_⟩
  refine gX12_places (b := b) (r5 := M 5) (r := cr (M 5) (M 6)) hE hW ho (fun j p q => (cr_i p q).symm) hb (eH E) 8 0 0 M2 _ (by omega) (by omega) ⟨i2.i6, E2, k25, fun j hj => ?_⟩ (Int.le_refl _) ⟨fun h p t => by omega, fun h p t => by omega, fun h i p t => by omega, fun i p t u => ?_⟩ ?_
  · rw [k26]
    unfold cr
    rw [if_neg (by omega)]
  · rw [show iI 0 = (0 : Int32) from rfl, b_0]
    exact ⟨fun q => absurd q (by decide), fun ⟨h, q, _⟩ => by omega⟩
  · intro M3 i3 _ po
    obtain ⟨q1, q2, q3⟩ := po
    have od : ODA E (cr (M 5) (M 6)) (M3 1 42) := by
      refine ODA.of hE hW (fun w a => q2 w a (fun h p t => by omega)) ?_
      rcases q3 with u | u
      · have a := q2 _ (VAL.id hW) (fun h p t => by omega)
        have c : 0 ≤ VH E (cr (M 5) (M 6)) (cr (M 5) (M 6)) := (bcF_b _).1
        omega
      · exact u
    intro M5 h5
    have i5 : IM (b + 200) M5 := by rw [h5]; exact i3.1.im.up (by omega) (bm_c1_1.mpr (by decide))
    have k5' : M5 1 1 = 0 := by rw [h5, up2_s]
    exact ⟨7, gX12_order_L23 (b := b + 200) (z := M3 1 42) (fun M' i' => hQ _ M' i' od) 7 0 M5 i5 (by rw [h5, up2_j (by decide)]) (by omega) (by omega)⟩
