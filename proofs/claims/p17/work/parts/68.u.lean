theorem nearF_n {c : Int → Int} {v : Int} {n : Nat} (h : nearF c v n < 0) : ∀ i : Int, 0 ≤ i → i < n → c i < 0 := by
  induction n with
  | zero => intro i a q; omega
  | succ n ih =>
    intro i a q
    unfold nearF at h
    split at h
    · omega
    · rename_i w
      by_cases ci : i = n
      · rw [ci]
        rcases Int.lt_or_le (c n) 0 with u | u
        · exact u
        · exact absurd ⟨u, Or.inl h⟩ w
      · exact ih h i a (by omega)
-- the class moves a hearse, a mourner
theorem gX10_moveHearse {k1 k2 : Nat} {p3 : Int} {Q : Mem → Prop} {M E : Mem} {r : Int → Int} (hI : IX M) (hk1 : isS k1) (hk2 : isL k2) (hS : STR E M) (hL : LAW E M k2) (hw : WFC (E 11) (E 1 24)) (hC : SC E M k1 r) (hW : WR E r) (hp : 0 ≤ p3 ∧ p3 < E 1 4) (hr : 0 ≤ r p3) (h37 : r 37 ≤ 2147483647) (hQ : ∀ M' : Mem, IX M' → Ks (fun k j => k = k2 + 3 ∨ k = k2 + 4 ∨ k = 160 ∨ k = 161 ∨ k = k1 + 1 ∨ k = k1 + 2 ∨ (k = k1 ∧ j = 8)) M M' → SC E M' k1 (mhF E r p3) → (M' 160 5 = 0 → M 160 5 = 0 ∧ mhF E r p3 = r) → Q M') : qX10_moveHearse k1 k2 p3 M Q := by
  have el : k2 = 187 ∨ k2 = 192 := hk2
  have es : 0 < k1 ∧ k1 < 155 ∧ (k1 - 1) % 7 = 0 := hk1
  have b4 := hS.2.2.2.2.2.2.1
  have eb := hS.eb
  have wp := hW.2.1 p3 hp.1 hp.2
  have bg := hS.g
  have hf : 0 ≤ r p3 ∧ r p3 < eG E := by omega
  have gb := goF_b hf
  have ab12 := arF_b r (eH E)
  have ef := eb.f
  unfold qX10_moveHearse
  refine ⟨by omega, by omega, ?_⟩
  intro x3 e3 _
  have f3 : x3 = r p3 := by rw [e3]; exact hC.2.2.1 p3 (by omega) (by omega)
  refine gX2_observe hI hk2 hk1 hS hC hW hp hr h37 ?_
  intro M4 i4 f4 o4
  have S4 : STR E M4 := hS.fr (f4 158 1 (by omega)) (f4 158 2 (by omega)) (f4 158 3 (by omega)) (fun j => f4 159 j (by omega))
  have C4 : SC E M4 k1 r := hC.fr (fun i j hi => f4 (k1 + i) j (by omega))
  have L4 : LAW E M4 k2 := hL.fr (f4 k2 4 (by omega)) (f4 k2 5 (by omega)) (fun j => f4 _ j (by omega)) (fun j => f4 _ j (by omega))
  refine gX6_takenCells S4 C4 hW ?_
  intro x5 t5 _
  refine gX2_pace i4 hk2 L4 hw o4 ?_
  intro M6 i6 f6 _
  have S6 : STR E M6 := S4.fr (f6 158 1 (by omega)) (f6 158 2 (by omega)) (f6 158 3 (by omega)) (fun j => f6 159 j (by omega))
  have C6 : SC E M6 k1 r := C4.fr (fun i j hi => f6 (k1 + i) j (by omega))
  have F6 : Ks (fun k j => k = k2 + 3 ∨ k = k2 + 4 ∨ k = 160 ∨ k = 161 ∨ k = k1 + 1 ∨ k = k1 + 2 ∨ (k = k1 ∧ j = 8)) M M6 := (f4.mono (by intro k j h; omega)).tr (f6.mono (by intro k j h; omega))
  have g160 : M6 160 5 = M 160 5 := by rw [f6 160 5 (by omega), f4 160 5 (by omega)]
  have ep : max 0 (min 3 (ruF E (envF E r p3))) = paF E r p3 := rfl
  rw [ep, f3]
  have bp : 0 ≤ paF E r p3 ∧ paF E r p3 ≤ 3 := by unfold paF; omega
  refine gX10_goal i6 S6 hW t5 hf bp ?_
  intro _
  refine ⟨fun c => ?_, fun c => ?_⟩
  · have c1 : ¬ goF E r p3 (paF E r p3) = r p3 := fun q => c (by rw [if_pos q])
    rw [if_neg c1]
    intro M9 h9
    have i9 : IX M9 := by rw [h9]; exact i6.up (by decide) (by simp [BX])
    have F9 : Ks (fun k j => k = k2 + 3 ∨ k = k2 + 4 ∨ k = 160 ∨ k = 161 ∨ k = k1 + 1 ∨ k = k1 + 2 ∨ (k = k1 ∧ j = 8)) M M9 := by rw [h9]; exact F6.wr (by omega)
    have S9 : STR E M9 := hS.fr (F9 158 1 (by omega)) (F9 158 2 (by omega)) (F9 158 3 (by omega)) (fun j => F9 159 j (by omega))
    have C9 : SC E M9 k1 r := by rw [h9]; exact C6.fr (fun i j hi => by rw [up2_n (by omega)])
    have s9 : M9 160 5 = 1 := by rw [h9, up2_s]
    refine gX8_gate i9 S9 ?_
    intro _
    refine ⟨fun c2 => ?_, fun c2 => ?_⟩
    · intro M12 h12
      refine hQ _ (by rw [h12]; exact i9.up (isS.nsp hk1 1 (by decide)) ((bx_s1 hk1).mpr ⟨by omega, by omega⟩)) (by rw [h12]; exact F9.wr (by omega)) ?_ (fun q => ?_)
      · rw [h12]
        have e : mhF E r p3 = up r p3 (goF E r p3 (paF E r p3)) := by unfold mhF; rw [if_neg c1, if_neg c2]
        rw [e]
        exact C9.cell ⟨by omega, by omega⟩
      · rw [h12, up2_n (by omega), s9] at q
        omega
    · unfold qX6_arrive
      intro x1 e1 _ x2 e2 _ M3 h3 x4 e4 _
      have g1 : x1 = r 12 := by rw [e1]; exact C9.2.2.2.2.1
      have g2 : x2 = w32 (r 12 + 1) := by rw [e2, g1]
      have g4 : x4 = x2 := by rw [e4, h3, up2_s]
      have i3 : IX M3 := by rw [h3]; exact i9.up (isS.nsp hk1 0 (by decide)) (bx_sf0 hk1 (by decide) (by decide))
      refine ⟨by omega, by omega, ?_⟩
      intro M7 h7 M8 h8
      have i7 : IX M7 := by rw [h7]; exact i3.up (isS.nsp hk1 2 (by decide)) (bx_sf2 hk1)
      refine hQ _ (by rw [h8]; exact i7.up (isS.nsp hk1 1 (by decide)) ((bx_s1 hk1).mpr (by decide))) (by rw [h8, h7, h3]; exact ((F9.wr (by omega)).wr (by omega)).wr (by omega)) ?_ (fun q => ?_)
      · have e : mhF E r p3 = up (up (up r 12 (w32 (r 12 + 1))) (6 + p3) (w32 (r 12 + 1))) p3 (-1) := by unfold mhF; rw [if_neg c1, if_pos c2]
        rw [e, h8, h7, h3, g4, g2]
        exact C9.arr ⟨by omega, by omega⟩
      · rw [h8, up2_n (by omega), h7, up2_n (by omega), h3, up2_n (by omega), s9] at q
        omega
  · have c1 : goF E r p3 (paF E r p3) = r p3 := by
      by_cases q : goF E r p3 (paF E r p3) = r p3
      · exact q
      · rw [if_neg q] at c; omega
    have e : mhF E r p3 = r := by unfold mhF; rw [if_pos c1]
    intro x14 _ _ x15 _ _ M16 h16
    have i16 : IX M16 := by rw [h16]; exact i6.up (by decide) (by simp [BX])
    refine ⟨by omega, by omega, ?_⟩
    intro x19 _ _ x20 _ _ M21 h21
    refine hQ _ (by rw [h21]; exact i16.up (by decide) (by simp [BX])) (by rw [h21, h16]; exact (F6.wr (by omega)).wr (by omega)) ?_ (fun q => ?_)
    · rw [e, h21, h16]
      exact C6.fr (fun i j hi => by rw [up2_n (by omega), up2_n (by omega)])
    · rw [h21, up2_n (by decide), h16, up2_j (by decide), g160] at q
      exact ⟨q, e⟩
theorem gX10_moveMourner {k1 : Nat} {p2 : Int} {Q : Mem → Prop} {M E : Mem} {r : Int → Int} (hI : IX M) (hk1 : isS k1) (hS : STR E M) (hC : SC E M k1 r) (hW : WR E r) (hp : 0 ≤ p2 ∧ p2 < E 1 5) (hr : r (29 + p2) = -1) (hQ : ∀ M' : Mem, IX M' → Ks (fun k j => k = 160 ∨ k = 162 ∨ k = k1 + 3 ∨ k = k1 + 5 ∨ k = k1 + 6 ∨ (k = k1 ∧ j = 9)) M M' → SC E M' k1 (mmF E r p2) → (M' 160 5 = 0 → M 160 5 = 0 ∧ mmF E r p2 = r) → Q M') : qX10_moveMourner k1 p2 M Q := by
  have es : 0 < k1 ∧ k1 < 155 ∧ (k1 - 1) % 7 = 0 := hk1
  have eb := hS.eb
  have ef := eb.f
  have b4 := hS.2.2.2.2.2.2.1
  have b5 := hS.2.2.2.2.2.2.2.1
  have wm := hW.2.2.1 p2 hp.1 hp.2
  have nb := nearF_b r (r (13 + p2)) (eH E)
  have cc : ∀ f, 0 ≤ f → f < E 1 4 → M (k1 + 1) f = r f := fun f a q => hC.2.2.1 f a (by omega)
  have hl : ∀ f, 0 ≤ f → f < E 1 4 → -1 ≤ r f ∧ r f < eG E := fun f a q => by
    have := hW.2.1 f a q
    have bg := hS.g
    omega
  have bg := hS.g
  -- the way is gone
  have J139 : ∀ (f w : Int) (M' : Mem) (rr : Int → Int), IX M' → Ks (fun k j => k = 160 ∨ k = 162 ∨ k = k1 + 3 ∨ k = k1 + 5 ∨ k = k1 + 6 ∨ (k = k1 ∧ j = 9)) M M' → SC E M' k1 rr → (0 ≤ f ∧ f < E 1 4) → (0 ≤ r f) → w = r f - r (13 + p2) → mmF E r p2 = up rr (13 + p2) (goM r p2 f) → ((M' 160 5 = 0 ∨ M' 160 5 = 1) ∨ M' 160 5 = M 160 5) → (M' 160 5 = 0 → M 160 5 = 0 ∧ rr = r) → qX10_moveMourner_J139 k1 p2 Q (r (13 + p2)) w M' := by
    intro f w M' rr i' f' C' hf hrf hw em h5 hst
    have bf := hl f hf.1 hf.2
    have gb := goM_b (r := r) (m := p2) (f := f) (g := eG E) ⟨hrf, bf.2⟩ wm.2.1
    unfold qX10_moveMourner_J139
    refine ⟨⟨by omega, by omega⟩, ?_⟩
    intro x27 e27 _ x28 e28 _
    have g28 : r (13 + p2) + x28 = goM r p2 f := by
      unfold goM
      split <;> omega
    refine ⟨by omega, by omega, ⟨by omega, by omega⟩, ?_⟩
    intro M32 h32 x33 e33 _
    have i32 : IX M32 := by rw [h32]; exact i'.up (isS.nsp hk1 3 (by decide)) ((bx_s3 hk1).mpr ⟨by omega, by omega⟩)
    have F32 : Ks (fun k j => k = 160 ∨ k = 162 ∨ k = k1 + 3 ∨ k = k1 + 5 ∨ k = k1 + 6 ∨ (k = k1 ∧ j = 9)) M M32 := by rw [h32]; exact f'.wr (by omega)
    have C32 : SC E M32 k1 (mmF E r p2) := by rw [h32, g28, em]; exact C'.place ⟨by omega, by omega⟩
    have g33 : x33 = M' 160 5 := by rw [e33, h32, up2_n (by omega)]
    have fin : ∀ t : Int, (t = 0 ∨ t = 1) → (t = 0 → M' 160 5 = 0 ∧ w = 0) → qX10_moveMourner_J177 k1 p2 Q t M32 := by
      intro t ht h0
      unfold qX10_moveMourner_J177
      refine ⟨by rcases ht with q | q <;> exact ⟨by omega, by omega⟩, ht, ?_⟩
      intro M37 h37
      refine hQ _ (by rw [h37]; exact i32.up (by decide) (by simp [BX])) (by rw [h37]; exact F32.wr (by omega)) (by rw [h37]; exact C32.fr (fun i j hi => by rw [up2_n (by omega)])) (fun q => ?_)
      rw [h37, up2_s] at q
      obtain ⟨q1, q2⟩ := h0 q
      obtain ⟨q3, q4⟩ := hst q1
      refine ⟨q3, ?_⟩
      rw [em, q4, ← g28]
      have : x28 = 0 := by omega
      rw [this, show r (13 + p2) + 0 = r (13 + p2) from by omega]
      exact up_id r _
    refine ⟨fun c => ?_, fun c => ⟨fun c2 => fin _ (Or.inl rfl) (fun _ => ⟨by omega, c2⟩), fun c2 => ?_⟩⟩
    · unfold qX10_moveMourner_J172
      exact fin _ (Or.inr rfl) (fun q => absurd q (by decide))
    · unfold qX10_moveMourner_J172
      exact fin _ (Or.inr rfl) (fun q => absurd q (by decide))
  have J92 : chF E r p2 → ¬ (0 ≤ r (21 + p2) ∧ r (r (21 + p2)) < 0) → ∀ w : Int, w = r (nearF r (r (13 + p2)) (eH E)) - r (13 + p2) → qX10_moveMourner_J92 k1 p2 Q (r (13 + p2)) (nearF r (r (13 + p2)) (eH E)) w M := by
    intro hch hno w hw
    have h0 : 0 ≤ nearF r (r (13 + p2)) (eH E) := hch.1
    unfold qX10_moveMourner_J92
    refine ⟨by omega, by omega, ⟨by omega, by omega⟩, ?_⟩
    intro M18 h18 x19 _ _ x20 _ _ M21 h21 x22 _ _ x23 _ _ M24 h24 M25 h25
    have i18 : IX M18 := by rw [h18]; exact hI.up (isS.nsp hk1 5 (by decide)) ((bx_s5 hk1).mpr ⟨by omega, by omega⟩)
    have i21 : IX M21 := by rw [h21]; exact i18.up (by decide) (by simp [BX])
    have i24 : IX M24 := by rw [h24]; exact i21.up (by decide) (by simp [BX])
    have i25 : IX M25 := by rw [h25]; exact i24.up (by decide) (by simp [BX])
    have s25 : M25 160 5 = 1 := by rw [h25, up2_s]
    refine J139 (nearF r (r (13 + p2)) (eH E)) w M25 (up r (21 + p2) (nearF r (r (13 + p2)) (eH E))) i25 ?_ ?_ ⟨h0, by omega⟩ (nb.2.2 h0) hw ?_ (Or.inl (Or.inr s25)) (fun q => by omega)
    · rw [h25, h24, h21, h18]
      exact (((Ks.rf.wr (by omega)).wr (by omega)).wr (by omega)).wr (by omega)
    · have C18 : SC E M18 k1 (up r (21 + p2) (nearF r (r (13 + p2)) (eH E))) := by rw [h18]; exact hC.foll ⟨by omega, by omega⟩
      rw [h25, h24, h21]
      exact C18.fr (fun i j hi => by rw [up2_n (by omega), up2_n (by omega), up2_n (by omega)])
    · unfold mmF
      rw [if_neg hno, if_pos hch]
  have J32 : ¬ (0 ≤ r (21 + p2) ∧ r (r (21 + p2)) < 0) → qX10_moveMourner_J32 k1 p2 Q (r (21 + p2)) M := by
    intro hno
    unfold qX10_moveMourner_J32
    refine ⟨by omega, by omega, ?_⟩
    intro x7 e7 _
    have f7 : x7 = r (13 + p2) := by rw [e7]; exact hC.2.2.2.2.2.1 p2 (by omega) (by omega)
    rw [f7]
    refine gX6_nearestTo (p1 := r (13 + p2)) hI hk1 hS hC hW (by omega) ?_
    intro _
    refine ⟨fun c => ⟨by omega, by omega, ?_⟩, fun c => ?_⟩
    · have h0 : 0 ≤ nearF r (r (13 + p2)) (eH E) := by omega
      have bn := hl _ h0 (by omega)
      have rn := nb.2.2 h0
      intro x12 e12 _
      have f12 : x12 = r (nearF r (r (13 + p2)) (eH E)) := by rw [e12]; exact cc _ h0 (by omega)
      refine ⟨⟨by omega, by omega⟩, ⟨fun c2 => J92 ⟨h0, Or.inl (by omega)⟩ hno _ (by rw [f12]), fun c2 => ⟨⟨by omega, by omega⟩, ?_⟩⟩⟩
      intro x40 p40 n40
      have a40 := ab_e p40 n40
      have b40 := ab_b (x12 - r (13 + p2))
      have f0 : 0 ≤ r (21 + p2) := by omega
      have rf : 0 ≤ r (r (21 + p2)) := by omega
      have bf := hl _ f0 wm.1.2
      refine ⟨by omega, by omega, ?_⟩
      intro x43 e43 _
      have f43 : x43 = r (r (21 + p2)) := by rw [e43]; exact cc _ f0 wm.1.2
      refine ⟨⟨by omega, by omega⟩, ?_⟩
      intro x45 p45 n45
      have a45 := ab_e p45 n45
      have b45 := ab_b (x43 - r (13 + p2))
      rw [f12] at a40
      rw [f43] at a45
      refine ⟨⟨by omega, by omega⟩, ⟨by omega, by omega⟩, ⟨fun c3 => ?_, fun c3 => J92 ⟨h0, Or.inr (by omega)⟩ hno _ (by rw [f12])⟩⟩
      intro x49 e49 _
      have f49 : x49 = r (r (21 + p2)) := by rw [e49]; exact cc _ f0 wm.1.2
      have nch : ¬ chF E r p2 := fun h => by
        rcases h.2 with q | q
        · omega
        · omega
      refine J139 (r (21 + p2)) _ M r hI Ks.rf hC ⟨f0, wm.1.2⟩ rf (by rw [f49]) ?_ (Or.inr rfl) (fun q => ⟨q, rfl⟩)
      unfold mmF
      rw [if_neg hno, if_neg nch, if_neg (by omega)]
    · -- none is on the street: it follows none
      have hall : r (21 + p2) < 0 := by
        rcases Int.lt_or_le (r (21 + p2)) 0 with q | q
        · exact q
        · exfalso
          have : r (r (21 + p2)) < 0 := nearF_n (n := eH E) (v := r (13 + p2)) (by omega) (r (21 + p2)) q (by omega)
          exact hno ⟨q, this⟩
      have nch : ¬ chF E r p2 := fun h => by have := h.1; omega
      have e : mmF E r p2 = r := by unfold mmF; rw [if_neg hno, if_neg nch, if_pos hall]
      exact hQ _ hI Ks.rf (by rw [e]; exact hC) (fun q => ⟨q, e⟩)
  unfold qX10_moveMourner
  refine ⟨by omega, by omega, ?_⟩
  intro x3 e3 _
  have f3 : x3 = r (21 + p2) := by rw [e3]; exact hC.2.2.2.2.2.2.2.1 p2 (by omega) (by omega)
  rw [f3]
  refine ⟨fun c => J32 (by omega), fun c => ?_⟩
  refine gX6_hasArrived (p1 := r (21 + p2)) ⟨by omega, by omega⟩ ?_
  intro x50 p50 _ _
  have rk : M (k1 + 2) (r (21 + p2)) = r (6 + r (21 + p2)) := hC.2.2.2.1 _ (by omega) (by omega)
  have wf := hW.2.1 (r (21 + p2)) (by omega) wm.1.2
  rw [rk] at p50
  refine ⟨fun c2 => J32 (by omega), fun c2 => ?_⟩
  have ar : 0 ≤ r (21 + p2) ∧ r (r (21 + p2)) < 0 := by omega
  have e : mmF E r p2 = up r (29 + p2) (r (21 + p2)) := by unfold mmF; rw [if_pos ar]
  have ge := egF_b r (eO E)
  unfold qX6_endAt
  refine ⟨by omega, by omega, ?_⟩
  intro M3 h3 x4 e4 _ x5 e5 _ M6 h6 M53 h53
  have g4 : x4 = egF r (eO E) := by rw [e4, h3, up2_n (by omega)]; exact hC.2.2.2.2.2.2.2.2.2.2
  have g5 : x5 = egF r (eO E) + 1 := by rw [e5, g4]; exact w32_id ⟨by omega, by omega⟩
  have i3 : IX M3 := by rw [h3]; exact hI.up (isS.nsp hk1 6 (by decide)) (bx_sf6 hk1)
  have i6 : IX M6 := by rw [h6]; exact i3.up (isS.nsp hk1 0 (by decide)) (bx_sf0 hk1 (by decide) (by decide))
  refine hQ _ (by rw [h53]; exact i6.up (by decide) (by simp [BX])) (by rw [h53, h6, h3]; exact ((Ks.rf.wr (by omega)).wr (by omega)).wr (by omega)) ?_ (fun q => ?_)
  · rw [e, h53, h6, h3]
    exact (SC.fin eb hC hp hr (by omega) g5).fr (fun i j hi => by rw [up2_n (by omega)])
  · rw [h53, up2_s] at q
    omega
