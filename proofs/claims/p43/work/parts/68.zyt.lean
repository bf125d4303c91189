/-! COUNT -/
/-- ended at the own one (p = 1) or at another (p = 0) -/
def edB (E : Mem) (r : Int → Int) (p : Int) : Int → Int := fun m => if 0 ≤ r (29 + m) ∧ (r (29 + m) = E 3 m ↔ p = 1) then 1 else 0
theorem gX12_endedBy5_L5 {b p : Int} {M E : Mem} {Q : Int → Mem → Prop} (hp : p = 0 ∨ p = 1) (hI : IM b M) (hE : CE E M) (hQ : Q (bitF (edB E (M 5) p) 1 (eO E)) M) : ∀ (n : Nat) (v3 v4 : Int), v3 = bitF (edB E (M 5) p) 1 v4.toNat → (0 ≤ v4 ∧ v4 ≤ E 1 5) → E 1 5 - v4 < (n : Int) → qX12_endedBy_L5 5 p Q n v3 v4 M := by
  have E0 := hE.eb hI
  have f := E0.f
  have g := E0.2
  intro n
  induction n with
  | zero => intro v3 v4 h1 hv hm; exact absurd hm (by omega)
  | succ n ih =>
    intro v3 v4 h1 hv hm
    have r3 := bitF_R (edB E (M 5) p) 1 v4.toNat
    rw [← h1] at r3
    have hs := bitF_s (f := edB E (M 5) p) (x := 1) hv.1
    rw [qX12_endedBy_L5]
    intro x1 e1 _
    rw [hE 1 5 cE15] at e1
    refine ⟨⟨by omega, by omega⟩, ⟨fun c => ⟨r3, ?_⟩, fun c => ?_⟩⟩
    · rw [h1, show v4.toNat = eO E from by omega]
      exact hQ
    · have no : ¬ (0 ≤ M 5 (29 + v4) ∧ (M 5 (29 + v4) = E 3 v4 ↔ p = 1)) → edB E (M 5) p v4 ≠ 1 := fun n q => by
        unfold edB at q
        rw [if_neg n] at q
        exact absurd q (by decide)
      have yes : (0 ≤ M 5 (29 + v4) ∧ (M 5 (29 + v4) = E 3 v4 ↔ p = 1)) → edB E (M 5) p v4 = 1 := fun n => by
        unfold edB
        rw [if_pos n]
      refine gX12_isEnded (k0 := 5) (by omega) ?_
      intro z hz _ _
      refine ⟨fun c2 => ?_, fun c2 => ⟨by omega, by omega, ?_⟩⟩
      · intro x7 e7 _
        refine ih _ _ ?_ (by omega) (by omega)
        rw [hs, if_neg (no (fun q => by have := q.1; omega)), e7, h1]
      · have on : 0 ≤ M 5 (29 + v4) := by omega
        intro x10 e10 _
        refine ⟨by omega, by omega, ?_⟩
        intro x13 e13 _
        rw [hE 3 v4 (cE3 v4)] at e13
        have put : ∀ t : Int, (t = 0 ∨ t = 1) → (M 5 (29 + v4) = E 3 v4 ↔ t = 1) → qX12_endedBy_J46 5 p (qX12_endedBy_L5 5 p Q n) Q v4 t v3 M := by
          intro t ht hi
          unfold qX12_endedBy_J46
          refine ⟨⟨by omega, by omega⟩, ⟨fun d => ?_, fun d => ?_⟩⟩
          · intro x17 e17 _
            refine ih _ _ ?_ (by omega) (by omega)
            rw [hs, if_neg (no (fun q => ?_)), e17, h1]
            have a := q.2
            rcases ht with u | u <;> rcases hp with w | w
            · omega
            · have := (hi.mp (a.mpr w)); omega
            · have := (a.mp (hi.mpr u)); omega
            · omega
          · intro x18 e18 _ x19 e19 _
            refine ih _ _ ?_ (by omega) (by omega)
            rw [hs, if_pos (yes ⟨on, by rw [← d]; exact hi⟩), e19, e18, h1]
        refine ⟨fun c3 => put 0 (Or.inl rfl) ⟨fun q => absurd (by omega) c3, fun q => absurd q (by decide)⟩, fun c3 => put 1 (Or.inr rfl) ⟨fun _ => rfl, fun _ => by omega⟩⟩
theorem gX12_endedBy5 {b p : Int} {M E : Mem} {Q : Int → Mem → Prop} (hp : p = 0 ∨ p = 1) (hI : IM b M) (hE : CE E M) (hQ : Q (bitF (edB E (M 5) p) 1 (eO E)) M) : qX12_endedBy 5 p M Q := by
  have g := (hE.eb hI).2
  unfold qX12_endedBy
  exact ⟨9, gX12_endedBy5_L5 hp hI hE hQ _ _ _ rfl (by omega) (by omega)⟩
theorem bc_edB {E : Mem} {r : Int → Int} (hE : EBx E) (hW : WR E r) : bcF (oI (bitF (edB E r 1) 1 (eO E)) (bitF (edB E r 0) 1 (eO E))) = egF r (eO E) := by
  have f := hE.f
  have g := hE.2
  rw [egF_cn]
  refine bc_cn (by omega) (oI_R _ _) (fun i hi => ?_)
  rw [bt_oI, bt_bitF hi _ (by omega), bt_bitF hi _ (by omega), Bool.or_eq_true, decide_eq_true_iff, decide_eq_true_iff]
  refine ⟨fun h => ?_, fun h => ?_⟩
  · have c : i < eO E := by rcases h with q | q <;> exact q.1
    refine ⟨c, ?_⟩
    have on : 0 ≤ r (29 + (i : Int)) := by
      rcases h with q | q
      · have := q.2
        unfold edB at this
        by_cases d : 0 ≤ r (29 + (i : Int)) ∧ (r (29 + (i : Int)) = E 3 i ↔ (1 : Int) = 1)
        · exact d.1
        · rw [if_neg d] at this
          exact absurd this (by decide)
      · have := q.2
        unfold edB at this
        by_cases d : 0 ≤ r (29 + (i : Int)) ∧ (r (29 + (i : Int)) = E 3 i ↔ (0 : Int) = 1)
        · exact d.1
        · rw [if_neg d] at this
          exact absurd this (by decide)
    show (if r (29 + (i : Int)) = -1 then (0 : Int) else 1) ≠ 0
    rw [if_neg (by omega)]
    decide
  · have w := hW.2.2.1 (i : Int) (by omega) (by omega)
    have h2 : (if r (29 + (i : Int)) = -1 then (0 : Int) else 1) ≠ 0 := h.2
    have on : 0 ≤ r (29 + (i : Int)) := by
      by_cases d : r (29 + (i : Int)) = -1
      · rw [if_pos d] at h2
        exact absurd rfl h2
      · omega
    by_cases e : r (29 + (i : Int)) = E 3 i
    · exact Or.inl ⟨h.1, by unfold edB; rw [if_pos ⟨on, ⟨fun _ => rfl, fun _ => e⟩⟩]⟩
    · exact Or.inr ⟨h.1, by unfold edB; rw [if_pos ⟨on, ⟨fun q => absurd q e, fun q => absurd q (by decide)⟩⟩]⟩
theorem edB_rg {E : Mem} {r : Int → Int} (hE : EBx E) (ho : ∀ m, 0 ≤ m → m < E 1 5 → 0 ≤ E 3 m ∧ E 3 m < E 1 4) : bitF (edB E r 1) 1 (eO E) = rgB E r := by
  have f := hE.f
  unfold rgB
  refine bitF_cg (fun i p q => ?_)
  have o := ho i p (by omega)
  unfold edB
  by_cases c : r (29 + i) = E 3 i
  · rw [if_pos c, if_pos ⟨by omega, ⟨fun _ => rfl, fun _ => c⟩⟩]
  · rw [if_neg c, if_neg (fun h => c (h.2.mpr rfl))]
def cnA (E : Mem) (r : Int → Int) (h u w t p : Int) : Int := if p = 0 then E 1 3 else if p = 1 then E 1 4 else if p = 2 then E 1 5 else if p = 3 then r 37 else if p = 4 then r 12 else if p = 5 then egF r (eO E) else if p = 6 then bcF (rgB E r) else if p = 7 then cnF (E 2) (E 1 3).toNat else if p = 8 then E 4 (rmI (r 37) (E 1 7)) else if p = 9 then h else if p = 10 then u else if p = 11 then w else if p = 12 then t else -100
theorem cnA_no {E : Mem} {r : Int → Int} {h u w t p : Int} (hp : p < 0 ∨ 12 < p) : cnA E r h u w t p = -100 := by
  unfold cnA
  rw [if_neg (by omega), if_neg (by omega), if_neg (by omega), if_neg (by omega), if_neg (by omega), if_neg (by omega), if_neg (by omega), if_neg (by omega), if_neg (by omega), if_neg (by omega), if_neg (by omega), if_neg (by omega), if_neg (by omega)]
theorem gX11_count {p1 : Int} {M E : Mem} {r : Int → Int} {Q : Int → Mem → Prop} (hI : IX M) (hS : STR E M) (hC : SC E M 1 r) (hW : WR E r) (h37 : r 37 ≤ 2000000000) (hR : MR M) (hN : CNR M) (hQ : Q (cnA E r (M 182 2) (M 163 2) (M 167 1) (M 156 1) p1) M) : qX11_count p1 M Q := by
  have hE := hS.eb
  have g := hE.1
  have w := hW.2.2.2.2
  have C := hC
  obtain ⟨c6, c7, _, _, c8, _, _, _, _, c10, c9⟩ := hC
  unfold qX11_count
  refine ⟨fun d => ?_, fun d => ?_, fun d => ?_, fun d => ?_, fun d => ?_, fun d => ?_, fun d => ?_, fun d => ?_, fun d => ?_, fun d => ?_, fun d => ?_, fun d => ?_, fun d => ?_, fun d => ?_⟩
  · intro x e _
    subst d
    rw [e, hS.1]
    exact hQ
  · intro x e _
    subst d
    rw [e, c6]
    exact hQ
  · intro x e _
    subst d
    rw [e, c7]
    exact hQ
  · intro x e _
    subst d
    rw [e, c10]
    exact hQ
  · intro x e _
    subst d
    rw [e, c8]
    exact hQ
  · intro x e _
    subst d
    rw [e, c9]
    exact hQ
  · subst d
    refine gX6_rightBits (k0 := 1) hE C ?_
    intro _
    refine gJ6_bitCount ?_
    intro _
    exact hQ
  · intro x e _
    subst d
    refine gJ6_bitCount ?_
    intro _
    have e2 : bcF x = cnF (E 2) (E 1 3).toNat := by
      rw [e]
      refine bc_cn (by omega) (hR.get (by decide) 2) (fun i hi => ⟨fun hb => ?_, fun hb => ?_⟩)
      · have lt := hN i hi hb
        rw [hS.1] at lt
        exact ⟨by omega, (hS.2.2.1 i lt).mp hb⟩
      · exact (hS.2.2.1 i (by omega)).mpr hb.2
    rw [e2]
    exact hQ
  · intro x e _
    subst d
    rw [c10] at e
    subst e
    refine gX8_weatherAt hS (by omega) ?_
    intro _
    exact hQ
  · intro x e _
    subst d
    rw [e]
    exact hQ
  · intro x e _
    subst d
    rw [e]
    exact hQ
  · intro x e _
    subst d
    rw [e]
    exact hQ
  · intro x e _
    subst d
    rw [e]
    exact hQ
  · rw [cnA_no d] at hQ
    exact hQ
theorem gX12_count {p1 b : Int} {M E : Mem} {Q : Int → Mem → Prop} (hI : IM b M) (hC : CE E M) (hW : WR E (M 5)) (h37 : M 5 37 ≤ 2000000000) (ho : ∀ m, 0 ≤ m → m < E 1 5 → 0 ≤ E 3 m ∧ E 3 m < E 1 4) (hQ : ∀ M' : Mem, IM b M' → Q (cnA E (M 5) (M 1 45) (M 1 28) (M 1 1) (M 1 14) p1) M') : qX12_count p1 M Q := by
  have hE := hC.eb hI
  have g := hE.1
  have w := hW.2.2.2.2
  unfold qX12_count
  intro M1 h1
  obtain ⟨i1, E1, k5, _, kk⟩ := th0 hI hC h1
  have n45 : M1 1 45 = M 1 45 := kk 1 45 (by omega)
  have n28 : M1 1 28 = M 1 28 := kk 1 28 (by omega)
  have n11 : M1 1 1 = M 1 1 := kk 1 1 (by omega)
  have n14 : M1 1 14 = M 1 14 := kk 1 14 (by omega)
  have H := hQ M1 i1
  rw [← k5, ← n45, ← n28, ← n11, ← n14] at H
  rw [← k5] at hW h37 w
  have fin : ∀ v2 : Int, v2 = cnF (E 2) (E 1 3).toNat → ((p1 = 0 → (∀ x11 : Int, x11 = M1 1 3 → iR x11 → (Q x11 M1))) ∧ (p1 = 1 → (∀ x12 : Int, x12 = M1 1 4 → iR x12 → (Q x12 M1))) ∧ (p1 = 2 → (∀ x13 : Int, x13 = M1 1 5 → iR x13 → (Q x13 M1))) ∧ (p1 = 3 → (∀ x14 : Int, x14 = M1 5 37 → iR x14 → (Q x14 M1))) ∧ (p1 = 4 → (∀ x15 : Int, x15 = M1 5 12 → iR x15 → (Q x15 M1))) ∧ (p1 = 5 → (qX12_endedBy 5 1 M1 (fun (x16 : Int) (M16 : Mem) => iR x16 → (qX12_endedBy 5 0 M16 (fun (x17 : Int) (M17 : Mem) => iR x17 → (∀ x18 : Int, x18 = oI x16 x17 → iR x18 → (qJ6_bitCount_0f7a4 x18 M17 (fun (x19 : Int) (M19 : Mem) => iR x19 → (Q x19 M19))))))))) ∧ (p1 = 6 → (qX12_endedBy 5 1 M1 (fun (x20 : Int) (M20 : Mem) => iR x20 → (qJ6_bitCount_0f7a4 x20 M20 (fun (x21 : Int) (M21 : Mem) => iR x21 → (Q x21 M21)))))) ∧ (p1 = 7 → (iR v2 ∧ (Q v2 M1))) ∧ (p1 = 8 → (∀ x23 : Int, x23 = M1 5 37 → iR x23 → (qX12_weatherOn x23 M1 (fun (x24 : Int) (M24 : Mem) => iR x24 → (Q x24 M24))))) ∧ (p1 = 9 → (∀ x25 : Int, x25 = M1 1 45 → iR x25 → (Q x25 M1))) ∧ (p1 = 10 → (∀ x26 : Int, x26 = M1 1 28 → iR x26 → (Q x26 M1))) ∧ (p1 = 11 → (∀ x27 : Int, x27 = M1 1 1 → iR x27 → (Q x27 M1))) ∧ (p1 = 12 → (∀ x28 : Int, x28 = M1 1 14 → iR x28 → (Q x28 M1))) ∧ ((p1 < 0 ∨ 12 < p1) → (Q (-100) M1))) := by
    intro v2 hv2
    have vb := cnF_b (E 2) (E 1 3).toNat
    refine ⟨fun d => ?_, fun d => ?_, fun d => ?_, fun d => ?_, fun d => ?_, fun d => ?_, fun d => ?_, fun d => ?_, fun d => ?_, fun d => ?_, fun d => ?_, fun d => ?_, fun d => ?_, fun d => ?_⟩
    · intro x e _
      subst d
      rw [e, E1 1 3 cE13]
      exact H
    · intro x e _
      subst d
      rw [e, E1 1 4 cE14]
      exact H
    · intro x e _
      subst d
      rw [e, E1 1 5 cE15]
      exact H
    · intro x e _
      subst d
      rw [e]
      exact H
    · intro x e _
      subst d
      rw [e]
      exact H
    · subst d
      refine gX12_endedBy5 (Or.inr rfl) i1 E1 ?_
      intro _
      refine gX12_endedBy5 (Or.inl rfl) i1 E1 ?_
      intro _ x18 e18 _
      refine gJ6_bitCount ?_
      intro _
      rw [e18, bc_edB hE hW]
      exact H
    · subst d
      refine gX12_endedBy5 (Or.inr rfl) i1 E1 ?_
      intro _
      refine gJ6_bitCount ?_
      intro _
      rw [edB_rg hE ho]
      exact H
    · subst d
      rw [hv2]
      exact ⟨⟨by omega, by omega⟩, H⟩
    · intro x e _
      subst d
      subst e
      refine gX12_weatherOn i1 (by omega) ?_
      intro _
      rw [E1 1 7 cE17, E1 4 _ (cE4 _)]
      exact H
    · intro x e _
      subst d
      rw [e]
      exact H
    · intro x e _
      subst d
      rw [e]
      exact H
    · intro x e _
      subst d
      rw [e]
      exact H
    · intro x e _
      subst d
      rw [e]
      exact H
    · rw [cnA_no d] at H
      exact H
  have loop : ∀ (n : Nat) (v2 v3 : Int), v2 = cnF (E 2) v3.toNat → (0 ≤ v3 ∧ v3 ≤ E 1 3) → E 1 3 - v3 < (n : Int) → qX12_count_L9 p1 (fun (v2 : Int) (M : Mem) => ((p1 = 0 → (∀ x11 : Int, x11 = M 1 3 → iR x11 → (Q x11 M))) ∧ (p1 = 1 → (∀ x12 : Int, x12 = M 1 4 → iR x12 → (Q x12 M))) ∧ (p1 = 2 → (∀ x13 : Int, x13 = M 1 5 → iR x13 → (Q x13 M))) ∧ (p1 = 3 → (∀ x14 : Int, x14 = M 5 37 → iR x14 → (Q x14 M))) ∧ (p1 = 4 → (∀ x15 : Int, x15 = M 5 12 → iR x15 → (Q x15 M))) ∧ (p1 = 5 → (qX12_endedBy 5 1 M (fun (x16 : Int) (M16 : Mem) => iR x16 → (qX12_endedBy 5 0 M16 (fun (x17 : Int) (M17 : Mem) => iR x17 → (∀ x18 : Int, x18 = oI x16 x17 → iR x18 → (qJ6_bitCount_0f7a4 x18 M17 (fun (x19 : Int) (M19 : Mem) => iR x19 → (Q x19 M19))))))))) ∧ (p1 = 6 → (qX12_endedBy 5 1 M (fun (x20 : Int) (M20 : Mem) => iR x20 → (qJ6_bitCount_0f7a4 x20 M20 (fun (x21 : Int) (M21 : Mem) => iR x21 → (Q x21 M21)))))) ∧ (p1 = 7 → (iR v2 ∧ (Q v2 M))) ∧ (p1 = 8 → (∀ x23 : Int, x23 = M 5 37 → iR x23 → (qX12_weatherOn x23 M (fun (x24 : Int) (M24 : Mem) => iR x24 → (Q x24 M24))))) ∧ (p1 = 9 → (∀ x25 : Int, x25 = M 1 45 → iR x25 → (Q x25 M))) ∧ (p1 = 10 → (∀ x26 : Int, x26 = M 1 28 → iR x26 → (Q x26 M))) ∧ (p1 = 11 → (∀ x27 : Int, x27 = M 1 1 → iR x27 → (Q x27 M))) ∧ (p1 = 12 → (∀ x28 : Int, x28 = M 1 14 → iR x28 → (Q x28 M))) ∧ ((p1 < 0 ∨ 12 < p1) → (Q (-100) M)))) Q n v2 v3 M1 := by
    intro n
    induction n with
    | zero => intro v2 v3 h2 hv hm; exact absurd hm (by omega)
    | succ n ih =>
      intro v2 v3 h2 hv hm
      rw [qX12_count_L9]
      intro x2 e2 _
      rw [E1 1 3 cE13] at e2
      have cs := cnF_s (f := E 2) hv.1
      refine ⟨⟨by omega, by omega⟩, ⟨fun c => fin v2 (by rw [h2, show v3 = E 1 3 from by omega]), fun c => ⟨hv.1, by omega, ?_⟩⟩⟩
      intro x7 e7 _
      rw [E1 2 v3 (cE2 v3)] at e7
      refine gX12_flag i1 ?_
      intro _
      refine ih _ _ ?_ (by omega) (by omega)
      rw [cs, ← e7, h2]
  exact ⟨31, loop 31 0 0 rfl (by omega) (by omega)⟩
theorem Cl_count (k : Nat) (MX MM : Mem) (y1 : Int) (hy1 : iR y1) (hk : k < 512) (hMX : MR MX) (hMM : MR MM) (hR : Rel k MX MM) (hc : MX 167 1 = MM 1 1) (hN : CNR MX) : qX11_count y1 MX (fun z MX1 => qX12_count y1 MM (fun b MM1 => z = b ∧ Rel (k + 1) MX1 MM1)) := by
  have S := hR.S
  have r37 := hR.r37 hk
  refine fmX11_count (gX11_count (E := cut MM) (r := MM 5) (p1 := y1) hR.1 S.1 S.2.2.1 S.2.2.2.1 (by omega) hMX hN (Q := fun z M' => z = cnA (cut MM) (MM 5) (MX 182 2) (MX 163 2) (MX 167 1) (MX 156 1) y1 ∧ IX M') ⟨rfl, hR.1⟩) ?_
  intro z MX1 fX hX
  refine fmX12_count (gX12_count (E := cut MM) (p1 := y1) hR.2.1 (cut_CE MM) S.2.2.2.1 (by omega) hR.own (Q := fun z M' => z = cnA (cut MM) (MM 5) (MM 1 45) (MM 1 28) (MM 1 1) (MM 1 14) y1 ∧ IM (60000 * (k : Int)) M') (fun M' i => ⟨rfl, i⟩)) ?_
  intro b MM1 fM hM
  exact ⟨by rw [hX.1, hM.1, hR.2.2.2.1, S.2.2.2.2.1.1, hc, hR.2.2.1], hR.q hX.2 hM.2 (by omega) (fX 156 1 (by first | omega | exact fun h => h)) (fM 1 14 (by first | omega | exact fun h => h)) (fX 182 2 (by first | omega | exact fun h => h)) (fM 1 45 (by first | omega | exact fun h => h)) (fun j => fX 157 j (by first | omega | exact fun h => h)) (fun j => fM 7 j (by first | omega | exact fun h => h)) (fun j => ⟨fX 183 j (by first | omega | exact fun h => h), fX 184 j (by first | omega | exact fun h => h), fM 26 j (by first | omega | exact fun h => h), fM 27 j (by first | omega | exact fun h => h)⟩) (fun k j q => fX k j (by first | omega | exact fun h => h)) (fun k j q => fM k j (by first | omega | exact fun h => h))⟩
