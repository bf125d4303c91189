/-! HOUR: the reference's loops -/
theorem mhF_oo {E : Mem} {r : Int → Int} {h j : Int} (hh : 0 ≤ h) (hj : j ≤ 5) (hn : j ≠ h) : mhF E r h j = r j := by
  unfold mhF
  split
  · rfl
  · split
    · rw [up_j hn, up_j (by omega), up_j (by omega)]
    · rw [up_j hn]
theorem WR.hs {E : Mem} (hE : EBx E) : ∀ (l : List Int) (r : Int → Int), VL (eG E) r l → (∀ x, x ∈ l → x < E 1 4) → WR E r → WR E (hsF E l r) := by
  intro l
  induction l with
  | nil => intro r _ _ hW; exact hW
  | cons h t ih =>
    intro r hV hl hW
    obtain ⟨v1, v2, v3⟩ := hV
    show WR E (hsF E t (mhF E r h))
    refine ih _ (v3.cg (fun x hx => ?_)) (fun x hx => hl x (List.mem_cons_of_mem _ hx)) (hW.mh hE ⟨v1.1, hl h List.mem_cons_self⟩ v1.2.2.1)
    have := v3.i x hx
    exact mhF_oo v1.1 this.2 (v2 x hx)
theorem WR.ms {E : Mem} {r : Int → Int} (hE : EBx E) (hW : WR E r) : ∀ n : Nat, (n : Int) ≤ E 1 5 → WR E (msF E n r) := by
  intro n
  induction n with
  | zero => intro _; exact hW
  | succ n ih =>
    intro h
    have i := ih (by omega)
    show WR E (if 0 ≤ msF E n r (29 + n) then msF E n r else mmF E (msF E n r) n)
    split
    · exact i
    · exact i.mm hE ⟨by omega, by omega⟩
theorem WR.st {E : Mem} {r : Int → Int} (hE : EBx E) (hW : WR E r) : WR E (stF E r) := by
  have f := hE.f
  have g := hE.2
  have hl : ∀ x, x ∈ lnL r (eH E) (eG E).toNat → x < E 1 4 := fun x q => by have := lnL_mem _ x q; omega
  have w := WR.ms hE (WR.hs hE _ r (lnL_VL (by omega) _ (by have := hE.1; omega)) hl hW) (eO E) (by omega)
  have e : ∀ j, j ≠ 37 → stF E r j = msF E (eO E) (hsF E (lnL r (eH E) (eG E).toNat) r) j := fun j h => by unfold stF; rw [up_j h]
  have e37 : stF E r 37 = msF E (eO E) (hsF E (lnL r (eH E) (eG E).toNat) r) 37 + 1 := by unfold stF; rw [upS]
  refine ⟨fun i j i0 i1 j0 j1 q p => ?_, fun i i0 i1 => ?_, fun i i0 i1 => ?_, ?_, ?_⟩
  · rw [e i (by omega), e j (by omega)] at q
    rw [e i (by omega)] at p
    exact w.1 i j i0 i1 j0 j1 q p
  · rw [e i (by omega), e (6 + i) (by omega)]
    exact w.2.1 i i0 i1
  · rw [e (21 + i) (by omega), e (13 + i) (by omega), e (29 + i) (by omega)]
    exact w.2.2.1 i i0 i1
  · rw [e 12 (by decide), w.2.2.2.1]
    exact arF_cg (fun i i0 i1 => by rw [e i (by omega)])
  · rw [e37]
    have := w.2.2.2.2
    omega
theorem WR.it {E : Mem} {r : Int → Int} (hE : EBx E) (hW : WR E r) : ∀ n : Nat, WR E (itF E n r) := by
  intro n
  induction n with
  | zero => exact hW
  | succ n ih => exact WR.st hE ih
theorem WR.dos {E : Mem} {r : Int → Int} {P : Int × Int × Int × Int × Int} (hE : EBx E) (hW : WR E r) (ho : ∀ m, 0 ≤ m → m < E 1 5 → 0 ≤ E 3 m ∧ E 3 m < E 1 4) : WR E (doR E r P) := by
  unfold doR
  split
  · exact WR.it hE hW _
  · split
    · exact hW.tn hE ho
    · split
      · exact hW.ps hE
      · split
        · exact hW.ps hE
        · exact hW.sw hE
/-- where the k-th act begins -/
def poA (f : Int → Int) (t : Int) : Nat → Int
  | 0 => 0
  | k + 1 => (prA f t (poA f t k)).2.1
theorem poA_s {f : Int → Int} {t k : Int} (h : 0 ≤ k) : poA f t (k + 1).toNat = (prA f t (poA f t k.toNat)).2.1 := by
  rw [show (k + 1).toNat = k.toNat + 1 from by omega]
  rfl
/-- the acts read so far: entry i is the act at its place -/
def ACS (M : Mem) (f : Int → Int) (t n : Int) : Prop := ∀ i, 0 ≤ i → i < n → (prA f t (poA f t i.toNat)).1 = 1 ∧ poA f t i.toNat < t ∧ ENT M i (prA f t (poA f t i.toNat))
theorem ACS.fr {M M' : Mem} {f : Int → Int} {t n : Int} (h : ACS M f t n) (hf : ∀ (k : Nat) (j : Int), (k = 19 ∨ k = 20 ∨ k = 21) → 0 ≤ j → j < n → M' k j = M k j) : ACS M' f t n := by
  intro i p q
  obtain ⟨a, b, c1, c2, c3⟩ := h i p q
  exact ⟨a, b, by rw [hf 19 i (by omega) p q]; exact c1, by rw [hf 20 i (by omega) p q]; exact c2, fun w => by rw [hf 21 i (by omega) p q]; exact c3 w⟩
theorem gX12_hour_L19 {b v1 : Int} {X42 : Int → Int → Mem → Prop} {Q : Int → Mem → Prop} {M0 : Mem} {T : Int × Int} (ht : M0 1 16 ≤ 60) (hX : ∀ M' : Mem, IM b M' → FrJ kAc M0 M' → M' 1 15 = T.2 → (T.1 = 1 → M0 1 16 ≤ T.2 → 0 ≤ M' 1 39 ∧ M' 1 39 ≤ 30 ∧ ACS M' (M0 7) (M0 1 16) (M' 1 39) ∧ poA (M0 7) (M0 1 16) (M' 1 39).toNat = M' 1 15) → X42 v1 T.1 M') : ∀ (n : Nat) (M : Mem), IM b M → FrJ kAc M0 M → hrd (M0 7) (M0 1 16) n (M 1 15) = T → M 1 15 ≤ M0 1 16 → (2 * M 1 39 ≤ M 1 15) → ACS M (M0 7) (M0 1 16) (M 1 39) → poA (M0 7) (M0 1 16) (M 1 39).toNat = M 1 15 → M0 1 16 - M 1 15 ≤ 2 * n → qX12_hour_L19 X42 Q (n + 2) v1 1 M := by
  intro n
  induction n with
  | zero =>
    intro M hI hF hT ha h2 hA hp hn
    have b39 := bm_c1_39.mp (hI.bx 1 39)
    have e16 : M 1 16 = M0 1 16 := hF 1 16 (by omega)
    rw [qX12_hour_L19]
    refine ⟨⟨by decide, by decide⟩, ⟨fun c => absurd c (by decide), fun _ => ?_⟩⟩
    intro x6 e6 _ x7 e7 _
    refine ⟨fun _ => ?_, fun c => by omega⟩
    subst hT
    exact hX M hI hF rfl (fun _ _ => ⟨b39.1, by omega, hA, hp⟩)
  | succ n ih =>
    intro M hI hF hT ha h2 hA hp hn
    have b39 := bm_c1_39.mp (hI.bx 1 39)
    have b15 := bm_c1_15.mp (hI.bx 1 15)
    have e7' : M 7 = M0 7 := funext fun j => hF 7 j (by omega)
    have e16 : M 1 16 = M0 1 16 := hF 1 16 (by omega)
    have bp := prA_b (f := M0 7) (t := M0 1 16) ha
    rw [qX12_hour_L19]
    refine ⟨⟨by decide, by decide⟩, ⟨fun c => absurd c (by decide), fun _ => ?_⟩⟩
    intro x6 e6 _ x7 e7 _
    unfold hrd at hT
    refine ⟨fun c => ?_, fun c => ?_⟩
    · rw [if_pos (by omega)] at hT
      subst hT
      exact hX M hI hF rfl (fun _ _ => ⟨b39.1, by omega, hA, hp⟩)
    · rw [if_neg (by omega)] at hT
      refine gX12_readsAct hI (by omega) (by omega) ?_
      intro M9 i9 f9 a9 o9 n9 en9
      rw [e7', e16] at a9 en9 ⊢
      intro _ _
      have F9 := hF.tr f9
      rcases bp.2 with q | q
      · rw [if_pos q] at hT
        rw [q, qX12_hour_L19]
        refine ⟨⟨by decide, by decide⟩, ⟨fun _ => ?_, fun c2 => absurd rfl c2⟩⟩
        subst hT
        exact hX M9 i9 F9 a9 (fun w => absurd w (by show ¬ (0 : Int) = 1; decide))
      · rw [if_neg (by omega)] at hT
        rw [q.1]
        refine ih M9 i9 F9 (by rw [a9]; exact hT) (by omega) (by omega) ?_ ?_ (by omega)
        · rw [n9]
          intro i p w
          by_cases ci : i = M 1 39
          · rw [ci, hp]
            exact ⟨q.1, by omega, en9 q.1⟩
          · have old := ACS.fr (M' := M9) hA o9 i p (by omega)
            exact old
        · rw [n9, poA_s b39.1, hp, a9]
abbrev kDm (k : Nat) (j : Int) : Prop := k = 5 ∨ (13 ≤ k ∧ k ≤ 14) ∨ (16 ≤ k ∧ k ≤ 18) ∨ (k = 1 ∧ (j = 30 ∨ j = 31 ∨ j = 35))
theorem gX12_hour_L64 {b : Int} {E M0 : Mem} {X88 : Int → Mem → Prop} {Q : Int → Mem → Prop} {f : Int → Int} {t K : Int} {T : Int × Int × (Int → Int)} (hE0 : EBx E) (ho : ∀ m, 0 ≤ m → m < E 1 5 → 0 ≤ E 3 m ∧ E 3 m < E 1 4) (hK : 0 ≤ K ∧ K ≤ 30) (hb : b + 300 ≤ 2000000000) (hlast : t ≤ poA f t K.toNat) (hX : ∀ (v4 : Int) (M' : Mem), IM (b + 300) M' → CE E M' → Ks kDm M0 M' → M' 5 = T.2.2 → M' 1 39 = K → v4 = T.1 → (T.2.1 = 0 ∧ v4 = K ∨ T.2.1 = 1 ∧ v4 < K) → X88 v4 M') : ∀ (n : Nat) (v4 : Int) (M : Mem) (r : Int → Int), IM (b + 9 * v4) M → CE E M → Ks kDm M0 M → M 5 = r → WR E r → M 1 39 = K → ACS M f t K → v4 + (hrG E f t n (poA f t v4.toNat) r).1 = T.1 → (hrG E f t n (poA f t v4.toNat) r).2 = T.2 → (0 ≤ v4 ∧ v4 ≤ K) → K - v4 < (n : Int) → qX12_hour_L64 X88 Q n v4 M := by
  intro n
  induction n with
  | zero => intro v4 M r hI hE hKs h5 hW h39 hA hT1 hT2 hv hn; exact absurd hn (by omega)
  | succ n ih =>
    intro v4 M r hI hE hKs h5 hW h39 hA hT1 hT2 hv hn
    rw [qX12_hour_L64]
    intro x16 e16 _
    unfold hrG at hT1 hT2
    refine ⟨⟨by omega, by omega⟩, ⟨fun c => ?_, fun c => ?_⟩⟩
    · have ev : v4 = K := by omega
      rw [ev, if_pos hlast] at hT1 hT2
      have t2 : ((0, r) : Int × (Int → Int)) = T.2 := hT2
      have t1 : K + 0 = T.1 := hT1
      exact hX v4 M (hI.mono (by omega)) hE hKs (by rw [h5, ← t2]) h39 (by omega) (Or.inl ⟨by rw [← t2], ev⟩)
    · obtain ⟨a1, a2, a3⟩ := hA v4 hv.1 (by omega)
      rw [if_neg (by omega)] at hT1 hT2
      obtain ⟨d0, d1, d2⟩ := prA_ok a1
      have dd : sgn (prA f t (poA f t v4.toNat)).2.2.1 ∧ 0 ≤ (prA f t (poA f t v4.toNat)).2.2.2.1 ∧ (prA f t (poA f t v4.toNat)).2.2.2.1 ≤ 9 := by
        have y1 := d1.2.1
        have y2 := d1.2.2
        rcases d2 with q | q
        · rw [q.2]
          refine ⟨d0.2, ?_⟩
          show 0 ≤ f (poA f t v4.toNat + 1) - 48 ∧ f (poA f t v4.toNat + 1) - 48 ≤ 9
          omega
        · rw [q.2.2]
          refine ⟨d0.2, ?_⟩
          show 0 ≤ f (poA f t v4.toNat + 1) - 48 ∧ f (poA f t v4.toNat + 1) - 48 ≤ 9
          omega
      have h12 : 0 ≤ itF E (prA f t (poA f t v4.toNat)).2.2.2.1.toNat r 12 := by
        have w := WR.it hE0 hW (prA f t (poA f t v4.toNat)).2.2.2.1.toNat
        have := arF_b (itF E (prA f t (poA f t v4.toNat)).2.2.2.1.toNat r) (eH E)
        have := w.2.2.2.1
        omega
      refine fmX12_does (gX12_does (P := prA f t (poA f t v4.toNat)) hI hE (by omega) ⟨hv.1, by omega⟩ a3 dd.1 dd.2 (by rw [h5]; exact h12) (Q := fun z M' => IM (b + 9 * v4 + 9) M' ∧ CE E M' ∧ M' 5 = doR E (M 5) (prA f t (poA f t v4.toNat)) ∧ (z = 1 ∧ isDn (doA E (M 5) (prA f t (poA f t v4.toNat))) ∨ z = 0 ∧ ¬ isDn (doA E (M 5) (prA f t (poA f t v4.toNat))))) (fun z M' p q u w => ⟨p, q, u, w⟩)) ?_
      intro z M' kf ⟨i', E', k5, hz⟩ _ _
      rw [h5] at k5 hz
      have A' : ACS M' f t K := hA.fr (fun k j hk h0 h1 => kf k j (by omega))
      have g39 : M' 1 39 = K := by rw [kf 1 39 (by omega)]; exact h39
      refine ⟨fun c2 => ?_, fun c2 => ?_⟩
      · have nd : ¬ isDn (doA E r (prA f t (poA f t v4.toNat))) := by
          rcases hz with q | q
          · omega
          · exact q.2
        rw [if_neg (show ¬ (0 ≤ doA E r (prA f t (poA f t v4.toNat)) ∨ doA E r (prA f t (poA f t v4.toNat)) = -4) from nd)] at hT1 hT2
        have t2 : ((1, r) : Int × (Int → Int)) = T.2 := hT2
        have t1 : v4 + 0 = T.1 := hT1
        rw [do_nd h12 nd] at k5
        exact hX v4 M' (i'.mono (by omega)) E' (hKs.tr kf) (by rw [k5, ← t2]) g39 (by omega) (Or.inr ⟨by rw [← t2], by omega⟩)
      · have dn : isDn (doA E r (prA f t (poA f t v4.toNat))) := by
          rcases hz with q | q
          · exact q.2
          · omega
        rw [if_pos (show 0 ≤ doA E r (prA f t (poA f t v4.toNat)) ∨ doA E r (prA f t (poA f t v4.toNat)) = -4 from dn)] at hT1 hT2
        refine ih (v4 + 1) M' (doR E r (prA f t (poA f t v4.toNat))) (i'.mono (by omega)) E' (hKs.tr kf) k5 (WR.dos hE0 hW ho) g39 A' ?_ ?_ (by omega) (by omega)
        · rw [poA_s hv.1, ← hT1]
          show v4 + 1 + _ = v4 + (_ + 1)
          omega
        · rw [poA_s hv.1]
          exact hT2
