/-! THE END on the reference's side; how many end right -/
theorem CE.eb {E M : Mem} {b : Int} (h : CE E M) (hI : IM b M) : EBx E := by
  have a := h.h hI
  have o := h.o hI
  have g := h.g hI
  have e3 : M 1 3 = E 1 3 := h 1 3 cE13
  have e4 : M 1 4 = E 1 4 := h 1 4 cE14
  have e5 : M 1 5 = E 1 5 := h 1 5 cE15
  exact ⟨by omega, by omega, by omega⟩
theorem gX12_endedBy_L5 {b : Int} {M E : Mem} {Q : Int → Mem → Prop} (hI : IM b M) (hE : CE E M) (ho : ∀ m, 0 ≤ m → m < E 1 5 → 0 ≤ E 3 m ∧ E 3 m < E 1 4) (hQ : Q (rgB E (M 6)) M) : ∀ (n : Nat) (v3 v4 : Int), v3 = bitF (fun m => if M 6 (29 + m) = E 3 m then 1 else 0) 1 v4.toNat → (0 ≤ v4 ∧ v4 ≤ E 1 5) → E 1 5 - v4 < (n : Int) → qX12_endedBy_L5 6 1 Q n v3 v4 M := by
  have E0 := hE.eb hI
  have f := E0.f
  have g := E0.2
  intro n
  induction n with
  | zero => intro v3 v4 h1 hv hm; exact absurd hm (by omega)
  | succ n ih =>
    intro v3 v4 h1 hv hm
    have r3 := bitF_R (fun m => if M 6 (29 + m) = E 3 m then 1 else 0) 1 v4.toNat
    rw [← h1] at r3
    have hs := bitF_s (f := fun m => if M 6 (29 + m) = E 3 m then 1 else 0) (x := 1) hv.1
    rw [qX12_endedBy_L5]
    intro x1 e1 _
    rw [hE 1 5 cE15] at e1
    refine ⟨⟨by omega, by omega⟩, ⟨fun c => ⟨r3, ?_⟩, fun c => ?_⟩⟩
    · rw [h1, show v4.toNat = eO E from by omega]
      exact hQ
    · have o := ho v4 hv.1 (by omega)
      refine gX12_isEnded (k0 := 6) (by omega) ?_
      intro z hz _ _
      refine ⟨fun c2 => ?_, fun c2 => ⟨by omega, by omega, ?_⟩⟩
      · intro x7 e7 _
        refine ih _ _ ?_ (by omega) (by omega)
        rw [hs, if_neg (show ¬ M 6 (29 + v4) = E 3 v4 by omega), if_neg (by decide), e7, h1]
      · intro x10 e10 _
        refine ⟨by omega, by omega, ?_⟩
        intro x13 e13 _
        rw [hE 3 v4 (cE3 v4)] at e13
        refine ⟨fun c3 => ?_, fun c3 => ?_⟩
        · unfold qX12_endedBy_J46
          refine ⟨⟨by decide, by decide⟩, ⟨fun _ => ?_, fun q => absurd q (by decide)⟩⟩
          intro x17 e17 _
          refine ih _ _ ?_ (by omega) (by omega)
          rw [hs, if_neg (show ¬ M 6 (29 + v4) = E 3 v4 by omega), if_neg (by decide), e17, h1]
        · unfold qX12_endedBy_J46
          refine ⟨⟨by decide, by decide⟩, ⟨fun q => absurd rfl q, fun _ => ?_⟩⟩
          intro x18 e18 _ x19 e19 _
          refine ih _ _ ?_ (by omega) (by omega)
          rw [hs, if_pos (show M 6 (29 + v4) = E 3 v4 by omega), if_pos rfl, e19, e18, h1]
theorem gX12_endedBy {b : Int} {M E : Mem} {Q : Int → Mem → Prop} (hI : IM b M) (hE : CE E M) (ho : ∀ m, 0 ≤ m → m < E 1 5 → 0 ≤ E 3 m ∧ E 3 m < E 1 4) (hQ : Q (rgB E (M 6)) M) : qX12_endedBy 6 1 M Q := by
  have g := (hE.eb hI).2
  unfold qX12_endedBy
  exact ⟨9, gX12_endedBy_L5 hI hE ho hQ _ _ _ rfl (by omega) (by omega)⟩
/-- beyond a row's numbers -/
def OUT (g r : Int → Int) : Prop := ∀ j : Int, (j < 0 ∨ 38 ≤ j) → r j = g j
theorem hsF_out {E : Mem} {j : Int} (hj : j < 0 ∨ 38 ≤ j) : ∀ (l : List Int) (r : Int → Int), (∀ x, x ∈ l → 0 ≤ x ∧ x ≤ 5) → hsF E l r j = r j := by
  intro l
  induction l with
  | nil => intro r _; rfl
  | cons a t ih =>
    intro r hl
    have ha := hl a List.mem_cons_self
    show hsF E t (mhF E r a) j = r j
    rw [ih (mhF E r a) (fun x hx => hl x (List.mem_cons_of_mem _ hx)), mhF_o (by omega) (by omega) (by omega)]
theorem stF_out {E : Mem} {r : Int → Int} (hE : EBx E) : OUT r (stF E r) := by
  intro j hj
  have f := hE.f
  have g := hE.2
  have m : ∀ n : Nat, n ≤ 8 → ∀ r : Int → Int, msF E n r j = r j := by
    intro n
    induction n with
    | zero => intro _ r; rfl
    | succ n ih =>
      intro hn r
      show (if 0 ≤ msF E n r (29 + n) then msF E n r else mmF E (msF E n r) n) j = _
      split
      · exact ih (by omega) r
      · rw [mmF_o (by omega)]
        exact ih (by omega) r
  unfold stF
  rw [up_j (by omega), m (eO E) (by omega), hsF_out hj _ _ (ln_x hE).1.i]
theorem itF_out {E : Mem} {r : Int → Int} (hE : EBx E) : ∀ n : Nat, OUT r (itF E n r) := by
  intro n
  induction n with
  | zero => intro j _; rfl
  | succ n ih =>
    intro j hj
    show stF E (itF E n r) j = r j
    rw [stF_out hE j hj]
    exact ih j hj
theorem gX12_rightThen_L4 {b : Int} {E : Mem} {r : Int → Int} {X50 : Mem → Prop} {Q : Int → Mem → Prop} (hE0 : EBx E) (hW : WR E r) (hb : b + 200 ≤ 2000000000) (hX : ∀ M' : Mem, IM (b + 200) M' → CE E M' → OUT r (M' 6) → grv E (M' 6) (itF E 200 r) → X50 M') : ∀ (n : Nat) (v1 v2 : Int) (M : Mem), IM (b + v2) M → CE E M → M 6 = itF E v2.toNat r → (0 ≤ v2 ∧ v2 ≤ 200) → (v1 = 1 ∨ v1 = 0 ∧ allA E (M 6) ∧ fol E (M 6)) → 200 - v2 < (n : Int) → qX12_rightThen_L4 X50 Q n v1 v2 M := by
  have e5 := hE0.2.2
  intro n
  induction n with
  | zero => intro v1 v2 M hI hE h6 hv h1 hm; exact absurd hm (by omega)
  | succ n ih =>
    intro v1 v2 M hI hE h6 hv h1 hm
    rw [qX12_rightThen_L4]
    refine ⟨⟨by omega, by omega⟩, ⟨fun c => ?_, fun c => ⟨⟨by omega, by omega⟩, ⟨fun c2 => ?_, fun c2 => ?_⟩⟩⟩⟩
    · refine hX M (hI.mono (by omega)) hE (by rw [h6]; exact itF_out hE0 _) ?_
      rw [h6, show v2.toNat = 200 from by omega]
      exact fun m p q => rfl
    · rcases h1 with h1 | ⟨_, h1, h2⟩
      · omega
      · refine hX M (hI.mono (by omega)) hE (by rw [h6]; exact itF_out hE0 _) ?_
        have W := hW.it hE0 v2.toNat
        rw [← h6] at W
        intro m p q
        have e := gr_allA hE0 W h1 h2 (200 - v2.toNat) m p q
        rw [h6, ← st_add, show 200 - v2.toNat + v2.toNat = 200 from by omega] at e
        rw [h6]
        exact e.symm
    · refine gX12_laysLine (k1 := 6) hI hE (Or.inr rfl) ?_
      intro M1 i1 f1 l1 hl
      have E1 : CE E M1 := hE.fr f1 (by intro k j h; rcases h with h | h | h | h | h <;> omega)
      have k1 : M1 6 = M 6 := funext fun j => f1 6 j (by omega)
      intro x6 e6 _
      have l0 := l1.1
      have W := hW.it hE0 v2.toNat
      rw [← h6] at W
      have go : ∀ t : Int, (t = 1 ∨ t = 0 ∧ lnL (M 6) (eH E) (eG E).toNat = []) → qX12_rightThen_J35 (qX12_rightThen_L4 X50 Q n) X50 Q v2 t M1 := by
        intro t ht
        unfold qX12_rightThen_J35
        refine gX12_stepGoes i1 E1 (by omega) (Or.inr rfl) ?_
        intro M' i' E' k'
        rw [k1] at k'
        refine ih t (v2 + 1) M' (i'.mono (by omega)) E' (by rw [k', h6, itF_s hv.1]) (by omega) ?_ (by omega)
        rcases ht with q | ⟨q, u⟩
        · exact Or.inl q
        · refine Or.inr ⟨q, ?_, ?_⟩
          · rw [k']
            exact (allA_st hE0 (ln_all hE0 W u)).2
          · rw [k']
            exact fol_st hE0 W
      refine ⟨fun c3 => ?_, fun c3 => go 1 (Or.inl rfl)⟩
      refine go 0 (Or.inr ⟨rfl, ?_⟩)
      have : (lnL (M 6) (eH E) (eG E).toNat).length = 0 := by omega
      exact List.eq_nil_of_length_eq_zero this
theorem gX12_rightThen {b : Int} {M E : Mem} {Q : Int → Mem → Prop} (hI : IM b M) (hE : CE E M) (ho : ∀ m, 0 ≤ m → m < E 1 5 → 0 ≤ E 3 m ∧ E 3 m < E 1 4) (hW : WR E (M 6)) (hb : b + 200 ≤ 2000000000) (hQ : ∀ M' : Mem, IM (b + 200) M' → CE E M' → OUT (M 6) (M' 6) → grv E (M' 6) (itF E 200 (M 6)) → Q (rgE E (M 6)) M') : qX12_rightThen M Q := by
  have E0 := hE.eb hI
  unfold qX12_rightThen
  refine ⟨202, gX12_rightThen_L4 (b := b) (E := E) (r := M 6) E0 hW hb ?_ _ _ _ _ (hI.mono (by omega)) hE rfl (by omega) (Or.inl rfl) (by omega)⟩
  intro M' i' E' o' g'
  unfold qX12_rightThen_J50
  refine gX12_endedBy i' E' ho ?_
  intro _
  rw [rgB_cg E0 g']
  exact hQ M' i' E' o' g'
