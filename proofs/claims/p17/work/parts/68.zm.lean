/-! HOUR: the reference does acts -/
theorem gX12_does_L46 {p1 b : Int} {E : Mem} {r : Int → Int} {Q : Int → Mem → Prop} {m : Int} (hm : 0 ≤ m ∧ m ≤ 9) (hb : b + 9 ≤ 2000000000) (hQ : ∀ M' : Mem, IM (b + 9) M' → CE E M' → M' 5 = itF E m.toNat r → Q 1 M') : ∀ (n : Nat) (v3 : Int) (M : Mem), IM (b + v3) M → CE E M → M 5 = itF E v3.toNat r → (0 ≤ v3 ∧ v3 ≤ m) → m - v3 < (n : Int) → qX12_does_L46 p1 Q n m v3 M := by
  intro n
  induction n with
  | zero => intro v3 M hI hE hr hv hn; exact absurd hn (by omega)
  | succ n ih =>
    intro v3 M hI hE hr hv hn
    rw [qX12_does_L46]
    refine ⟨⟨by omega, by omega⟩, ⟨by omega, by omega⟩, ⟨fun c => hQ _ (hI.mono (by omega)) hE (by rw [hr, show v3.toNat = m.toNat from by omega]), fun c => ?_⟩⟩
    refine gX12_stepGoes hI hE (by omega) (Or.inl rfl) ?_
    intro M' i' E' k'
    exact ih _ _ (i'.mono (by omega)) E' (by rw [k', hr, itF_s hv.1]) (by omega) (by omega)
theorem ps_4 {E : Mem} {r : Int → Int} {m v : Int} : psA E r m v ≠ -4 := by
  unfold psA psV
  split
  · decide
  · split
    · decide
    · omega
theorem sw_4 {E : Mem} {r : Int → Int} {a b : Int} : swA E r a b ≠ -4 := by
  unfold swA
  split
  · decide
  · split
    · decide
    · have := (ab_b (r b - r a)).1
      omega
theorem gX12_does {p1 b : Int} {M E : Mem} {P : Int × Int × Int × Int × Int} {Q : Int → Mem → Prop} (hI : IM b M) (hE : CE E M) (hb : b + 9 ≤ 2000000000) (hk : 0 ≤ p1 ∧ p1 < 60) (hP : ENT M p1 P) (hs : sgn P.2.2.1) (hd : 0 ≤ P.2.2.2.1 ∧ P.2.2.2.1 ≤ 9) (hr12 : 0 ≤ itF E P.2.2.2.1.toNat (M 5) 12) (hQ : ∀ (z : Int) (M' : Mem), IM (b + 9) M' → CE E M' → M' 5 = doR E (M 5) P → (z = 1 ∧ isDn (doA E (M 5) P) ∨ z = 0 ∧ ¬ isDn (doA E (M 5) P)) → Q z M') : qX12_does p1 M Q := by
  obtain ⟨e19, e20, e21⟩ := hP
  unfold doA doR at hQ
  unfold qX12_does
  refine ⟨hk.1, hk.2, ?_⟩
  intro x3 w3 _ x4 w4 _
  have f3 : x3 = P.2.2.2.1 := by rw [w3, e20]
  have f4 : x4 = sgX P.2.2.1 := by rw [w4, e19]
  have W : ∀ N : Mem, IM b N → FrJ (fun k _ => k = 5) M N → CE E N := fun N _ f => hE.fr f (by intro k j h; rcases h with h | h | h | h | h <;> omega)
  refine ⟨fun c => ?_, fun c => ?_, fun c => ?_, fun c => ?_, fun c => ?_⟩
  · have s : P.2.2.1 = 110 := by
      rcases hs with h | h | h | h | h
      · exact h
      · rw [h] at f4; have : sgX 116 = 1 := rfl; omega
      · rw [h] at f4; have : sgX 112 = 2 := rfl; omega
      · rw [h] at f4; have : sgX 98 = 3 := rfl; omega
      · rw [h] at f4; have : sgX 120 = 4 := rfl; omega
    rw [if_pos s, if_pos s] at hQ
    refine ⟨10, ?_⟩
    rw [f3]
    refine gX12_does_L46 (b := b) (r := M 5) hd hb ?_ _ _ _ (hI.mono (by omega)) hE rfl (by omega) (by omega)
    intro M' i' E' k'
    exact hQ 1 M' i' E' k' (Or.inl ⟨rfl, Or.inl hr12⟩)
  · have s : P.2.2.1 = 116 := by
      rcases hs with h | h | h | h | h
      · rw [h] at f4; have : sgX 110 = 0 := rfl; omega
      · exact h
      · rw [h] at f4; have : sgX 112 = 2 := rfl; omega
      · rw [h] at f4; have : sgX 98 = 3 := rfl; omega
      · rw [h] at f4; have : sgX 120 = 4 := rfl; omega
    rw [if_neg (by omega), if_pos s, if_neg (by omega), if_pos s] at hQ
    refine gX12_turnsOne hI hE (Or.inl rfl) ?_
    intro M' i' f' k' _
    rw [f3] at k' ⊢
    refine ⟨fun d => hQ 1 M' (i'.mono (by omega)) (W M' i' f') k' (Or.inl ⟨rfl, Or.inl d⟩), fun d => ⟨fun d2 => hQ 0 M' (i'.mono (by omega)) (W M' i' f') k' (Or.inr ⟨rfl, fun u => ?_⟩), fun d2 => hQ 1 M' (i'.mono (by omega)) (W M' i' f') k' (Or.inl ⟨rfl, Or.inr d2⟩)⟩⟩
    rcases u with u | u
    · exact d u
    · exact d2 u
  · have s : P.2.2.1 = 112 := by
      rcases hs with h | h | h | h | h
      · rw [h] at f4; have : sgX 110 = 0 := rfl; omega
      · rw [h] at f4; have : sgX 116 = 1 := rfl; omega
      · exact h
      · rw [h] at f4; have : sgX 98 = 3 := rfl; omega
      · rw [h] at f4; have : sgX 120 = 4 := rfl; omega
    rw [if_neg (by omega), if_neg (by omega), if_pos s, if_neg (by omega), if_neg (by omega), if_pos s] at hQ
    intro x14 w14 _
    have f14 : x14 = P.2.2.2.2 := by rw [w14, e21 (by omega)]
    refine gX12_pushesOne hI hE (Or.inl rfl) ?_
    intro M' i' f' k' _
    rw [f3, f14] at k' ⊢
    have n4 := ps_4 (E := E) (r := M 5) (m := P.2.2.2.1) (v := P.2.2.2.2)
    refine ⟨fun d => hQ 0 M' (i'.mono (by omega)) (W M' i' f') k' (Or.inr ⟨rfl, fun u => ?_⟩), fun d => hQ 1 M' (i'.mono (by omega)) (W M' i' f') k' (Or.inl ⟨rfl, Or.inl (by omega)⟩)⟩
    rcases u with u | u
    · omega
    · exact n4 u
  · have s : P.2.2.1 = 98 := by
      rcases hs with h | h | h | h | h
      · rw [h] at f4; have : sgX 110 = 0 := rfl; omega
      · rw [h] at f4; have : sgX 116 = 1 := rfl; omega
      · rw [h] at f4; have : sgX 112 = 2 := rfl; omega
      · exact h
      · rw [h] at f4; have : sgX 120 = 4 := rfl; omega
    rw [if_neg (by omega), if_neg (by omega), if_neg (by omega), if_pos s, if_neg (by omega), if_neg (by omega), if_neg (by omega), if_pos s] at hQ
    intro x17 w17 _
    have f17 : x17 = P.2.2.2.2 := by rw [w17, e21 (by omega)]
    have b17 : -100 ≤ x17 ∧ x17 ≤ 300 := by rw [w17]; exact bm_c21.mp (hI.bx _ _)
    refine ⟨⟨by omega, by omega⟩, ?_⟩
    refine gX12_pushesOne hI hE (Or.inl rfl) ?_
    intro M' i' f' k' _
    rw [f3, f17] at k' ⊢
    have n4 := ps_4 (E := E) (r := M 5) (m := P.2.2.2.1) (v := -P.2.2.2.2)
    refine ⟨fun d => hQ 0 M' (i'.mono (by omega)) (W M' i' f') k' (Or.inr ⟨rfl, fun u => ?_⟩), fun d => hQ 1 M' (i'.mono (by omega)) (W M' i' f') k' (Or.inl ⟨rfl, Or.inl (by omega)⟩)⟩
    rcases u with u | u
    · omega
    · exact n4 u
  · have s : P.2.2.1 = 120 := by
      rcases hs with h | h | h | h | h
      · rw [h] at f4; have : sgX 110 = 0 := rfl; omega
      · rw [h] at f4; have : sgX 116 = 1 := rfl; omega
      · rw [h] at f4; have : sgX 112 = 2 := rfl; omega
      · rw [h] at f4; have : sgX 98 = 3 := rfl; omega
      · exact h
    rw [if_neg (by omega), if_neg (by omega), if_neg (by omega), if_neg (by omega), if_neg (by omega), if_neg (by omega), if_neg (by omega), if_neg (by omega)] at hQ
    intro x21 w21 _
    have f21 : x21 = P.2.2.2.2 := by rw [w21, e21 (by omega)]
    refine gX12_swapsTwo hI hE ?_
    intro M' i' f' k' _
    rw [f3, f21] at k' ⊢
    have n4 := sw_4 (E := E) (r := M 5) (a := P.2.2.2.1) (b := P.2.2.2.2)
    refine ⟨fun d => hQ 0 M' (i'.mono (by omega)) (W M' i' f') k' (Or.inr ⟨rfl, fun u => ?_⟩), fun d => hQ 1 M' (i'.mono (by omega)) (W M' i' f') k' (Or.inl ⟨rfl, Or.inl (by omega)⟩)⟩
    rcases u with u | u
    · omega
    · exact n4 u
