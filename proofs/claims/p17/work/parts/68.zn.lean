/-! HOUR: the class does them -/
theorem do_nd {E : Mem} {r : Int → Int} {P : Int × Int × Int × Int × Int} (h0 : 0 ≤ itF E P.2.2.2.1.toNat r 12) (h : ¬ isDn (doA E r P)) : doR E r P = r := by
  unfold doA at h
  unfold doR
  by_cases c1 : P.2.2.1 = 110
  · rw [if_pos c1] at h
    exact absurd (Or.inl h0) h
  · rw [if_neg c1] at h ⊢
    by_cases c2 : P.2.2.1 = 116
    · rw [if_pos c2] at h ⊢
      exact tn_nd h
    · rw [if_neg c2] at h ⊢
      by_cases c3 : P.2.2.1 = 112
      · rw [if_pos c3] at h ⊢
        exact ps_nd h
      · rw [if_neg c3] at h ⊢
        by_cases c4 : P.2.2.1 = 98
        · rw [if_pos c4] at h ⊢
          exact ps_nd h
        · rw [if_neg c4] at h ⊢
          exact sw_nd h
theorem do_37 {E : Mem} {r : Int → Int} {P : Int × Int × Int × Int × Int} (hE : EBx E) (hd : 0 ≤ P.2.2.2.1 ∧ P.2.2.2.1 ≤ 9) : r 37 ≤ doR E r P 37 ∧ doR E r P 37 ≤ r 37 + 9 := by
  have e := hE.2
  have tn : ∀ m, tnR E r m 37 = r 37 := by
    intro m
    unfold tnR
    split
    · rename_i c
      rw [up_j (by have := c.1; omega)]
    · rfl
  have ps : ∀ m v, psR E r m v 37 = r 37 := by
    intro m v
    unfold psR
    split
    · rename_i c
      have c0 : 0 ≤ m ∧ m < E 1 5 := c.1.1
      rw [up_j (by omega)]
    · rfl
  have sw : ∀ a b, swR E r a b 37 = r 37 := by
    intro a b
    unfold swR
    split
    · rename_i c
      have c0 : 0 ≤ a ∧ a < E 1 4 := c.1.1
      have c1 : 0 ≤ b ∧ b < E 1 4 := c.1.2.1
      rw [up_j (by omega), up_j (by omega)]
    · rfl
  unfold doR
  by_cases c1 : P.2.2.1 = 110
  · rw [if_pos c1, itF_37 hE]
    omega
  · rw [if_neg c1]
    by_cases c2 : P.2.2.1 = 116
    · rw [if_pos c2, tn]
      omega
    · rw [if_neg c2]
      by_cases c3 : P.2.2.1 = 112
      · rw [if_pos c3, ps]
        omega
      · rw [if_neg c3]
        by_cases c4 : P.2.2.1 = 98
        · rw [if_pos c4, ps]
          omega
        · rw [if_neg c4, sw]
          omega
/-- from a on: how many acts are done, whether one is refused, the row then -/
noncomputable def hrG (E : Mem) (f : Int → Int) (t : Int) : Nat → Int → (Int → Int) → Int × Int × (Int → Int)
  | 0, _, r => (0, 0, r)
  | n + 1, a, r => if t ≤ a then (0, 0, r) else if 0 ≤ doA E r (prA f t a) ∨ doA E r (prA f t a) = -4 then ((hrG E f t n (prA f t a).2.1 (doR E r (prA f t a))).1 + 1, (hrG E f t n (prA f t a).2.1 (doR E r (prA f t a))).2) else (0, 1, r)
theorem gX11_hour_L32 {X92 : Int → Int → Int → Mem → Prop} {Q : Int → Mem → Prop} {M0 E : Mem} {T : Int × Int × (Int → Int)} (hI0 : IX M0) (hS0 : STR E M0) (hL0 : LAW E M0 (M0 155 16).toNat) (hw : WFC (E 11) (E 1 24)) (ht : M0 156 3 ≤ 60) (hX : ∀ M' : Mem, IX M' → Ks (kDo (M0 155 16).toNat) M0 M' → SC E M' 1 T.2.2 → WR E T.2.2 → X92 (-1) T.1 T.2.1 M') : ∀ (n : Nat) (v2 v4 : Int) (M : Mem) (r : Int → Int), IX M → Ks (kDo (M0 155 16).toNat) M0 M → SC E M 1 r → WR E r → (hrd (M0 157) (M0 156 3) n (M 156 2)).1 = 1 → v2 + (hrG E (M0 157) (M0 156 3) n (M 156 2) r).1 = T.1 → (hrG E (M0 157) (M0 156 3) n (M 156 2) r).2 = T.2 → (0 ≤ M 156 2 ∧ M 156 2 ≤ M0 156 3) → (0 ≤ v4 ∧ 2 * v4 ≤ M 156 2) → (0 ≤ v2 ∧ v2 ≤ v4) → r 37 ≤ 1999990000 + 9 * v4 → M0 156 3 - M 156 2 ≤ 2 * n → qX11_hour_L32 X92 Q (n + 1) (-1) v2 0 v4 M := by
  intro n
  induction n with
  | zero =>
    intro v2 v4 M r hI hK hC hW hp hT1 hT2 ha hv h2 h37 hn
    rw [qX11_hour_L32]
    refine ⟨⟨by omega, by omega⟩, ⟨fun c => by omega, fun _ => ⟨⟨by decide, by decide⟩, ⟨fun c => absurd rfl c, fun _ => ⟨⟨by decide, by decide⟩, ⟨fun c => absurd rfl c, fun _ => ?_⟩⟩⟩⟩⟩⟩
    unfold qX9_isRead
    intro x1 e1 _ x2 e2 _
    have el : (M0 155 16).toNat = 187 ∨ (M0 155 16).toNat = 192 := hI0.l16
    have e3 : M 156 3 = M0 156 3 := hK 156 3 (by omega)
    refine ⟨fun c => by omega, fun c => ?_⟩
    intro _ _
    refine ⟨fun _ => ?_, fun c2 => absurd c2 (by decide)⟩
    have t1 : v2 = T.1 := by rw [← hT1]; show v2 = v2 + 0; omega
    have t2 : ((0, r) : Int × (Int → Int)) = T.2 := hT2
    have H := hX M hI hK
    rw [← t2, ← t1] at H
    exact H hC hW
  | succ n ih =>
    intro v2 v4 M r hI hK hC hW hp hT1 hT2 ha hv h2 h37 hn
    have el : (M0 155 16).toNat = 187 ∨ (M0 155 16).toNat = 192 := hI0.l16
    have e157 : M 157 = M0 157 := funext fun j => hK 157 j (by omega)
    have e3 : M 156 3 = M0 156 3 := hK 156 3 (by omega)
    have e16 : M 155 16 = M0 155 16 := hK 155 16 (by omega)
    have b := prA_b (f := M0 157) (t := M0 156 3) ha.2
    have S1 : STR E M := hS0.fr (hK _ _ (by omega)) (hK _ _ (by omega)) (hK _ _ (by omega)) (fun j => hK 159 j (by omega))
    have L1 : LAW E M (M0 155 16).toNat := hL0.fr (hK _ _ (by omega)) (hK _ _ (by omega)) (fun j => hK _ j (by omega)) (fun j => hK _ j (by omega))
    rw [qX11_hour_L32]
    refine ⟨⟨by omega, by omega⟩, ⟨fun c => by omega, fun _ => ⟨⟨by decide, by decide⟩, ⟨fun c => absurd rfl c, fun _ => ⟨⟨by decide, by decide⟩, ⟨fun c => absurd rfl c, fun _ => ?_⟩⟩⟩⟩⟩⟩
    unfold qX9_isRead
    intro x1 e1 _ x2 e2 _
    unfold hrd at hp
    unfold hrG at hT1 hT2
    refine ⟨fun c => ?_, fun c => ?_⟩
    · intro _ _
      refine ⟨fun c2 => absurd rfl c2, fun _ => ?_⟩
      have na : ¬ M0 156 3 ≤ M 156 2 := by omega
      rw [if_neg na] at hp hT1 hT2
      have p1 : (prA (M0 157) (M0 156 3) (M 156 2)).1 = 1 := by
        rcases b.2 with q | q
        · rw [if_pos q] at hp
          exact absurd hp (by show ¬ (0 : Int) = 1; decide)
        · exact q.1
      rw [if_neg (by omega)] at hp
      refine gX11_doAct (r := r) hI S1 (by rw [e16]; exact L1) hw hC hW (by omega) (by rw [e157, e3]; exact p1) ?_
      intro M6 i6 k6 a6 c6 w6
      rw [e16] at k6
      rw [e157, e3] at a6 c6 w6 ⊢
      intro _
      have K6 := hK.tr k6
      have dd : 0 ≤ (prA (M0 157) (M0 156 3) (M 156 2)).2.2.2.1 ∧ (prA (M0 157) (M0 156 3) (M 156 2)).2.2.2.1 ≤ 9 := by
        obtain ⟨_, d1, d2⟩ := prA_ok p1
        have y1 := d1.2.1
        have y2 := d1.2.2
        rcases d2 with q | q
        · rw [q.2]
          show 0 ≤ M0 157 (M 156 2 + 1) - 48 ∧ M0 157 (M 156 2 + 1) - 48 ≤ 9
          omega
        · rw [q.2.2]
          show 0 ≤ M0 157 (M 156 2 + 1) - 48 ∧ M0 157 (M 156 2 + 1) - 48 ≤ 9
          omega
      have d37 := do_37 (r := r) (P := prA (M0 157) (M0 156 3) (M 156 2)) hS0.eb dd
      have h12 : (prA (M0 157) (M0 156 3) (M 156 2)).2.2.1 = 110 → 0 ≤ itF E (prA (M0 157) (M0 156 3) (M 156 2)).2.2.2.1.toNat r 12 := by
        intro s
        unfold doR at w6
        rw [if_pos s] at w6
        have := arF_b (itF E (prA (M0 157) (M0 156 3) (M 156 2)).2.2.2.1.toNat r) (eH E)
        have := w6.2.2.2.1
        omega
      have DONE : isDn (doA E r (prA (M0 157) (M0 156 3) (M 156 2))) → qX11_hour_J73 (qX11_hour_L32 X92 Q (n + 1)) X92 Q (-1) v2 v4 0 M6 := by
        intro dn
        rw [if_pos (show 0 ≤ doA E r (prA (M0 157) (M0 156 3) (M 156 2)) ∨ doA E r (prA (M0 157) (M0 156 3) (M 156 2)) = -4 from dn)] at hT1 hT2
        unfold qX11_hour_J73
        refine ⟨⟨by decide, by decide⟩, ⟨fun _ => ?_, fun c3 => absurd rfl c3⟩⟩
        refine ih (v2 + 1) (v4 + 1) M6 _ i6 K6 c6 w6 (by rw [a6]; exact hp) ?_ (by rw [a6]; exact hT2) (by omega) (by omega) (by omega) (by omega) (by omega)
        rw [a6, ← hT1]
        show v2 + 1 + _ = v2 + (_ + 1)
        omega
      have FAIL : ¬ isDn (doA E r (prA (M0 157) (M0 156 3) (M 156 2))) → qX11_hour_J73 (qX11_hour_L32 X92 Q (n + 1)) X92 Q (-1) v2 v4 1 M6 := by
        intro dn
        rw [if_neg (show ¬ (0 ≤ doA E r (prA (M0 157) (M0 156 3) (M 156 2)) ∨ doA E r (prA (M0 157) (M0 156 3) (M 156 2)) = -4) from dn)] at hT1 hT2
        have same : doR E r (prA (M0 157) (M0 156 3) (M 156 2)) = r := by
          by_cases s : (prA (M0 157) (M0 156 3) (M 156 2)).2.2.1 = 110
          · exact do_nd (h12 s) dn
          · unfold doA at dn
            unfold doR
            rw [if_neg s] at dn ⊢
            by_cases c2 : (prA (M0 157) (M0 156 3) (M 156 2)).2.2.1 = 116
            · rw [if_pos c2] at dn ⊢; exact tn_nd dn
            · rw [if_neg c2] at dn ⊢
              by_cases c3 : (prA (M0 157) (M0 156 3) (M 156 2)).2.2.1 = 112
              · rw [if_pos c3] at dn ⊢; exact ps_nd dn
              · rw [if_neg c3] at dn ⊢
                by_cases c4 : (prA (M0 157) (M0 156 3) (M 156 2)).2.2.1 = 98
                · rw [if_pos c4] at dn ⊢; exact ps_nd dn
                · rw [if_neg c4] at dn ⊢; exact sw_nd dn
        rw [same] at c6 w6
        unfold qX11_hour_J73
        refine ⟨⟨by decide, by decide⟩, ⟨fun c3 => absurd c3 (by decide), fun _ => ?_⟩⟩
        rw [qX11_hour_L32]
        have t1 : v2 + 0 = T.1 := hT1
        have t2 : ((1, r) : Int × (Int → Int)) = T.2 := hT2
        have H := hX M6 i6 K6
        rw [← t2, ← t1] at H
        have HH := H c6 w6
        refine ⟨⟨by omega, by omega⟩, ⟨fun _ => HH, fun _ => ⟨⟨by decide, by decide⟩, ⟨fun c3 => absurd rfl c3, fun _ => ⟨⟨by decide, by decide⟩, ⟨fun _ => HH, fun c3 => absurd c3 (by decide)⟩⟩⟩⟩⟩⟩
      unfold qX11_isDone
      refine ⟨fun d => ?_, fun d => ⟨fun d2 => ?_, fun d2 => ?_⟩⟩
      · intro _ _
        exact ⟨fun _ => DONE (Or.inl d), fun q => absurd q (by decide)⟩
      · intro _ _
        refine ⟨fun q => absurd rfl q, fun _ => FAIL (fun u => ?_)⟩
        rcases u with u | u
        · exact d u
        · exact d2 u
      · intro _ _
        exact ⟨fun _ => DONE (Or.inr d2), fun q => absurd q (by decide)⟩
    · intro _ _
      refine ⟨fun _ => ?_, fun c2 => absurd c2 (by decide)⟩
      rw [if_pos (show M0 156 3 ≤ M 156 2 by omega)] at hT1 hT2
      have t1 : v2 + 0 = T.1 := hT1
      have t2 : ((0, r) : Int × (Int → Int)) = T.2 := hT2
      have H := hX M hI hK
      rw [← t2, ← t1, Int.add_zero] at H
      exact H hC hW
