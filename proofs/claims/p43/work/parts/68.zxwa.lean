/-! THE CLASS'S LOOP OVER ALL ORDERS -/
theorem gX11_order_L21 {E : Mem} {r c0 : Int → Int} {s : Int} {X111 : Int → Mem → Prop} {Q : Int → Mem → Prop} {l : Nat} (hE : EBx E) (hW : WR E r) (hf : fol E r) (h37 : r 37 ≤ 1999999000) (hs : s = unF r (eH E))
    (hp : ∀ a, 0 ≤ a → a < s → 0 ≤ c0 a ∧ c0 a < eG E)
    (hX : ∀ (z : Int) (M' : Mem), TB E M' l → BST E r c0 z → M' 179 2 = s → X111 z M') :
    ∀ (n : Nat) (v1 v2 v3 : Int) (M : Mem), TB E M l → SC E M 1 r → M 179 2 = s → ORI E r c0 (M 180) s v1 v2 v3 → 720 - v3 < (n : Int) → qX11_order_L21 X111 Q n v1 v2 v3 M := by
  have ef := hE.f
  have g := hE.2
  have ub := unF_b r (eH E)
  have sn : ((s.toNat : Nat) : Int) = s := by omega
  intro n
  induction n with
  | zero =>
    intro v1 v2 v3 M h hC h2 hO hm
    have := hO.2.2.2.1
    omega
  | succ n ih =>
    intro v1 v2 v3 M h hC h2 hO hm
    obtain ⟨o1, o2, o3, o4, o5, o6⟩ := hO
    have fin0 : v2 = 0 → X111 v1 M := fun z => by
      rcases o6 with ⟨_, a⟩ | ⟨a, _⟩
      · rcases o5 with b | b
        · omega
        · rw [hs] at a b
          exact hX v1 M h ⟨a, b⟩ h2
      · omega
    rw [qX11_order_L21]
    refine ⟨⟨by omega, by omega⟩, fun c => ?_, fun c => ?_⟩
    · refine fin0 ?_
      rcases o6 with ⟨a, _⟩ | ⟨_, a, _⟩
      · exact a
      · have b := rk_b (c := M 180) (n := s.toNat) s.toNat (Nat.le_refl _)
        have d := fac6 (n := s.toNat) (by omega)
        omega
    · refine ⟨⟨by omega, by omega⟩, fun c2 => fin0 c2, fun c2 => ?_⟩
      intro x6 e6 _
      have e6' : x6 = E 1 5 := by rw [e6]; exact hC.2.1
      refine ⟨⟨by omega, by omega⟩, fun c6 => ?_, fun c6 => ?_⟩
      · refine hX v1 M h ⟨fun q _ _ => by have := (VO_b (E := E) (r := r) (q := q) hE).2; omega, ?_⟩ h2
        rcases o5 with b | b
        · omega
        · rw [hs] at b
          exact b
      · rcases o6 with ⟨a, _⟩ | ⟨_, orr, oq⟩
        · exact absurd a c2
        · have cb : ∀ a, 0 ≤ a → a < unF r (eH E) → 0 ≤ M 180 a ∧ M 180 a < eG E := fun a p q => by
            obtain ⟨m, m0, m1, em⟩ := o2.1 a p (by omega)
            rw [em]
            exact hp m m0 m1
          refine trC h hC h.1 (fun _ _ _ => rfl) (fun M9 i9 k9 c9 => ?_)
          have hl := h.2.2.1
          have e180 : M9 180 = M 180 := funext fun j => k9 180 j (by omega)
          refine gX6_placeHearses i9 hE (by decide) (by decide) hW c9 (fun M10 i10 k10 c10 => ?_)
          rw [e180] at c10
          have K10 : Ks (kTr l) M M10 := fun k j hk => by rw [k10 k (by omega)]; exact k9 k j hk
          have W := plR_W hE hW (by rw [← hs]; exact o1) cb
          have F := fol_pl hE hW hf (fun a p q => (cb a p q).1)
          have tr := trR h i10 K10 c10 W F (by rw [plR_o _ 37 (by omega)]; exact h37) (Q := fun x12 M12 => iR x12 → qJ6_bitCount_0f7a4 x12 M12 (fun (x13 : Int) (M13 : Mem) => iR x13 → (((x13 ≤ v1) → (qX11_order_J97 (qX11_order_L21 X111 Q n) X111 Q v1 v3 M13)) ∧ ((¬ (x13 ≤ v1)) → (qX3_markBest M13 (fun (M16 : Mem) => (qX11_order_J97 (qX11_order_L21 X111 Q n) X111 Q x13 v3 M16))))))) ?_
          · exact ⟨tr.1, tr.2⟩
          · intro M12 T i12 k12 _ _ _ _
            refine gJ6_bitCount (fun _ => ?_)
            have vo : bcF (rgE E (plR r (M 180) (eH E))) = VO E r (M 180) := rfl
            rw [vo]
            have vb := VO_b (E := E) (r := r) (q := M 180) hE
            have h12 := h.tr i12 k12
            have C12 : SC E M12 1 r := hC.fr (fun i j hi => k12 _ j (by omega))
            have s12 : M12 179 2 = s := by rw [k12 179 2 (by omega)]; exact h2
            have e12 : M12 180 = M 180 := funext fun j => k12 180 j (by omega)
            have cg : ∀ q, (∀ k, 0 ≤ k → k < s → q k = M 180 k) → VO E r q = VO E r (M 180) := fun q hq => VO_cg (fun a p t => hq a p (by omega))
            have back : ∀ (w : Int) (v2 : Int) (M' : Mem), TB E M' l → SC E M' 1 r → M' 179 2 = s → ORI E r c0 (M' 180) s w v2 (v3 + 1) → qX11_order_L21 X111 Q n w v2 (v3 + 1) M' := fun w v2 M' a b d e => ih w v2 (v3 + 1) M' a b d e (by omega)
            refine ⟨fun c13 => ?_, fun c13 => ?_⟩
            · refine gX11_order_J97 (c0 := c0) hE h12 C12 ⟨s12, hs⟩ (fun a p q => (hp a p q).1) (by rw [e12]; exact o1) (by rw [e12]; exact o2) (by omega) (by omega) (by rcases o5 with b | b; (exact absurd b.1 (by omega)); (exact b)) (by rw [e12]; exact orr) (fun q q1 q2 => ?_) (back v1)
              rw [e12]
              rcases oq q q1 q2 with a | a | a
              · exact Or.inr (by rw [cg q a]; omega)
              · exact Or.inl a
              · exact Or.inr a
            · intro M16 e16
              have lo : ∀ k, k < 179 ∨ 182 ≤ k → M16 k = M12 k := fun k hk => by rw [e16]; exact if_neg (by omega)
              have f180 : M16 180 = M12 180 := by rw [e16]; exact if_neg (by decide)
              have f179 : M16 179 = M12 179 := by rw [e16]; exact if_neg (by decide)
              have i16 : IX M16 := by rw [e16]; exact i12.cp180_181
              refine gX11_order_J97 (c0 := c0) hE (h12.fr i16 lo) (C12.low lo) ⟨by rw [f179]; exact s12, hs⟩ (fun a p q => (hp a p q).1) (by rw [f180, e12]; exact o1) (by rw [f180, e12]; exact o2) (by omega) (by omega) ⟨M 180, o1, o2.1, rfl⟩ (by rw [f180, e12]; exact orr) (fun q q1 q2 => ?_) (back _)
              rw [f180, e12]
              rcases oq q q1 q2 with a | a | a
              · exact Or.inr (by rw [cg q a]; omega)
              · exact Or.inl a
              · exact Or.inr (by omega)
