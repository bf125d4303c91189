/-! THE FIRST ORDER OF THE CLASS: THE CELLS THAT HOLD A HEARSE, ASCENDING -/
/-- how many hearses stand ahead of the cell v -/
def nB (r : Int → Int) : Nat → Int → Int
  | 0, _ => 0
  | n + 1, v => nB r n v + (if 0 ≤ r n ∧ r n < v then 1 else 0)
theorem nB_b (r : Int → Int) : ∀ (n : Nat) (v : Int), 0 ≤ nB r n v ∧ nB r n v ≤ n := by
  intro n
  induction n with
  | zero => intro v; exact ⟨Int.le_refl 0, Int.le_refl 0⟩
  | succ n ih =>
    intro v
    have := ih v
    unfold nB
    split <;> omega
theorem nB_0 (r : Int → Int) : ∀ n : Nat, nB r n 0 = 0 := by
  intro n
  induction n with
  | zero => rfl
  | succ n ih =>
    unfold nB
    rw [ih, if_neg (by omega)]
    rfl
theorem nB_no {r : Int → Int} {v : Int} : ∀ n : Nat, (∀ h : Int, 0 ≤ h → h < n → r h ≠ v) → nB r n (v + 1) = nB r n v := by
  intro n
  induction n with
  | zero => intro _; rfl
  | succ n ih =>
    intro hn
    have e := hn n (by omega) (by omega)
    unfold nB
    rw [ih (fun h p q => hn h p (by omega))]
    by_cases c : 0 ≤ r n ∧ r n < v
    · rw [if_pos c, if_pos (by omega)]
    · rw [if_neg c, if_neg (by omega)]
theorem nB_one {r : Int → Int} {v : Int} (hv : 0 ≤ v) : ∀ (n : Nat) (z : Int), DST r n → (0 ≤ z ∧ z < n) → r z = v → nB r n (v + 1) = nB r n v + 1 := by
  intro n
  induction n with
  | zero => intro z _ hz; omega
  | succ n ih =>
    intro z hd hz e
    unfold nB
    by_cases c : z = n
    · rw [nB_no n (fun h p q g => by have := hd h n p (by omega) (by omega) (by omega) (by rw [g, ← e, c]) (by omega); omega)]
      rw [← c, e, if_pos (by omega), if_neg (by omega)]
      omega
    · rw [ih z (fun i j a b p q => hd i j a (by omega) p (by omega)) (by omega) e]
      have : r n ≠ v := fun g => by have := hd z n (by omega) (by omega) (by omega) (by omega) (by rw [g, e]) (by omega); omega
      by_cases c2 : 0 ≤ r n ∧ r n < v
      · rw [if_pos c2, if_pos (by omega)]
      · rw [if_neg c2, if_neg (by omega)]; omega
theorem nB_full {r : Int → Int} {v : Int} : ∀ n : Nat, nB r n v = n → ∀ h : Int, 0 ≤ h → h < n → 0 ≤ r h ∧ r h < v := by
  intro n
  induction n with
  | zero => intro _ h p q; omega
  | succ n ih =>
    intro e h p q
    have b := nB_b r n v
    unfold nB at e
    split at e
    · rename_i c
      by_cases z : h = n
      · rw [z]; exact c
      · exact ih (by omega) h p (by omega)
    · omega
/-- c's first s places: the cells ahead of v that hold a hearse, ascending -/
def ORD (E : Mem) (r c : Int → Int) (s v : Int) : Prop := s = nB r (eH E) v ∧ (∀ a b, 0 ≤ a → a < b → b < s → c a < c b) ∧ (∀ a, 0 ≤ a → a < s → (0 ≤ c a ∧ c a < v) ∧ ∃ h, (0 ≤ h ∧ h < E 1 4) ∧ r h = c a) ∧ ∀ h, 0 ≤ h → h < E 1 4 → 0 ≤ r h → r h < v → ∃ a, (0 ≤ a ∧ a < s) ∧ c a = r h
theorem ORD.cg {E : Mem} {r c c' : Int → Int} {s v : Int} (h : ORD E r c s v) (g : ∀ a, 0 ≤ a → a < s → c' a = c a) : ORD E r c' s v := by
  obtain ⟨h1, h2, h3, h4⟩ := h
  refine ⟨h1, fun a b p q t => by rw [g a p (by omega), g b (by omega) t]; exact h2 a b p q t, fun a p q => by rw [g a p q]; exact h3 a p q, fun h p q t u => ?_⟩
  obtain ⟨a, pa, ea⟩ := h4 h p q t u
  exact ⟨a, pa, by rw [g a pa.1 pa.2]; exact ea⟩
theorem ORD.no {E : Mem} {r c : Int → Int} {s v : Int} (hE : EBx E) (h : ORD E r c s v) (hn : ∀ i, 0 ≤ i → i < E 1 4 → r i ≠ v) : ORD E r c s (v + 1) := by
  obtain ⟨h1, h2, h3, h4⟩ := h
  have ef := hE.f
  refine ⟨?_, h2, fun a p q => ⟨by have := (h3 a p q).1; omega, (h3 a p q).2⟩, fun i p q t u => h4 i p q t ?_⟩
  · rw [nB_no _ (fun i p q => hn i p (by omega))]; exact h1
  · have := hn i p q
    omega
theorem ORD.one {E : Mem} {r c : Int → Int} {s v z : Int} (hE : EBx E) (hd : DST r (E 1 4)) (hv : 0 ≤ v) (h : ORD E r c s v) (hz : (0 ≤ z ∧ z < E 1 4) ∧ r z = v) : ORD E r (up c s v) (s + 1) (v + 1) := by
  obtain ⟨h1, h2, h3, h4⟩ := h
  have ef := hE.f
  have b := nB_b r (eH E) v
  refine ⟨?_, fun a b p q t => ?_, fun a p q => ?_, fun i p q t u => ?_⟩
  · rw [nB_one hv (eH E) z (by rw [ef.1]; exact hd) (by omega) hz.2]; omega
  · rw [up_j (show a ≠ s by omega)]
    by_cases e : b = s
    · rw [e, upS]; exact (h3 a p (by omega)).1.2
    · rw [up_j e]; exact h2 a b p q (by omega)
  · by_cases e : a = s
    · rw [e, upS]; exact ⟨by omega, z, hz⟩
    · rw [up_j e]
      have := h3 a p (by omega)
      exact ⟨by omega, this.2⟩
  · by_cases e : r i = v
    · exact ⟨s, by omega, by rw [upS, e]⟩
    · obtain ⟨a, pa, ea⟩ := h4 i p q t (by omega)
      exact ⟨a, by omega, by rw [up_j (by omega)]; exact ea⟩
theorem gX3_begin {E M : Mem} {r : Int → Int} {Q : Mem → Prop} (hI : IX M) (hS : STR E M) (hC : SC E M 1 r) (hd : DST r (E 1 4)) (hr : ∀ h, 0 ≤ h → h < E 1 4 → r h < E 1 3)
    (hQ : ∀ M' : Mem, IX M' → (∀ k, k ≠ 179 → k ≠ 180 → M' k = M k) → (∀ j, j ≠ 2 → M' 179 j = M 179 j) → ORD E r (M' 180) (M' 179 2) (E 1 3) → Q M') : qX3_begin 1 M Q := by
  have hE := hS.eb
  have ef := hE.f
  have g := hE.2
  have g3 := hE.1
  unfold qX3_begin
  intro M1 e1
  have lp : ∀ (n : Nat) (v : Int) (M' : Mem), IX M' → E 1 3 - v < (n : Int) → (0 ≤ v ∧ v ≤ E 1 3) → (∀ k, k ≠ 179 → k ≠ 180 → M' k = M k) → (∀ j, j ≠ 2 → M' 179 j = M 179 j) → ORD E r (M' 180) (M' 179 2) v → qX3_begin_L7 1 Q n v M' := by
    intro n
    induction n with
    | zero => intro v M' hI' hm hv; exact absurd hm (by omega)
    | succ n ih =>
      intro v M' hI' hm hv hf hf2 hO
      rw [qX3_begin_L7]
      have bn := nB_b r (eH E) v
      have es := hO.1
      intro x2 e2 _
      have e2' : x2 = E 1 3 := by rw [e2, hf 158 (by decide) (by decide)]; exact hS.1
      refine ⟨⟨by omega, by omega⟩, fun c => ?_, fun c => ?_⟩
      · have : v = E 1 3 := by omega
        exact hQ M' hI' hf hf2 (by rw [← this]; exact hO)
      · intro x5 e5 _
        refine ⟨fun c5 => ?_, fun c5 => ?_⟩
        · have all := nB_full (r := r) (v := v) (eH E) (by omega)
          refine hQ M' hI' hf hf2 ⟨?_, hO.2.1, fun a p q => ⟨by have := (hO.2.2.1 a p q).1; omega, (hO.2.2.1 a p q).2⟩, fun i p q t u => hO.2.2.2 i p q t (all i p (by omega)).2⟩
          have : ∀ n : Nat, (n : Int) ≤ E 1 4 → nB r n (E 1 3) = nB r n v := by
            intro n
            induction n with
            | zero => intro _; rfl
            | succ n ih2 =>
              intro hn
              have := all n (by omega) (by omega)
              unfold nB
              rw [ih2 (by omega), if_pos this, if_pos (by omega)]
          rw [es, this _ (by omega)]
        · have hC' : SC E M' 1 r := by
            obtain ⟨p1, p2, p3, p4, p5, p6, p7, p8, p9, p10, p11⟩ := hC
            have f : ∀ k, k < 179 → M' k = M k := fun k hk => hf k (by omega) (by omega)
            exact ⟨by rw [f 1 (by decide)]; exact p1, by rw [f 1 (by decide)]; exact p2, by rw [f 2 (by decide)]; exact p3, by rw [f 3 (by decide)]; exact p4, by rw [f 1 (by decide)]; exact p5, by rw [f 4 (by decide)]; exact p6, by rw [f 5 (by decide)]; exact p7, by rw [f 6 (by decide)]; exact p8, by rw [f 7 (by decide)]; exact p9, by rw [f 1 (by decide)]; exact p10, by rw [f 1 (by decide)]; exact p11⟩
          refine gX6_hearseOn hC' g.1 (fun z hz _ => ⟨fun c7 => ?_, fun c7 => ?_⟩)
          · refine ih (v + 1) M' hI' (by omega) (by omega) hf hf2 (hO.no hE (fun i p q => ?_))
            rcases hz with ⟨_, o⟩ | ⟨o, _⟩
            · exact onF_n o i p (by omega)
            · omega
          · rcases hz with ⟨o, _⟩ | ⟨o, oe, _⟩
            · exact absurd o c7
            · intro x9 e9 _
              refine ⟨by omega, by omega, fun M12 e12 x13 e13 _ => ?_⟩
              have e13' : x13 = M' 179 2 := by rw [e13, e12, up2_n (by decide)]
              refine ⟨⟨by omega, by omega⟩, fun M15 e15 => ?_⟩
              have i12 : IX M12 := by rw [e12]; exact hI'.up (by decide) ((bx_c180).mpr ⟨by omega, by omega⟩)
              have i15 : IX M15 := by rw [e15]; exact i12.up (by decide) ((bx_c179_2).mpr ⟨by omega, by omega⟩)
              refine ih (v + 1) M15 i15 (by omega) (by omega) (fun k p q => by rw [e15, up2_n p, e12, up2_n q]; exact hf k p q) (fun j hj => by rw [e15, up2_j hj, e12, up2_n (by decide)]; exact hf2 j hj) ?_
              have a1 : M15 179 2 = M' 179 2 + 1 := by rw [e15, up2_s, e13']
              have a2 : M15 180 = up (M' 180) (M' 179 2) v := by
                rw [e15, up2_n (by decide), e12, e9]
                unfold up2
                simp
              rw [a1, a2]
              exact hO.one hE hd (by omega) ⟨o, oe⟩
  refine ⟨40, lp 40 0 M1 (by rw [e1]; exact hI.up (by decide) ((bx_c179_2).mpr ⟨by omega, by omega⟩)) (by omega) (by omega) (fun k p q => by rw [e1, up2_n p]) (fun j hj => by rw [e1, up2_j hj]) ?_⟩
  have a1 : M1 179 2 = 0 := by rw [e1, up2_s]
  rw [a1]
  exact ⟨(nB_0 r _).symm, fun a b p q t => by omega, fun a p q => by omega, fun i p q t u => by omega⟩
