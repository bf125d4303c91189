/-! QUIET STEPS: none goes, none turns -/
def quS (E : Mem) (r : Int → Int) : Prop := (∀ h, h ∈ lnL r (eH E) (eG E).toNat → mhF E r h = r) ∧ ∀ m, 0 ≤ m → m < E 1 5 → r (29 + m) < 0 → mmF E r m = r
/-- a hearse whose cell stays has stayed -/
theorem mhF_fx {E : Mem} {r : Int → Int} {h : Int} (hh : 0 ≤ h ∧ h < 6) (hr : 0 ≤ r h) (e : mhF E r h h = r h) : goF E r h (paF E r h) = r h ∧ mhF E r h = r := by
  unfold mhF at e ⊢
  by_cases c : goF E r h (paF E r h) = r h
  · rw [if_pos c]
    exact ⟨c, rfl⟩
  · rw [if_neg c] at e
    by_cases c2 : goF E r h (paF E r h) = eG E
    · rw [if_pos c2, upS] at e
      omega
    · rw [if_neg c2, upS] at e
      exact absurd e c
theorem hsF_c {E : Mem} {h : Int} (hh : 0 ≤ h ∧ h < 6) : ∀ (l : List Int) (r : Int → Int), (∀ x, x ∈ l → 0 ≤ x ∧ x ≤ 5 ∧ x ≠ h) → hsF E l r h = r h := by
  intro l
  induction l with
  | nil => intro r _; rfl
  | cons a t ih =>
    intro r hl
    have ha := hl a List.mem_cons_self
    show hsF E t (mhF E r a) h = r h
    rw [ih (mhF E r a) (fun x hx => hl x (List.mem_cons_of_mem _ hx)), mhF_oo ha.1 (by omega) (fun q => ha.2.2 q.symm)]
theorem hsF_j {E : Mem} {j : Int} (hj : 13 ≤ j) : ∀ (l : List Int) (r : Int → Int), (∀ x, x ∈ l → 0 ≤ x ∧ x ≤ 5) → hsF E l r j = r j := by
  intro l
  induction l with
  | nil => intro r _; rfl
  | cons a t ih =>
    intro r hl
    have ha := hl a List.mem_cons_self
    show hsF E t (mhF E r a) j = r j
    rw [ih (mhF E r a) (fun x hx => hl x (List.mem_cons_of_mem _ hx)), mhF_o (by omega) (by omega) (by omega)]
theorem hsF_fx {E : Mem} : ∀ (l : List Int) (r : Int → Int), VL (eG E) r l → (∀ x, x ∈ l → hsF E l r x = r x) → ∀ x, x ∈ l → mhF E r x = r := by
  intro l
  induction l with
  | nil => intro r _ _ x hx; cases hx
  | cons a t ih =>
    intro r hV he
    obtain ⟨v1, v2, v3⟩ := hV
    have hi := v3.i
    have ea : mhF E r a a = r a := by
      have := he a List.mem_cons_self
      have q : hsF E t (mhF E r a) a = r a := this
      rw [hsF_c ⟨v1.1, by omega⟩ t (mhF E r a) (fun x hx => ⟨(hi x hx).1, (hi x hx).2, v2 x hx⟩)] at q
      exact q
    have fa := (mhF_fx ⟨v1.1, by omega⟩ v1.2.2.1 ea).2
    intro x hx
    rcases List.mem_cons.mp hx with q | q
    · rw [q]; exact fa
    · refine ih r v3 (fun y hy => ?_) x q
      have := he y (List.mem_cons_of_mem _ hy)
      have w : hsF E t (mhF E r a) y = r y := this
      rw [fa] at w
      exact w
theorem mmF_fx {E : Mem} {r : Int → Int} {m : Int} (he : r (29 + m) < 0) (e1 : mmF E r m (13 + m) = r (13 + m)) (e2 : mmF E r m (21 + m) = r (21 + m)) (e3 : mmF E r m (29 + m) = r (29 + m)) : ¬ (0 ≤ r (21 + m) ∧ r (r (21 + m)) < 0) ∧ ¬ chF E r m ∧ (r (21 + m) < 0 ∨ goM r m (r (21 + m)) = r (13 + m)) := by
  unfold mmF at e1 e2 e3
  by_cases c1 : 0 ≤ r (21 + m) ∧ r (r (21 + m)) < 0
  · rw [if_pos c1, upS] at e3
    omega
  · rw [if_neg c1] at e1 e2 e3
    by_cases c2 : chF E r m
    · rw [if_pos c2, up_j (by omega), upS] at e2
      have c2' : 0 ≤ nearF r (r (13 + m)) (eH E) ∧ (r (21 + m) < 0 ∨ ab (r (nearF r (r (13 + m)) (eH E)) - r (13 + m)) < ab (r (r (21 + m)) - r (13 + m))) := c2
      rcases c2'.2 with q | q
      · omega
      · rw [e2] at q
        omega
    · rw [if_neg c2] at e1
      by_cases c3 : r (21 + m) < 0
      · exact ⟨c1, c2, Or.inl c3⟩
      · rw [if_neg c3, upS] at e1
        exact ⟨c1, c2, Or.inr e1⟩
theorem mmF_st {E : Mem} {r : Int → Int} {m : Int} (h : ¬ (0 ≤ r (21 + m) ∧ r (r (21 + m)) < 0) ∧ ¬ chF E r m ∧ (r (21 + m) < 0 ∨ goM r m (r (21 + m)) = r (13 + m))) : mmF E r m = r := by
  unfold mmF
  rw [if_neg h.1, if_neg h.2.1]
  by_cases c : r (21 + m) < 0
  · rw [if_pos c]
  · rw [if_neg c]
    rcases h.2.2 with q | q
    · exact absurd q c
    · rw [q, up_id]
theorem msF_k {E : Mem} {r : Int → Int} {m : Int} : ∀ n : Nat, m < n → (msF E n r (13 + m) = msF E (m + 1).toNat r (13 + m) ∧ msF E n r (21 + m) = msF E (m + 1).toNat r (21 + m) ∧ msF E n r (29 + m) = msF E (m + 1).toNat r (29 + m)) ∨ m < 0 ∨ 8 < n := by
  intro n
  induction n with
  | zero => intro h; exact Or.inr (Or.inl (by omega))
  | succ n ih =>
    intro h
    by_cases h0 : m < 0
    · exact Or.inr (Or.inl h0)
    by_cases h8 : 8 < n + 1
    · exact Or.inr (Or.inr h8)
    by_cases c : m = n
    · rw [c, show ((n : Int) + 1).toNat = n + 1 from by omega]
      exact Or.inl ⟨rfl, rfl, rfl⟩
    · rcases ih (by omega) with q | q | q
      · refine Or.inl ?_
        have same : ∀ j, j ≠ 13 + (n : Int) ∧ j ≠ 21 + (n : Int) ∧ j ≠ 29 + (n : Int) → msF E (n + 1) r j = msF E n r j := by
          intro j hj
          show (if 0 ≤ msF E n r (29 + n) then msF E n r else mmF E (msF E n r) n) j = _
          split
          · rfl
          · exact mmF_o hj
        rw [same _ (by omega), same _ (by omega), same _ (by omega)]
        exact q
      · exact absurd q h0
      · omega
theorem msF_fx {E : Mem} {r : Int → Int} {N : Nat} (hN : N ≤ 8) (hf : ∀ j, 13 ≤ j → j < 37 → msF E N r j = r j) : ∀ n : Nat, n ≤ N → msF E n r = r ∧ ∀ m : Int, 0 ≤ m → m < n → r (29 + m) < 0 → mmF E r m = r := by
  intro n
  induction n with
  | zero => intro _; exact ⟨rfl, fun m p q => by omega⟩
  | succ n ih =>
    intro h
    obtain ⟨i1, i2⟩ := ih (by omega)
    have e : msF E (n + 1) r = if 0 ≤ r (29 + n) then r else mmF E r n := by
      show (if 0 ≤ msF E n r (29 + n) then msF E n r else mmF E (msF E n r) n) = _
      rw [i1]
    by_cases c : 0 ≤ r (29 + n)
    · rw [if_pos c] at e
      refine ⟨e, fun m p q w => ?_⟩
      by_cases cm : m = n
      · rw [cm] at w
        omega
      · exact i2 m p (by omega) w
    · rw [if_neg c] at e
      have k := msF_k (E := E) (r := r) (m := (n : Int)) N (by omega)
      have k' : msF E N r (13 + n) = mmF E r n (13 + n) ∧ msF E N r (21 + n) = mmF E r n (21 + n) ∧ msF E N r (29 + n) = mmF E r n (29 + n) := by
        rcases k with q | q | q
        · rw [show ((n : Int) + 1).toNat = n + 1 from by omega, e] at q
          exact q
        · omega
        · omega
      have f := mmF_st (mmF_fx (E := E) (r := r) (m := (n : Int)) (by omega) (by rw [← k'.1]; exact hf _ (by omega) (by omega)) (by rw [← k'.2.1]; exact hf _ (by omega) (by omega)) (by rw [← k'.2.2]; exact hf _ (by omega) (by omega)))
      rw [f] at e
      refine ⟨e, fun m p q w => ?_⟩
      by_cases cm : m = n
      · rw [cm]; exact f
      · exact i2 m p (by omega) w
/-- a step that leaves all but its number was quiet -/
theorem qu_of {E : Mem} {r : Int → Int} (hE : EBx E) (h : stF E r = up r 37 (r 37 + 1)) : quS E r := by
  have f := hE.f
  have g := hE.2
  have hV : VL (eG E) r (lnL r (eH E) (eG E).toNat) := lnL_VL (by omega) _ (by have := hE.1; omega)
  have hi := hV.i
  have e : ∀ j, j ≠ 37 → msF E (eO E) (hsF E (lnL r (eH E) (eG E).toNat) r) j = r j := by
    intro j hj
    have := congrFun h j
    unfold stF at this
    rw [up_j hj, up_j hj] at this
    exact this
  have m13 : ∀ (n : Nat), n ≤ 8 → ∀ (r : Int → Int) (j : Int), j < 13 → msF E n r j = r j := by
    intro n
    induction n with
    | zero => intro _ r j _; rfl
    | succ n ih =>
      intro hn r j hj
      show (if 0 ≤ msF E n r (29 + n) then msF E n r else mmF E (msF E n r) n) j = _
      split
      · exact ih (by omega) r j hj
      · rw [mmF_o (by omega)]
        exact ih (by omega) r j hj
  have q1 : ∀ x, x ∈ lnL r (eH E) (eG E).toNat → mhF E r x = r := by
    refine hsF_fx _ r hV (fun x hx => ?_)
    have b := hi x hx
    have := e x (by omega)
    rw [m13 (eO E) (by omega) _ x (by omega)] at this
    exact this
  have hs := hsF_id q1
  refine ⟨q1, ?_⟩
  rw [hs] at e
  have mf := (msF_fx (E := E) (r := r) (N := eO E) (by omega) (fun j p q => e j (by omega)) (eO E) (Nat.le_refl _)).2
  intro m p q w
  exact mf m p (by omega) w
theorem st_qu {E : Mem} {r : Int → Int} (hE : EBx E) (h : quS E r) : stF E r = up r 37 (r 37 + 1) := by
  have f := hE.f
  have hs := hsF_id h.1
  have ms : ∀ n : Nat, (n : Int) ≤ E 1 5 → msF E n r = r := by
    intro n
    induction n with
    | zero => intro _; rfl
    | succ n ih =>
      intro hn
      show (if 0 ≤ msF E n r (29 + n) then msF E n r else mmF E (msF E n r) n) = r
      rw [ih (by omega)]
      split
      · rfl
      · exact h.2 n (by omega) (by omega) (by omega)
  unfold stF
  rw [hs, ms (eO E) (by have := hE.2; omega)]
/-- the letter l stands in the rule -/
def usL (E : Mem) (l : Int) : Prop := ∃ i, 0 ≤ i ∧ i < E 1 24 ∧ E 11 i = 1000 + l
theorem evS_cu {f e e' : Int → Int} {m : Int} (he : ∀ i, 0 ≤ i → i < m → 1000 ≤ f i → f i < 2000 → e (f i - 1000) = e' (f i - 1000)) : ∀ k : Nat, (k : Int) ≤ m → evS f e k = evS f e' k := by
  intro k
  induction k with
  | zero => intro _; rfl
  | succ k ih =>
    intro hk
    unfold evS
    rw [ih (by omega)]
    by_cases c1 : f k = 3000
    · rw [if_pos c1, if_pos c1]
    · rw [if_neg c1, if_neg c1]
      by_cases c2 : 2000 ≤ f k
      · rw [if_pos c2, if_pos c2]
      · rw [if_neg c2, if_neg c2]
        by_cases c3 : 1000 ≤ f k
        · rw [if_pos c3, if_pos c3, he k (by omega) (by omega) c3 (by omega)]
        · rw [if_neg c3, if_neg c3]
theorem ruF_cu {E : Mem} {e e' : Int → Int} (h0 : 0 ≤ E 1 24) (hw : WFC (E 11) (E 1 24)) (h1 : e 1 = e' 1) (he : ∀ l, 0 ≤ l → l < 7 → usL E l → e l = e' l) : ruF E e = ruF E e' := by
  unfold ruF
  by_cases c : E 1 24 = 0
  · rw [if_pos c, if_pos c, h1]
  · rw [if_neg c, if_neg c, evS_cu (f := E 11) (e := e) (e' := e') (m := E 1 24) (fun i p q a b => he _ (by omega) (by
      have w := (hw i.toNat (by omega)).2.2
      rw [show ((i.toNat : Nat) : Int) = i from by omega] at w
      have := w a b
      omega) ⟨i, p, q, by omega⟩) _ (by omega)]
theorem nearF_cg {c d : Int → Int} {v : Int} : ∀ n : Nat, (∀ i : Int, 0 ≤ i → i < n → c i = d i) → nearF c v n = nearF d v n := by
  intro n
  induction n with
  | zero => intro _; rfl
  | succ n ih =>
    intro h
    have e := ih (fun i p q => h i p (by omega))
    have b := nearF_b d v n
    unfold nearF
    rw [e, h n (by omega) (by omega)]
    by_cases cn : nearF d v n < 0
    · simp only [cn, true_or, and_true]
    · rw [h (nearF d v n) (by omega) (by omega)]
theorem frF_cg {c d : Int → Int} {H : Nat} {g v : Int} (h : ∀ w, onF c H w = onF d H w) : ∀ (n : Nat) (m : Int), frF c H g v n m = frF d H g v n m := by
  intro n
  induction n with
  | zero => intro m; rfl
  | succ n ih =>
    intro m
    unfold frF
    rw [h, ih]
/-- of the step's number only what the rule speaks of counts -/
theorem qu_37 {E : Mem} {r : Int → Int} {s : Int} (hE : EBx E) (h24 : 0 ≤ E 1 24) (hw : WFC (E 11) (E 1 24)) (h : quS E r) (hW : WR E r) (h3 : usL E 3 → E 4 (rmI s (E 1 7)) = E 4 (rmI (r 37) (E 1 7))) (h4 : usL E 4 → rmI s 10 = rmI (r 37) 10) : quS E (up r 37 s) := by
  have f := hE.f
  have g := hE.2
  have lo : ∀ j, j < 37 → up r 37 s j = r j := fun j hj => up_j (by omega)
  have on : ∀ v, onF (up r 37 s) (eH E) v = onF r (eH E) v := fun v => onF_cg (fun i p q => by rw [lo i (by omega)])
  have hl : lnL (up r 37 s) (eH E) (eG E).toNat = lnL r (eH E) (eG E).toNat := lnL_cg _ (fun v _ _ => on v)
  refine ⟨fun x hx => ?_, fun m p q w => ?_⟩
  · rw [hl] at hx
    have b := lnL_m hx
    have q1 := h.1 x hx
    have x6 : x < 6 := by omega
    have fx := (mhF_fx (E := E) (r := r) (h := x) ⟨b.1, x6⟩ b.2.2.1 (by rw [q1])).1
    have okE : okF E (up r 37 s) (up r 37 s x) = okF E r (r x) := by
      funext z
      unfold okF
      rw [lo x (by omega)]
      simp only [on]
    have pa : paF E (up r 37 s) x = paF E r x := by
      unfold paF
      have e : ∀ l, 0 ≤ l → l < 7 → l ≠ 3 → l ≠ 4 → envF E (up r 37 s) x l = envF E r x l := by
        intro l l0 l7 l3 l4
        unfold envF
        rw [lo x (by omega)]
        by_cases d0 : l = 0
        · rw [if_pos d0, if_pos d0]
        · rw [if_neg d0, if_neg d0]
          by_cases d1 : l = 1
          · rw [if_pos d1, if_pos d1]
            exact frF_cg on _ _
          · rw [if_neg d1, if_neg d1]
            by_cases d2 : l = 2
            · rw [if_pos d2, if_pos d2]
            · rw [if_neg d2, if_neg d2, if_neg l3, if_neg l3, if_neg l4, if_neg l4]
              by_cases d5 : l = 5
              · rw [if_pos d5, if_pos d5]
              · rw [if_neg d5, if_neg d5, bitF_cg (f := fun m => up r 37 s (21 + m)) (g := fun m => r (21 + m)) (fun i p q => lo _ (by omega))]
      rw [ruF_cu (E := E) (e := envF E (up r 37 s) x) (e' := envF E r x) h24 hw (e 1 (by decide) (by decide) (by decide) (by decide)) (fun l l0 l7 u => ?_)]
      by_cases l3 : l = 3
      · rw [l3] at u ⊢
        show E 4 (rmI (up r 37 s 37) (E 1 7)) = E 4 (rmI (r 37) (E 1 7))
        rw [upS]
        exact h3 u
      · by_cases l4 : l = 4
        · rw [l4] at u ⊢
          show rmI (up r 37 s 37) 10 = rmI (r 37) 10
          rw [upS]
          exact h4 u
        · exact e l l0 l7 l3 l4
    have go : goF E (up r 37 s) x (paF E (up r 37 s) x) = up r 37 s x := by
      have : goF E (up r 37 s) x (paF E (up r 37 s) x) = goF E r x (paF E r x) := by
        unfold goF
        rw [okE, pa, lo x (by omega)]
      rw [this, fx, lo x (by omega)]
    unfold mhF
    rw [if_pos go]
  · rw [lo _ (by omega)] at w
    have q2 := h.2 m p q w
    have fx := mmF_fx (E := E) (r := r) (m := m) w (by rw [q2]) (by rw [q2]) (by rw [q2])
    have wr := hW.2.2.1 m p q
    have nr : nearF (up r 37 s) (r (13 + m)) (eH E) = nearF r (r (13 + m)) (eH E) := nearF_cg _ (fun i a b => lo i (by omega))
    have nb := nearF_b r (r (13 + m)) (eH E)
    refine mmF_st ⟨?_, ?_, ?_⟩
    · rw [lo _ (by omega), lo (r (21 + m)) (by omega)]
      exact fx.1
    · intro hc
      refine fx.2.1 ?_
      have hc' : 0 ≤ nearF (up r 37 s) (up r 37 s (13 + m)) (eH E) ∧ (up r 37 s (21 + m) < 0 ∨ ab (up r 37 s (nearF (up r 37 s) (up r 37 s (13 + m)) (eH E)) - up r 37 s (13 + m)) < ab (up r 37 s (up r 37 s (21 + m)) - up r 37 s (13 + m))) := hc
      rw [lo (13 + m) (by omega), nr, lo (21 + m) (by omega), lo (nearF r (r (13 + m)) (eH E)) (by omega), lo (r (21 + m)) (by omega)] at hc'
      exact hc'
    · rw [lo (21 + m) (by omega), lo (13 + m) (by omega)]
      unfold goM
      rw [lo (r (21 + m)) (by omega), lo (13 + m) (by omega)]
      exact fx.2.2
