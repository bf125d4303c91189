/-! A HEARSE TAKEN AWAY: rows that are alike as far as steps see -/
def SIM (E : Mem) (r s : Int → Int) : Prop := (∀ j : Int, 0 ≤ j → j < 6 → s j = r j) ∧ s 37 = r 37 ∧ ∀ m : Int, 0 ≤ m → m < E 1 5 → s (13 + m) = r (13 + m) ∧ s (29 + m) = r (29 + m) ∧ (r (29 + m) < 0 → s (21 + m) = r (21 + m)) ∧ ∀ x : Int, 0 ≤ x → x < E 1 4 → 0 ≤ r x → (r (21 + m) = x ↔ s (21 + m) = x)
theorem SIM.rf (E : Mem) (r : Int → Int) : SIM E r r := ⟨fun _ _ _ => rfl, rfl, fun _ _ _ => ⟨rfl, rfl, fun _ => rfl, fun _ _ _ _ => Iff.rfl⟩⟩
theorem SIM.on {E : Mem} {r s : Int → Int} (h : SIM E r s) (hE : EBx E) (v : Int) : onF s (eH E) v = onF r (eH E) v := by
  have f := hE.f
  have g := hE.2
  exact onF_cg (fun i p q => by rw [h.1 i p (by omega)])
theorem bitF_ci {f g : Int → Int} {x : Int} : ∀ n : Nat, (∀ i : Int, 0 ≤ i → i < n → (f i = x ↔ g i = x)) → bitF f x n = bitF g x n := by
  intro n
  induction n with
  | zero => intro _; rfl
  | succ n ih =>
    intro h
    have e := h n (by omega) (by omega)
    unfold bitF
    rw [ih (fun i a q => h i a (by omega))]
    by_cases c : f n = x
    · rw [if_pos c, if_pos (e.mp c)]
    · rw [if_neg c, if_neg (fun q => c (e.mpr q))]
theorem SIM.mh {E : Mem} {r s : Int → Int} {x : Int} (h : SIM E r s) (hE : EBx E) (hx : 0 ≤ x ∧ x < E 1 4) (hr : 0 ≤ r x) : SIM E (mhF E r x) (mhF E s x) := by
  have f := hE.f
  have g := hE.2
  have sx : s x = r x := h.1 x hx.1 (by omega)
  have on := h.on hE
  have pa : paF E s x = paF E r x := by
    have e : envF E s x = envF E r x := by
      funext l
      unfold envF
      rw [sx, h.2.1]
      rw [frF_cg (c := s) (d := r) on, bitF_ci (f := fun m => s (21 + m)) (g := fun m => r (21 + m)) (x := x) (eO E) (fun i p q => ((h.2.2 i p (by omega)).2.2.2 x hx.1 hx.2 hr).symm)]
    unfold paF
    rw [e]
  have go : goF E s x (paF E s x) = goF E r x (paF E r x) := by
    have e : okF E s (s x) = okF E r (r x) := by
      funext z
      unfold okF
      rw [sx]
      simp only [on]
    unfold goF
    rw [e, pa, sx]
  -- what changes: the hearse's own numbers alone
  have key : ∀ (a b : Int → Int), (∀ j, j ≠ x → j ≠ 6 + x → j ≠ 12 → a j = r j) → (∀ j, j ≠ x → j ≠ 6 + x → j ≠ 12 → b j = s j) → b x = a x → SIM E a b := by
    intro a b ha hb hab
    refine ⟨fun j p q => ?_, ?_, fun m p q => ?_⟩
    · by_cases c : j = x
      · rw [c]; exact hab
      · rw [ha j c (by omega) (by omega), hb j c (by omega) (by omega)]
        exact h.1 j p q
    · rw [ha 37 (by omega) (by omega) (by omega), hb 37 (by omega) (by omega) (by omega)]
      exact h.2.1
    · obtain ⟨h1, h2, h3, h4⟩ := h.2.2 m p q
      rw [ha (13 + m) (by omega) (by omega) (by omega), hb (13 + m) (by omega) (by omega) (by omega), ha (29 + m) (by omega) (by omega) (by omega), hb (29 + m) (by omega) (by omega) (by omega), ha (21 + m) (by omega) (by omega) (by omega), hb (21 + m) (by omega) (by omega) (by omega)]
      refine ⟨h1, h2, h3, fun y y0 y1 yr => ?_⟩
      by_cases c : y = x
      · rw [c]; exact h4 x hx.1 hx.2 hr
      · rw [ha y c (by omega) (by omega)] at yr
        exact h4 y y0 y1 yr
  unfold mhF
  rw [go, sx]
  by_cases c1 : goF E r x (paF E r x) = r x
  · rw [if_pos c1, if_pos c1]
    exact h
  · rw [if_neg c1, if_neg c1]
    by_cases c2 : goF E r x (paF E r x) = eG E
    · rw [if_pos c2, if_pos c2]
      refine key _ _ (fun j a b c => by rw [up_j a, up_j b, up_j c]) (fun j a b c => by rw [up_j a, up_j b, up_j c]) (by rw [upS, upS])
    · rw [if_neg c2, if_neg c2]
      exact key _ _ (fun j a b c => up_j a) (fun j a b c => up_j a) (by rw [upS, upS])
theorem SIM.hs {E : Mem} (hE : EBx E) : ∀ (l : List Int) (r s : Int → Int), VL (eG E) r l → (∀ x, x ∈ l → x < E 1 4) → SIM E r s → SIM E (hsF E l r) (hsF E l s) := by
  intro l
  induction l with
  | nil => intro r s _ _ h; exact h
  | cons a t ih =>
    intro r s hV hl h
    obtain ⟨v1, v2, v3⟩ := hV
    have ha := hl a List.mem_cons_self
    show SIM E (hsF E t (mhF E r a)) (hsF E t (mhF E s a))
    refine ih _ _ (v3.cg (fun x hx => ?_)) (fun x hx => hl x (List.mem_cons_of_mem _ hx)) (h.mh hE ⟨v1.1, ha⟩ v1.2.2.1)
    have b := v3.i x hx
    exact mhF_oo v1.1 (by omega) (v2 x hx)
theorem SIM.mm {E : Mem} {r s : Int → Int} {m : Int} (h : SIM E r s) (hE : EBx E) (hW : WR E r) (hm : 0 ≤ m ∧ m < E 1 5) (he : r (29 + m) < 0) : SIM E (mmF E r m) (mmF E s m) := by
  have f := hE.f
  have g := hE.2
  obtain ⟨h1, h2, h3, h4⟩ := h.2.2 m hm.1 hm.2
  have b := (hW.2.2.1 m hm.1 hm.2).1
  have e21 := h3 he
  have near : nearF s (s (13 + m)) (eH E) = nearF r (r (13 + m)) (eH E) := by
    rw [h1]
    exact nearF_cg _ (fun i p q => h.1 i p (by omega))
  have nb := nearF_b r (r (13 + m)) (eH E)
  have at' : ∀ x : Int, 0 ≤ x → x < E 1 4 → s x = r x := fun x p q => h.1 x p (by omega)
  have key : ∀ (a b' : Int → Int), (∀ j, j ≠ 13 + m → j ≠ 21 + m → j ≠ 29 + m → a j = r j) → (∀ j, j ≠ 13 + m → j ≠ 21 + m → j ≠ 29 + m → b' j = s j) → b' (13 + m) = a (13 + m) → b' (21 + m) = a (21 + m) → b' (29 + m) = a (29 + m) → SIM E a b' := by
    intro a b' ha hb k1 k2 k3
    refine ⟨fun j p q => ?_, ?_, fun i p q => ?_⟩
    · rw [ha j (by omega) (by omega) (by omega), hb j (by omega) (by omega) (by omega)]
      exact h.1 j p q
    · rw [ha 37 (by omega) (by omega) (by omega), hb 37 (by omega) (by omega) (by omega)]
      exact h.2.1
    · by_cases c : i = m
      · rw [c]
        exact ⟨k1, k3, fun _ => k2, fun y _ _ _ => by rw [k2]⟩
      · rw [ha (13 + i) (by omega) (by omega) (by omega), hb (13 + i) (by omega) (by omega) (by omega), ha (21 + i) (by omega) (by omega) (by omega), hb (21 + i) (by omega) (by omega) (by omega), ha (29 + i) (by omega) (by omega) (by omega), hb (29 + i) (by omega) (by omega) (by omega)]
        obtain ⟨q1, q2, q3, q4⟩ := h.2.2 i p q
        refine ⟨q1, q2, q3, fun y y0 y1 yr => ?_⟩
        rw [ha y (by omega) (by omega) (by omega)] at yr
        exact q4 y y0 y1 yr
  unfold mmF
  by_cases c1 : 0 ≤ r (21 + m) ∧ r (r (21 + m)) < 0
  · have c1' : 0 ≤ s (21 + m) ∧ s (s (21 + m)) < 0 := by rw [e21, at' _ c1.1 b.2]; exact c1
    rw [if_pos c1, if_pos c1']
    exact key _ _ (fun j _ _ c => up_j c) (fun j _ _ c => up_j c) (by rw [up_j (by omega), up_j (by omega)]; exact h1) (by rw [up_j (by omega), up_j (by omega)]; exact e21) (by rw [upS, upS]; exact e21)
  · have c1' : ¬ (0 ≤ s (21 + m) ∧ s (s (21 + m)) < 0) := fun q => by
      rw [e21] at q
      exact c1 ⟨q.1, by rw [← at' _ q.1 b.2]; exact q.2⟩
    rw [if_neg c1, if_neg c1']
    have ch : chF E s m ↔ chF E r m := by
      show (0 ≤ nearF s (s (13 + m)) (eH E) ∧ (s (21 + m) < 0 ∨ ab (s (nearF s (s (13 + m)) (eH E)) - s (13 + m)) < ab (s (s (21 + m)) - s (13 + m)))) ↔ (0 ≤ nearF r (r (13 + m)) (eH E) ∧ (r (21 + m) < 0 ∨ ab (r (nearF r (r (13 + m)) (eH E)) - r (13 + m)) < ab (r (r (21 + m)) - r (13 + m))))
      rw [near, e21, h1]
      by_cases n0 : 0 ≤ nearF r (r (13 + m)) (eH E)
      · rw [at' _ n0 (by omega)]
        by_cases f0 : r (21 + m) < 0
        · exact ⟨fun q => ⟨q.1, Or.inl f0⟩, fun q => ⟨q.1, Or.inl f0⟩⟩
        · rw [at' _ (by omega) b.2]
      · exact ⟨fun q => absurd q.1 n0, fun q => absurd q.1 n0⟩
    by_cases c2 : chF E r m
    · rw [if_pos c2, if_pos (ch.mpr c2)]
      have n0 : 0 ≤ nearF r (r (13 + m)) (eH E) := c2.1
      have gm : goM s m (nearF s (s (13 + m)) (eH E)) = goM r m (nearF r (r (13 + m)) (eH E)) := by
        rw [near]
        unfold goM
        rw [h1, at' _ n0 (by omega)]
      exact key _ _ (fun j a c _ => by rw [up_j a, up_j c]) (fun j a c _ => by rw [up_j a, up_j c]) (by rw [upS, upS]; exact gm) (by rw [up_j (by omega), upS, up_j (by omega), upS]; exact near) (by rw [up_j (by omega), up_j (by omega), up_j (by omega), up_j (by omega)]; exact h2)
    · rw [if_neg c2, if_neg (fun q => c2 (ch.mp q))]
      by_cases c3 : r (21 + m) < 0
      · rw [if_pos c3, if_pos (show s (21 + m) < 0 by omega)]
        exact h
      · rw [if_neg c3, if_neg (show ¬ s (21 + m) < 0 by omega)]
        have gm : goM s m (s (21 + m)) = goM r m (r (21 + m)) := by
          unfold goM
          rw [h1, e21, at' _ (by omega) b.2]
        exact key _ _ (fun j a _ _ => up_j a) (fun j a _ _ => up_j a) (by rw [upS, upS]; exact gm) (by rw [up_j (by omega), up_j (by omega)]; exact e21) (by rw [up_j (by omega), up_j (by omega)]; exact h2)
theorem SIM.st {E : Mem} {r s : Int → Int} (h : SIM E r s) (hE : EBx E) (hW : WR E r) : SIM E (stF E r) (stF E s) := by
  have f := hE.f
  have g := hE.2
  have l := ln_x (r := r) hE
  have el : lnL s (eH E) (eG E).toNat = lnL r (eH E) (eG E).toNat := lnL_cg _ (fun v _ _ => h.on hE v)
  have w := hW.hs hE _ _ l.1 l.2
  have h1 := SIM.hs hE _ r s l.1 l.2 h
  have ms : ∀ n : Nat, (n : Int) ≤ E 1 5 → SIM E (msF E n (hsF E (lnL r (eH E) (eG E).toNat) r)) (msF E n (hsF E (lnL r (eH E) (eG E).toNat) s)) := by
    intro n
    induction n with
    | zero => intro _; exact h1
    | succ n ih =>
      intro hn
      have i := ih (by omega)
      have wn := w.ms hE n (by omega)
      have e29 := (i.2.2 n (by omega) (by omega)).2.1
      show SIM E (if 0 ≤ msF E n (hsF E (lnL r (eH E) (eG E).toNat) r) (29 + n) then msF E n (hsF E (lnL r (eH E) (eG E).toNat) r) else mmF E (msF E n (hsF E (lnL r (eH E) (eG E).toNat) r)) n) (if 0 ≤ msF E n (hsF E (lnL r (eH E) (eG E).toNat) s) (29 + n) then msF E n (hsF E (lnL r (eH E) (eG E).toNat) s) else mmF E (msF E n (hsF E (lnL r (eH E) (eG E).toNat) s)) n)
      rw [e29]
      by_cases c : 0 ≤ msF E n (hsF E (lnL r (eH E) (eG E).toNat) r) (29 + n)
      · rw [if_pos c, if_pos c]
        exact i
      · rw [if_neg c, if_neg c]
        exact i.mm hE wn ⟨by omega, by omega⟩ (by omega)
  have k := ms (eO E) (by omega)
  unfold stF
  rw [el]
  refine ⟨fun j p q => ?_, ?_, fun m p q => ?_⟩
  · rw [up_j (by omega), up_j (by omega)]
    exact k.1 j p q
  · rw [upS, upS, k.2.1]
  · rw [up_j (show 13 + m ≠ 37 by omega), up_j (show 13 + m ≠ 37 by omega), up_j (show 29 + m ≠ 37 by omega), up_j (show 29 + m ≠ 37 by omega), up_j (show 21 + m ≠ 37 by omega), up_j (show 21 + m ≠ 37 by omega)]
    obtain ⟨q1, q2, q3, q4⟩ := k.2.2 m p q
    refine ⟨q1, q2, q3, fun y y0 y1 yr => ?_⟩
    rw [up_j (by omega)] at yr
    exact q4 y y0 y1 yr
theorem SIM.it {E : Mem} {r s : Int → Int} (h : SIM E r s) (hE : EBx E) (hW : WR E r) : ∀ n : Nat, SIM E (itF E n r) (itF E n s) := by
  intro n
  induction n with
  | zero => exact h
  | succ n ih => exact ih.st hE (hW.it hE n)
theorem SIM.gr {E : Mem} {r s : Int → Int} (h : SIM E r s) : grv E s r := fun m p q => (h.2.2 m p q).2.1
theorem SIM.rg {E : Mem} {r s : Int → Int} (h : SIM E r s) (hE : EBx E) (hW : WR E r) : rgE E s = rgE E r := rgB_cg hE (h.it hE hW 200).gr
theorem grv.sy {E : Mem} {r s : Int → Int} (h : grv E r s) : grv E s r := fun m p q => (h m p q).symm
theorem grv.tr {E : Mem} {r s t : Int → Int} (h : grv E r s) (h2 : grv E s t) : grv E r t := fun m p q => (h m p q).trans (h2 m p q)
/-- THE END on the reference's side, from a row that is like one that can be -/
theorem gX12_rightThenS_L4 {b : Int} {E : Mem} {r s : Int → Int} {X50 : Mem → Prop} {Q : Int → Mem → Prop} (hE0 : EBx E) (hW : WR E r) (hs : SIM E r s) (hb : b + 200 ≤ 2000000000) (hX : ∀ M' : Mem, IM (b + 200) M' → CE E M' → OUT s (M' 6) → grv E (M' 6) (itF E 200 r) → X50 M') : ∀ (n : Nat) (v1 v2 : Int) (M : Mem), IM (b + v2) M → CE E M → M 6 = itF E v2.toNat s → (0 ≤ v2 ∧ v2 ≤ 200) → (v1 = 1 ∨ v1 = 0 ∧ allA E (itF E v2.toNat r) ∧ fol E (itF E v2.toNat r)) → 200 - v2 < (n : Int) → qX12_rightThen_L4 X50 Q n v1 v2 M := by
  have e5 := hE0.2.2
  intro n
  induction n with
  | zero => intro v1 v2 M hI hE h6 hv h1 hm; exact absurd hm (by omega)
  | succ n ih =>
    intro v1 v2 M hI hE h6 hv h1 hm
    have sv := hs.it hE0 hW v2.toNat
    have W := hW.it hE0 v2.toNat
    rw [qX12_rightThen_L4]
    refine ⟨⟨by omega, by omega⟩, ⟨fun c => ?_, fun c => ⟨⟨by omega, by omega⟩, ⟨fun c2 => ?_, fun c2 => ?_⟩⟩⟩⟩
    · refine hX M (hI.mono (by omega)) hE (by rw [h6]; exact itF_out hE0 _) ?_
      rw [h6, show v2.toNat = 200 from by omega]
      exact (hs.it hE0 hW 200).gr
    · rcases h1 with h1 | ⟨_, h1, h2⟩
      · omega
      · refine hX M (hI.mono (by omega)) hE (by rw [h6]; exact itF_out hE0 _) ?_
        rw [h6]
        refine sv.gr.tr ?_
        intro m p q
        have e := gr_allA hE0 W h1 h2 (200 - v2.toNat) m p q
        rw [← st_add, show 200 - v2.toNat + v2.toNat = 200 from by omega] at e
        exact e.symm
    · refine gX12_laysLine (k1 := 6) hI hE (Or.inr rfl) ?_
      intro M1 i1 f1 l1 hl
      have E1 : CE E M1 := hE.fr f1 (by intro k j h; rcases h with h | h | h | h | h <;> omega)
      have k1 : M1 6 = M 6 := funext fun j => f1 6 j (by omega)
      intro x6 e6 _
      have l0 := l1.1
      have el : lnL (M 6) (eH E) (eG E).toNat = lnL (itF E v2.toNat r) (eH E) (eG E).toNat := by
        rw [h6]
        exact lnL_cg _ (fun v _ _ => sv.on hE0 v)
      have go : ∀ t : Int, (t = 1 ∨ t = 0 ∧ lnL (itF E v2.toNat r) (eH E) (eG E).toNat = []) → qX12_rightThen_J35 (qX12_rightThen_L4 X50 Q n) X50 Q v2 t M1 := by
        intro t ht
        unfold qX12_rightThen_J35
        refine gX12_stepGoes i1 E1 (by omega) (Or.inr rfl) ?_
        intro M' i' E' k'
        rw [k1] at k'
        refine ih t (v2 + 1) M' (i'.mono (by omega)) E' (by rw [k', h6, itF_s hv.1]) (by omega) ?_ (by omega)
        rcases ht with q | ⟨q, u⟩
        · exact Or.inl q
        · refine Or.inr ⟨q, ?_, ?_⟩
          · rw [itF_s hv.1]
            exact (allA_st hE0 (ln_all hE0 W u)).2
          · rw [itF_s hv.1]
            exact fol_st hE0 W
      refine ⟨fun c3 => ?_, fun c3 => go 1 (Or.inl rfl)⟩
      refine go 0 (Or.inr ⟨rfl, ?_⟩)
      rw [← el]
      have : (lnL (M 6) (eH E) (eG E).toNat).length = 0 := by omega
      exact List.eq_nil_of_length_eq_zero this
theorem rtS {E M : Mem} {b : Int} {r5 g r : Int → Int} {Q : Int → Mem → Prop} (h : TM E b r5 g M) (ho : ∀ m, 0 ≤ m → m < E 1 5 → 0 ≤ E 3 m ∧ E 3 m < E 1 4) (hW : WR E r) (hs : SIM E r (M 6)) (hb : b + 200 ≤ 2000000000) (hQ : ∀ M' : Mem, TM E (b + 200) r5 g M' → Q (rgE E r) M') : qX12_rightThen M Q := by
  obtain ⟨hI, hE, h5, h6⟩ := h
  have E0 := hE.eb hI
  have base : qX12_rightThen M (fun z M' => z = rgE E r ∧ IM (b + 200) M' ∧ CE E M' ∧ OUT (M 6) (M' 6)) := by
    unfold qX12_rightThen
    refine ⟨202, gX12_rightThenS_L4 (b := b) (E := E) (r := r) (s := M 6) E0 hW hs hb ?_ _ _ _ _ (hI.mono (by omega)) hE rfl (by omega) (Or.inl rfl) (by omega)⟩
    intro M' i' E' o' g'
    unfold qX12_rightThen_J50
    refine gX12_endedBy i' E' ho ?_
    intro _
    exact ⟨rgB_cg E0 g', i', E', o'⟩
  refine fmX12_rightThen base ?_
  intro z M' f' q
  obtain ⟨ez, i', e', o'⟩ := q
  rw [ez]
  refine hQ M' ⟨i', e', ?_, h6.tr o'⟩
  rw [← h5]
  exact funext fun j => f' 5 j (by omega)
