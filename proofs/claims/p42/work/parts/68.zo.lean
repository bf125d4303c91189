section
/-! HOUR: the reference's loops -/
theorem mhF_oo {E : Mem} {r : Int → Int} {h j : Int} (hh : 0 ≤ h) (hj : j ≤ 5) (hn : j ≠ h) : mhF E r h j = r j := by
  unfold mhF
  split
  · rfl
  · split
    · rw [up_j hn, up_j (by omega), up_j (by omega)]
    · rw [up_j hn]
theorem WR.hs {E : Mem} (hE : EBx E) : ∀ (l : List Int) (r : Int → Int), VL (eG E) r l → (∀ x, x ∈ l → x < E 1 4) → WR E r → WR E (hsF E l r) := by
  intro l
  induction l with
  | nil => intro r _ _ hW; exact hW
  | cons h t ih =>
    intro r hV hl hW
    obtain ⟨v1, v2, v3⟩ := hV
    show WR E (hsF E t (mhF E r h))
    refine ih _ (v3.cg (fun x hx => ?_)) (fun x hx => hl x (List.mem_cons_of_mem _ hx)) (hW.mh hE ⟨v1.1, hl h List.mem_cons_self⟩ v1.2.2.1)
    have := v3.i x hx
    exact mhF_oo v1.1 this.2 (v2 x hx)
theorem WR.ms {E : Mem} {r : Int → Int} (hE : EBx E) (hW : WR E r) : ∀ n : Nat, (n : Int) ≤ E 1 5 → WR E (msF E n r) := by
  intro n
  induction n with
  | zero => intro _; exact hW
  | succ n ih =>
    intro h
    have i := ih (by omega)
    show WR E (if 0 ≤ msF E n r (29 + n) then msF E n r else mmF E (msF E n r) n)
    split
    · exact i
    · exact i.mm hE ⟨by omega, by omega⟩
theorem WR.st {E : Mem} {r : Int → Int} (hE : EBx E) (hW : WR E r) : WR E (stF E r) := by
  have f := hE.f
  have g := hE.2
  have hl : ∀ x, x ∈ lnL r (eH E) (eG E).toNat → x < E 1 4 := fun x q => by have := lnL_mem _ x q; omega
  have w := WR.ms hE (WR.hs hE _ r (lnL_VL (by omega) _ (by have := hE.1; omega)) hl hW) (eO E) (by omega)
  have e : ∀ j, j ≠ 37 → stF E r j = msF E (eO E) (hsF E (lnL r (eH E) (eG E).toNat) r) j := fun j h => by unfold stF; rw [up_j h]
  have e37 : stF E r 37 = msF E (eO E) (hsF E (lnL r (eH E) (eG E).toNat) r) 37 + 1 := by unfold stF; rw [upS]
  refine ⟨fun i j i0 i1 j0 j1 q p => ?_, fun i i0 i1 => ?_, fun i i0 i1 => ?_, ?_, ?_⟩
  · rw [e i (by omega), e j (by omega)] at q
    rw [e i (by omega)] at p
    exact w.1 i j i0 i1 j0 j1 q p
  · rw [e i (by omega), e (6 + i) (by omega)]
    exact w.2.1 i i0 i1
  · rw [e (21 + i) (by omega), e (13 + i) (by omega), e (29 + i) (by omega)]
    exact w.2.2.1 i i0 i1
  · rw [e 12 (by decide), w.2.2.2.1]
    exact arF_cg (fun i i0 i1 => by rw [e i (by omega)])
  · rw [e37]
    have := w.2.2.2.2
    omega
theorem WR.it {E : Mem} {r : Int → Int} (hE : EBx E) (hW : WR E r) : ∀ n : Nat, WR E (itF E n r) := by
  intro n
  induction n with
  | zero => exact hW
  | succ n ih => exact WR.st hE ih
theorem WR.dos {E : Mem} {r : Int → Int} {P : Int × Int × Int × Int × Int} (hE : EBx E) (hW : WR E r) (ho : ∀ m, 0 ≤ m → m < E 1 5 → 0 ≤ E 3 m ∧ E 3 m < E 1 4) : WR E (doR E r P) := by
  unfold doR
  split
  · exact WR.it hE hW _
  · split
    · exact hW.tn hE ho
    · split
      · exact hW.ps hE
      · split
        · exact hW.ps hE
        · exact hW.sw hE
/-- where the k-th act begins -/
def poA (f : Int → Int) (t : Int) : Nat → Int
  | 0 => 0
  | k + 1 => (prA f t (poA f t k)).2.1
theorem poA_s {f : Int → Int} {t k : Int} (h : 0 ≤ k) : poA f t (k + 1).toNat = (prA f t (poA f t k.toNat)).2.1 := by
  rw [show (k + 1).toNat = k.toNat + 1 from by omega]
  rfl
/-- the acts read so far: entry i is the act at its place -/
def ACS (M : Mem) (f : Int → Int) (t n : Int) : Prop := ∀ i, 0 ≤ i → i < n → (prA f t (poA f t i.toNat)).1 = 1 ∧ poA f t i.toNat < t ∧ ENT M i (prA f t (poA f t i.toNat))
theorem ACS.fr {M M' : Mem} {f : Int → Int} {t n : Int} (h : ACS M f t n) (hf : ∀ (k : Nat) (j : Int), (k = 19 ∨ k = 20 ∨ k = 21) → 0 ≤ j → j < n → M' k j = M k j) : ACS M' f t n := by
  intro i p q
  obtain ⟨a, b, c1, c2, c3⟩ := h i p q
  exact ⟨a, b, by rw [hf 19 i (by omega) p q]; exact c1, by rw [hf 20 i (by omega) p q]; exact c2, fun w => by rw [hf 21 i (by omega) p q]; exact c3 w⟩
theorem gX12_hour_L19 {b v1 : Int} {X42 : Int → Int → Mem → Prop} {Q : Int → Mem → Prop} {M0 : Mem} {T : Int × Int} (ht : M0 1 16 ≤ 60) (hX : ∀ M' : Mem, IM b M' → FrJ kAc M0 M' → M' 1 15 = T.2 → (T.1 = 1 → M0 1 16 ≤ T.2 → 0 ≤ M' 1 39 ∧ M' 1 39 ≤ 30 ∧ ACS M' (M0 7) (M0 1 16) (M' 1 39) ∧ poA (M0 7) (M0 1 16) (M' 1 39).toNat = M' 1 15) → X42 v1 T.1 M') : ∀ (n : Nat) (M : Mem), IM b M → FrJ kAc M0 M → hrd (M0 7) (M0 1 16) n (M 1 15) = T → M 1 15 ≤ M0 1 16 → (2 * M 1 39 ≤ M 1 15) → ACS M (M0 7) (M0 1 16) (M 1 39) → poA (M0 7) (M0 1 16) (M 1 39).toNat = M 1 15 → M0 1 16 - M 1 15 ≤ 2 * n → qX12_hour_L19 X42 Q (n + 2) v1 1 M := by
  intro n
  induction n with
  | zero =>
    intro M hI hF hT ha h2 hA hp hn
    have b39 := bm_c1_39.mp (hI.bx 1 39)
    have e16 : M 1 16 = M0 1 16 := hF 1 16 (by omega)
    rw [qX12_hour_L19]
    refine ⟨⟨by decide, by decide⟩, ⟨fun c => absurd c (by decide), fun _ => ?_⟩⟩
    intro x6 e6 _ x7 e7 _
    refine ⟨fun _ => ?_, fun c => by omega⟩
    subst hT
    exact hX M hI hF rfl (fun _ _ => ⟨b39.1, by omega, hA, hp⟩)
  | succ n ih =>
    intro M hI hF hT ha h2 hA hp hn
    have b39 := bm_c1_39.mp (hI.bx 1 39)
    have b15 := bm_c1_15.mp (hI.bx 1 15)
    have e7' : M 7 = M0 7 := funext fun j => hF 7 j (by omega)
    have e16 : M 1 16 = M0 1 16 := hF 1 16 (by omega)
    have bp := prA_b (f := M0 7) (t := M0 1 16) ha
    rw [qX12_hour_L19]
    refine ⟨⟨by decide, by decide⟩, ⟨fun c => absurd c (by decide), fun _ => ?_⟩⟩
    intro x6 e6 _ x7 e7 _
    unfold hrd at hT
    refine ⟨fun c => ?_, fun c => ?_⟩
    · rw [if_pos (by omega)] at hT
      subst hT
      exact hX M hI hF rfl (fun _ _ => ⟨b39.1, by omega, hA, hp⟩)
    · rw [if_neg (by omega)] at hT
      refine gX12_readsAct hI (by omega) (by omega) ?_
      intro M9 i9 f9 a9 o9 n9 en9
      rw [e7', e16] at a9 en9 ⊢
      intro _ _
      have F9 := hF.tr f9
      rcases bp.2 with q | q
      · rw [if_pos q] at hT
        rw [q, qX12_hour_L19]
        refine ⟨⟨by decide, by decide⟩, ⟨fun _ => ?_, fun c2 => absurd rfl c2⟩⟩
        subst hT
        exact hX M9 i9 F9 a9 (fun w => absurd w (by show ¬ (0 : Int) = 1; decide))
      · rw [if_neg (by omega)] at hT
        rw [q.1]
        refine ih M9 i9 F9 (by rw [a9]; exact hT) (by omega) (by omega) ?_ ?_ (by omega)
        · rw [n9]
          intro i p w
          by_cases ci : i = M 1 39
          · rw [ci, hp]
            exact ⟨q.1, by omega, en9 q.1⟩
          · have old := ACS.fr (M' := M9) hA o9 i p (by omega)
            exact old
        · rw [n9, poA_s b39.1, hp, a9]
abbrev kDm (k : Nat) (j : Int) : Prop := k = 5 ∨ (13 ≤ k ∧ k ≤ 14) ∨ (16 ≤ k ∧ k ≤ 18) ∨ (k = 1 ∧ (j = 30 ∨ j = 31 ∨ j = 35))
theorem gX12_hour_L64 {b : Int} {E M0 : Mem} {X88 : Int → Mem → Prop} {Q : Int → Mem → Prop} {f : Int → Int} {t K : Int} {T : Int × Int × (Int → Int)} (hE0 : EBx E) (ho : ∀ m, 0 ≤ m → m < E 1 5 → 0 ≤ E 3 m ∧ E 3 m < E 1 4) (hK : 0 ≤ K ∧ K ≤ 30) (hb : b + 300 ≤ 2000000000) (hlast : t ≤ poA f t K.toNat) (hX : ∀ (v4 : Int) (M' : Mem), IM (b + 300) M' → CE E M' → Ks kDm M0 M' → M' 5 = T.2.2 → M' 1 39 = K → v4 = T.1 → (T.2.1 = 0 ∧ v4 = K ∨ T.2.1 = 1 ∧ v4 < K) → X88 v4 M') : ∀ (n : Nat) (v4 : Int) (M : Mem) (r : Int → Int), IM (b + 9 * v4) M → CE E M → Ks kDm M0 M → M 5 = r → WR E r → M 1 39 = K → ACS M f t K → v4 + (hrG E f t n (poA f t v4.toNat) r).1 = T.1 → (hrG E f t n (poA f t v4.toNat) r).2 = T.2 → (0 ≤ v4 ∧ v4 ≤ K) → K - v4 < (n : Int) → qX12_hour_L64 X88 Q n v4 M := by
  intro n
  induction n with
  | zero => intro v4 M r hI hE hKs h5 hW h39 hA hT1 hT2 hv hn; exact absurd hn (by omega)
  | succ n ih =>
    intro v4 M r hI hE hKs h5 hW h39 hA hT1 hT2 hv hn
    rw [qX12_hour_L64]
    intro x16 e16 _
    unfold hrG at hT1 hT2
    refine ⟨⟨by omega, by omega⟩, ⟨fun c => ?_, fun c => ?_⟩⟩
    · have ev : v4 = K := by omega
      rw [ev, if_pos hlast] at hT1 hT2
      have t2 : ((0, r) : Int × (Int → Int)) = T.2 := hT2
      have t1 : K + 0 = T.1 := hT1
      exact hX v4 M (hI.mono (by omega)) hE hKs (by rw [h5, ← t2]) h39 (by omega) (Or.inl ⟨by rw [← t2], ev⟩)
    · obtain ⟨a1, a2, a3⟩ := hA v4 hv.1 (by omega)
      rw [if_neg (by omega)] at hT1 hT2
      obtain ⟨d0, d1, d2⟩ := prA_ok a1
      have dd : sgn (prA f t (poA f t v4.toNat)).2.2.1 ∧ 0 ≤ (prA f t (poA f t v4.toNat)).2.2.2.1 ∧ (prA f t (poA f t v4.toNat)).2.2.2.1 ≤ 9 := by
        have y1 := d1.2.1
        have y2 := d1.2.2
        rcases d2 with q | q
        · rw [q.2]
          refine ⟨d0.2, ?_⟩
          show 0 ≤ f (poA f t v4.toNat + 1) - 48 ∧ f (poA f t v4.toNat + 1) - 48 ≤ 9
          omega
        · rw [q.2.2]
          refine ⟨d0.2, ?_⟩
          show 0 ≤ f (poA f t v4.toNat + 1) - 48 ∧ f (poA f t v4.toNat + 1) - 48 ≤ 9
          omega
      have h12 : 0 ≤ itF E (prA f t (poA f t v4.toNat)).2.2.2.1.toNat r 12 := by
        have w := WR.it hE0 hW (prA f t (poA f t v4.toNat)).2.2.2.1.toNat
        have := arF_b (itF E (prA f t (poA f t v4.toNat)).2.2.2.1.toNat r) (eH E)
        have := w.2.2.2.1
        omega
      refine fmX12_does (gX12_does (P := prA f t (poA f t v4.toNat)) hI hE (by omega) ⟨hv.1, by omega⟩ a3 dd.1 dd.2 (by rw [h5]; exact h12) (Q := fun z M' => IM (b + 9 * v4 + 9) M' ∧ CE E M' ∧ M' 5 = doR E (M 5) (prA f t (poA f t v4.toNat)) ∧ (z = 1 ∧ isDn (doA E (M 5) (prA f t (poA f t v4.toNat))) ∨ z = 0 ∧ ¬ isDn (doA E (M 5) (prA f t (poA f t v4.toNat))))) (fun z M' p q u w => ⟨p, q, u, w⟩)) ?_
      intro z M' kf ⟨i', E', k5, hz⟩ _ _
      rw [h5] at k5 hz
      have A' : ACS M' f t K := hA.fr (fun k j hk h0 h1 => kf k j (by omega))
      have g39 : M' 1 39 = K := by rw [kf 1 39 (by omega)]; exact h39
      refine ⟨fun c2 => ?_, fun c2 => ?_⟩
      · have nd : ¬ isDn (doA E r (prA f t (poA f t v4.toNat))) := by
          rcases hz with q | q
          · omega
          · exact q.2
        rw [if_neg (show ¬ (0 ≤ doA E r (prA f t (poA f t v4.toNat)) ∨ doA E r (prA f t (poA f t v4.toNat)) = -4) from nd)] at hT1 hT2
        have t2 : ((1, r) : Int × (Int → Int)) = T.2 := hT2
        have t1 : v4 + 0 = T.1 := hT1
        rw [do_nd h12 nd] at k5
        exact hX v4 M' (i'.mono (by omega)) E' (hKs.tr kf) (by rw [k5, ← t2]) g39 (by omega) (Or.inr ⟨by rw [← t2], by omega⟩)
      · have dn : isDn (doA E r (prA f t (poA f t v4.toNat))) := by
          rcases hz with q | q
          · exact q.2
          · omega
        rw [if_pos (show 0 ≤ doA E r (prA f t (poA f t v4.toNat)) ∨ doA E r (prA f t (poA f t v4.toNat)) = -4 from dn)] at hT1 hT2
        refine ih (v4 + 1) M' (doR E r (prA f t (poA f t v4.toNat))) (i'.mono (by omega)) E' (hKs.tr kf) k5 (WR.dos hE0 hW ho) g39 A' ?_ ?_ (by omega) (by omega)
        · rw [poA_s hv.1, ← hT1]
          show v4 + 1 + _ = v4 + (_ + 1)
          omega
        · rw [poA_s hv.1]
          exact hT2
end
section
/-! THE RULE'S TEXT: what the class reads, as a pure row of states -/
/-- a number of three digits at most at a -/
def nm3 (f : Int → Int) (t a : Int) : Int × Int := if ¬ (a < t ∧ 48 ≤ f a ∧ f a ≤ 57) then (-1, a) else if ¬ (a + 1 < t ∧ 48 ≤ f (a + 1) ∧ f (a + 1) ≤ 57) then (nmV f a 1, a + 1) else if ¬ (a + 2 < t ∧ 48 ≤ f (a + 2) ∧ f (a + 2) ≤ 57) then (nmV f a 2, a + 2) else (nmV f a 3, a + 3)
theorem nm3_N (f : Int → Int) (t a : Int) : NUM f a t 3 (nm3 f t a).1 (nm3 f t a).2 := by
  unfold nm3
  by_cases c1 : a < t ∧ 48 ≤ f a ∧ f a ≤ 57
  · rw [if_neg (fun q => q c1)]
    by_cases c2 : a + 1 < t ∧ 48 ≤ f (a + 1) ∧ f (a + 1) ≤ 57
    · rw [if_neg (fun q => q c2)]
      by_cases c3 : a + 2 < t ∧ 48 ≤ f (a + 2) ∧ f (a + 2) ≤ 57
      · rw [if_neg (fun q => q c3)]
        refine Or.inr ⟨3, by decide, rfl, by omega, fun i p q => ?_, Or.inl rfl, rfl⟩
        have : i = 0 ∨ i = 1 ∨ i = 2 := by omega
        rcases this with rfl | rfl | rfl
        · rw [show a + 0 = a from by omega]; exact c1.2
        · exact c2.2
        · exact c3.2
      · rw [if_pos c3]
        refine Or.inr ⟨2, by decide, rfl, by omega, fun i p q => ?_, Or.inr ?_, rfl⟩
        · have : i = 0 ∨ i = 1 := by omega
          rcases this with rfl | rfl
          · rw [show a + 0 = a from by omega]; exact c1.2
          · exact c2.2
        · by_cases ct : t ≤ a + 2
          · exact Or.inl ct
          · exact Or.inr (fun w => c3 ⟨by omega, w.1, w.2⟩)
    · rw [if_pos c2]
      refine Or.inr ⟨1, by decide, rfl, by omega, fun i p q => ?_, Or.inr ?_, rfl⟩
      · rw [show a + i = a from by omega]; exact c1.2
      · by_cases ct : t ≤ a + 1
        · exact Or.inl ct
        · exact Or.inr (fun w => c2 ⟨by omega, w.1, w.2⟩)
  · rw [if_pos c1]
    exact Or.inl ⟨rfl, rfl, fun w => c1 ⟨w.1, w.2.1, w.2.2⟩⟩
theorem nm3_q {f g : Int → Int} {t a z a' : Int} (h : NUM g a t 3 z a') (hf : ∀ j, a ≤ j → j < t → g j = f j) : z = (nm3 f t a).1 ∧ a' = (nm3 f t a).2 := h.uq (nm3_N f t a) hf
theorem nm3_n {f : Int → Int} {t a : Int} (h : ¬ (a < t ∧ 48 ≤ f a ∧ f a ≤ 57)) : (nm3 f t a).1 = -1 ∧ (nm3 f t a).2 = a := by
  unfold nm3
  rw [if_pos h]
  exact ⟨rfl, rfl⟩
theorem nm3_p {f : Int → Int} {t a : Int} (h : a < t ∧ 48 ≤ f a ∧ f a ≤ 57) : 0 ≤ (nm3 f t a).1 := by
  rcases nm3_N f t a with ⟨_, _, w⟩ | ⟨k, hk, _, _, w, _, e⟩
  · exact absurd ⟨h.1, h.2.1, h.2.2⟩ w
  · rw [e]
    exact (nmV_b k.toNat (fun i p q => w i p (by omega))).1
/-- how close a sign binds; what the sign on top of those that wait binds -/
def bnd (c : Int) : Int := if c = 42 then 3 else if c = 43 then 2 else if c = 45 then 2 else if c = 47 then 3 else if c = 60 then 1 else if c = 61 then 1 else if c = 62 then 1 else if c = 302 then 4 else 0
def lbd : List Int → Int
  | [] => 0
  | c :: _ => bnd c
/-- those on top that bind as close or closer come into the law -/
def rls (b : Int) : List Int → List (Int × Int) → List Int × List (Int × Int)
  | [], O => ([], O)
  | c :: W, O => if bnd c < b then (c :: W, O) else rls b W ((c, 0) :: O)
def rel : List Int → List (Int × Int) → List (Int × Int)
  | [], O => O
  | c :: P, O => rel P ((c, 0) :: O)
def AL (b : Int) : List Int → Prop
  | [] => True
  | c :: P => b ≤ bnd c ∧ AL b P
theorem AL.mono {b b' : Int} : ∀ {P : List Int}, AL b P → b' ≤ b → AL b' P
  | [], _, _ => trivial
  | _ :: _, h, q => ⟨by have := h.1; omega, h.2.mono q⟩
theorem AL.app {b c : Int} : ∀ {P : List Int}, AL b P → b ≤ bnd c → AL b (P ++ [c])
  | [], _, q => ⟨q, trivial⟩
  | _ :: _, h, q => ⟨h.1, h.2.app q⟩
theorem rel_app (c : Int) : ∀ (P : List Int) (O : List (Int × Int)), rel (P ++ [c]) O = (c, 0) :: rel P O
  | [], _ => rfl
  | _ :: P, O => rel_app c P _
theorem ap1 (P : List Int) (c : Int) (W : List Int) : P ++ c :: W = (P ++ [c]) ++ W := by rw [List.append_assoc]; rfl
theorem rls_t {b : Int} {W : List Int} {O : List (Int × Int)} (h : lbd W < b) : rls b W O = (W, O) := by
  cases W with
  | nil => rfl
  | cons c W =>
    show (if bnd c < b then (c :: W, O) else rls b W ((c, 0) :: O)) = _
    rw [if_pos (show bnd c < b from h)]
theorem rls_a {b : Int} {W : List Int} : ∀ {P : List Int} {O : List (Int × Int)}, AL b P → lbd W < b → rls b (P ++ W) O = (W, rel P O)
  | [], _, _, h => rls_t h
  | c :: P, O, a, h => by
    show (if bnd c < b then (c :: (P ++ W), O) else rls b (P ++ W) ((c, 0) :: O)) = _
    rw [if_neg (by have := a.1; omega)]
    exact rls_a a.2 h
theorem rls_n {b : Int} : ∀ (W : List Int) (O : List (Int × Int)), ((rls b W O).1.length + (rls b W O).2.length = W.length + O.length) ∧ lbd (rls b W O).1 < b ∨ (rls b W O).1 = [] ∧ (rls b W O).2.length = W.length + O.length
  | [], O => Or.inr ⟨rfl, by show O.length = 0 + O.length; omega⟩
  | c :: W, O => by
    show ((if bnd c < b then (c :: W, O) else rls b W ((c, 0) :: O)).1.length + (if bnd c < b then (c :: W, O) else rls b W ((c, 0) :: O)).2.length = W.length + 1 + O.length) ∧ lbd (if bnd c < b then (c :: W, O) else rls b W ((c, 0) :: O)).1 < b ∨ (if bnd c < b then (c :: W, O) else rls b W ((c, 0) :: O)).1 = [] ∧ (if bnd c < b then (c :: W, O) else rls b W ((c, 0) :: O)).2.length = W.length + 1 + O.length
    by_cases d : bnd c < b
    · rw [if_pos d]
      exact Or.inl ⟨rfl, d⟩
    · rw [if_neg d]
      have h := rls_n (b := b) W ((c, 0) :: O)
      have e : ((c, 0) :: O).length = O.length + 1 := rfl
      rw [e] at h
      rcases h with h | h
      · exact Or.inl ⟨by omega, h.2⟩
      · exact Or.inr ⟨h.1, by omega⟩
theorem rls_len (b : Int) (W : List Int) (O : List (Int × Int)) : (rls b W O).1.length + (rls b W O).2.length = W.length + O.length := by
  rcases rls_n (b := b) W O with h | h
  · exact h.1
  · rw [h.1, h.2]
    exact Nat.zero_add _
theorem tl_len (W : List Int) : W.tail.length ≤ W.length := by
  cases W with
  | nil => exact Nat.le_refl _
  | cons c W => exact Nat.le_succ _
/-- a state of reading: whether a thing is wanted, depth, what waits, the law so far, the place -/
abbrev PSt : Type := Int × Int × List Int × List (Int × Int) × Int
def pst (f : Int → Int) (t : Int) : PSt → Option PSt
  | (w, dp, W, O, a) => if w = 1 then (if 0 ≤ (nm3 f t a).1 then some (0, dp, W, (300, (nm3 f t a).1) :: O, (nm3 f t a).2) else if f a = 45 then some (1, dp, 302 :: W, O, a + 1) else if f a = 40 ∧ dp < 4 then some (1, dp + 1, 40 :: W, O, a + 1) else if 0 ≤ ixS (bS 0) (f a) then some (0, dp, W, (301, ixS (bS 0) (f a)) :: O, a + 1) else none) else (if f a = 41 ∧ 0 < dp then some (0, dp - 1, (rls 1 W O).1.tail, (rls 1 W O).2, a + 1) else if bnd (f a) = 1 then (if lbd (rls 2 W O).1 = 1 then none else some (1, dp, f a :: (rls 2 W O).1, (rls 2 W O).2, a + 1)) else if 1 < bnd (f a) then some (1, dp, f a :: (rls (bnd (f a)) W O).1, (rls (bnd (f a)) W O).2, a + 1) else none)
theorem pst_1 {f : Int → Int} {t dp a : Int} {W : List Int} {O : List (Int × Int)} (h : 0 ≤ (nm3 f t a).1) : pst f t (1, dp, W, O, a) = some (0, dp, W, (300, (nm3 f t a).1) :: O, (nm3 f t a).2) := by
  rw [pst, if_pos rfl, if_pos h]
theorem pst_2 {f : Int → Int} {t dp a : Int} {W : List Int} {O : List (Int × Int)} (h : f a = 45) : pst f t (1, dp, W, O, a) = some (1, dp, 302 :: W, O, a + 1) := by
  rw [pst, if_pos rfl, if_neg (by rw [(nm3_n (f := f) (t := t) (a := a) (by omega)).1]; decide), if_pos h]
theorem pst_3 {f : Int → Int} {t dp a : Int} {W : List Int} {O : List (Int × Int)} (h : f a = 40) (hd : dp < 4) : pst f t (1, dp, W, O, a) = some (1, dp + 1, 40 :: W, O, a + 1) := by
  rw [pst, if_pos rfl, if_neg (by rw [(nm3_n (f := f) (t := t) (a := a) (by omega)).1]; decide), if_neg (by omega), if_pos ⟨h, hd⟩]
theorem pst_4 {f : Int → Int} {t dp a : Int} {W : List Int} {O : List (Int × Int)} (hn : (nm3 f t a).1 < 0) (h1 : f a ≠ 45) (h2 : ¬ (f a = 40 ∧ dp < 4)) (h : 0 ≤ ixS (bS 0) (f a)) : pst f t (1, dp, W, O, a) = some (0, dp, W, (301, ixS (bS 0) (f a)) :: O, a + 1) := by
  rw [pst, if_pos rfl, if_neg (by omega), if_neg h1, if_neg h2, if_pos h]
theorem pst_5 {f : Int → Int} {t dp a : Int} {W : List Int} {O : List (Int × Int)} (hn : (nm3 f t a).1 < 0) (h1 : f a ≠ 45) (h2 : ¬ (f a = 40 ∧ dp < 4)) (h : ixS (bS 0) (f a) < 0) : pst f t (1, dp, W, O, a) = none := by
  rw [pst, if_pos rfl, if_neg (by omega), if_neg h1, if_neg h2, if_neg (by omega)]
theorem pst_6 {f : Int → Int} {t w dp a : Int} {W : List Int} {O : List (Int × Int)} (hw : w ≠ 1) (h : f a = 41) (hd : 0 < dp) : pst f t (w, dp, W, O, a) = some (0, dp - 1, (rls 1 W O).1.tail, (rls 1 W O).2, a + 1) := by
  rw [pst, if_neg hw, if_pos ⟨h, hd⟩]
theorem pst_7 {f : Int → Int} {t w dp a : Int} {W : List Int} {O : List (Int × Int)} (hw : w ≠ 1) (h : bnd (f a) = 1) (hl : lbd (rls 2 W O).1 = 1) : pst f t (w, dp, W, O, a) = none := by
  have h41 : ¬ (f a = 41 ∧ 0 < dp) := fun q => by rw [q.1] at h; exact absurd h (by decide)
  rw [pst, if_neg hw, if_neg h41, if_pos h, if_pos hl]
theorem pst_8 {f : Int → Int} {t w dp a : Int} {W : List Int} {O : List (Int × Int)} (hw : w ≠ 1) (h : bnd (f a) = 1) (hl : lbd (rls 2 W O).1 ≠ 1) : pst f t (w, dp, W, O, a) = some (1, dp, f a :: (rls 2 W O).1, (rls 2 W O).2, a + 1) := by
  have h41 : ¬ (f a = 41 ∧ 0 < dp) := fun q => by rw [q.1] at h; exact absurd h (by decide)
  rw [pst, if_neg hw, if_neg h41, if_pos h, if_neg hl]
theorem pst_9 {f : Int → Int} {t w dp a : Int} {W : List Int} {O : List (Int × Int)} (hw : w ≠ 1) (h : 1 < bnd (f a)) : pst f t (w, dp, W, O, a) = some (1, dp, f a :: (rls (bnd (f a)) W O).1, (rls (bnd (f a)) W O).2, a + 1) := by
  have h41 : ¬ (f a = 41 ∧ 0 < dp) := fun q => by rw [q.1] at h; exact absurd h (by decide)
  rw [pst, if_neg hw, if_neg h41, if_neg (by omega), if_pos h]
theorem pst_0 {f : Int → Int} {t w dp a : Int} {W : List Int} {O : List (Int × Int)} (hw : w ≠ 1) (h41 : ¬ (f a = 41 ∧ 0 < dp)) (h : bnd (f a) < 1) : pst f t (w, dp, W, O, a) = none := by
  rw [pst, if_neg hw, if_neg h41, if_neg (by omega), if_neg (by omega)]
/-- how far a step goes -/
theorem pst_b {f : Int → Int} {t w dp a : Int} {W : List Int} {O : List (Int × Int)} {S1 : PSt} (ha : a < t) (h : pst f t (w, dp, W, O, a) = some S1) : a + 1 ≤ S1.2.2.2.2 ∧ S1.2.2.2.2 ≤ t ∧ (S1.2.2.1.length : Int) + S1.2.2.2.1.length ≤ W.length + O.length + 1 := by
  by_cases cw : w = 1
  · subst cw
    by_cases c1 : 0 ≤ (nm3 f t a).1
    · rw [pst_1 c1] at h
      have e := Option.some.inj h
      subst e
      have b := (nm3_N f t a).b (by decide)
      refine ⟨?_, ?_, ?_⟩
      · show a + 1 ≤ (nm3 f t a).2
        exact b.2.2.2.2.2.2.1 c1
      · show (nm3 f t a).2 ≤ t
        exact b.2.2.2.2.2.1 (by omega)
      · show (W.length : Int) + ((O.length + 1 : Nat) : Int) ≤ _
        omega
    · by_cases c2 : f a = 45
      · rw [pst_2 c2] at h
        have e := Option.some.inj h
        subst e
        refine ⟨Int.le_refl _, ?_, ?_⟩
        · show a + 1 ≤ t
          omega
        · show ((W.length + 1 : Nat) : Int) + O.length ≤ _
          omega
      · by_cases c3 : f a = 40 ∧ dp < 4
        · rw [pst_3 c3.1 c3.2] at h
          have e := Option.some.inj h
          subst e
          refine ⟨Int.le_refl _, ?_, ?_⟩
          · show a + 1 ≤ t
            omega
          · show ((W.length + 1 : Nat) : Int) + O.length ≤ _
            omega
        · by_cases c4 : 0 ≤ ixS (bS 0) (f a)
          · rw [pst_4 (by omega) c2 c3 c4] at h
            have e := Option.some.inj h
            subst e
            refine ⟨Int.le_refl _, ?_, ?_⟩
            · show a + 1 ≤ t
              omega
            · show (W.length : Int) + ((O.length + 1 : Nat) : Int) ≤ _
              omega
          · rw [pst_5 (by omega) c2 c3 (by omega)] at h
            cases h
  · by_cases c1 : f a = 41 ∧ 0 < dp
    · rw [pst_6 cw c1.1 c1.2] at h
      have e := Option.some.inj h
      subst e
      have l := rls_len 1 W O
      have l2 := tl_len (rls 1 W O).1
      refine ⟨Int.le_refl _, ?_, ?_⟩
      · show a + 1 ≤ t
        omega
      · show ((rls 1 W O).1.tail.length : Int) + (rls 1 W O).2.length ≤ _
        omega
    · by_cases c2 : bnd (f a) = 1
      · by_cases c3 : lbd (rls 2 W O).1 = 1
        · rw [pst_7 cw c2 c3] at h
          cases h
        · rw [pst_8 cw c2 c3] at h
          have e := Option.some.inj h
          subst e
          have l := rls_len 2 W O
          refine ⟨Int.le_refl _, ?_, ?_⟩
          · show a + 1 ≤ t
            omega
          · show (((rls 2 W O).1.length + 1 : Nat) : Int) + (rls 2 W O).2.length ≤ _
            omega
      · by_cases c3 : 1 < bnd (f a)
        · rw [pst_9 cw c3] at h
          have e := Option.some.inj h
          subst e
          have l := rls_len (bnd (f a)) W O
          refine ⟨Int.le_refl _, ?_, ?_⟩
          · show a + 1 ≤ t
            omega
          · show (((rls (bnd (f a)) W O).1.length + 1 : Nat) : Int) + (rls (bnd (f a)) W O).2.length ≤ _
            omega
        · rw [pst_0 cw c1 (by omega)] at h
          cases h
/-- n steps, as far as they go -/
def pru (f : Int → Int) (t : Int) : Nat → PSt → PSt
  | 0, S => S
  | n + 1, S => if S.2.2.2.2 < t then (match pst f t S with | some S1 => pru f t n S1 | none => S) else S
def PR (f : Int → Int) (t : Int) : Nat → PSt → PSt → Prop
  | 0, S, S' => S = S'
  | n + 1, S, S' => S.2.2.2.2 < t ∧ ∃ S1, pst f t S = some S1 ∧ PR f t n S1 S'
theorem PR.tr {f : Int → Int} {t : Int} : ∀ {n m : Nat} {S S1 S2 : PSt}, PR f t n S S1 → PR f t m S1 S2 → PR f t (n + m) S S2
  | 0, m, S, S1, S2, h, h2 => by
    have e : S = S1 := h
    rw [e, Nat.zero_add]
    exact h2
  | n + 1, m, S, S1, S2, h, h2 => by
    obtain ⟨a, T, b, c⟩ := h
    rw [Nat.succ_add]
    exact ⟨a, T, b, c.tr h2⟩
theorem PR.one {f : Int → Int} {t w dp a : Int} {W : List Int} {O : List (Int × Int)} {S1 : PSt} (ha : a < t) (h : pst f t (w, dp, W, O, a) = some S1) : PR f t 1 (w, dp, W, O, a) S1 := ⟨ha, S1, h, rfl⟩
theorem pru_s {f : Int → Int} {t : Int} {n : Nat} {S : PSt} (h : t ≤ S.2.2.2.2 ∨ pst f t S = none) : pru f t n S = S := by
  cases n with
  | zero => rfl
  | succ n =>
    unfold pru
    by_cases c : S.2.2.2.2 < t
    · rw [if_pos c]
      rcases h with h | h
      · omega
      · rw [h]
    · rw [if_neg c]
theorem pru_n {f : Int → Int} {t : Int} {n : Nat} {S S1 : PSt} (h : S.2.2.2.2 < t) (h1 : pst f t S = some S1) : pru f t (n + 1) S = pru f t n S1 := by
  show (if S.2.2.2.2 < t then (match pst f t S with | some S1 => pru f t n S1 | none => S) else S) = _
  rw [if_pos h, h1]
theorem PR.pru {f : Int → Int} {t : Int} : ∀ {m n : Nat} {S S' : PSt}, PR f t m S S' → (t ≤ S'.2.2.2.2 ∨ pst f t S' = none) → t - S.2.2.2.2 ≤ n → pru f t n S = S'
  | 0, n, S, S', h, q, _ => by
    have e : S = S' := h
    rw [e]
    exact pru_s q
  | m + 1, n, (w, dp, W, O, x), S', h, q, hn => by
    obtain ⟨a, T, b, c⟩ := h
    have a' : x < t := a
    have hn' : t - x ≤ n := hn
    have hb := pst_b (S1 := T) a' b
    cases n with
    | zero => omega
    | succ n =>
      rw [pru_n a b]
      exact c.pru q (by omega)
end
section
/-! THE RULE'S TEXT: the class reads it -/
/-- what waits stands in g; the law so far in g, h (its letters u) -/
def SK (g : Int → Int) : List Int → Prop
  | [] => True
  | c :: W => g W.length = c ∧ SK g W
def SO (g h : Int → Int) (u : Int) : List (Int × Int) → Prop
  | [] => True
  | p :: O => (g O.length = p.1 ∧ h O.length = p.2 ∧ kOK p.1 p.2 ∧ (p.1 = 301 → bt (iI u) p.2.toNat = true)) ∧ SO g h u O
theorem SK.cg {g g' : Int → Int} : ∀ {W : List Int}, SK g W → (∀ j : Int, 0 ≤ j → j < W.length → g' j = g j) → SK g' W
  | [], _, _ => trivial
  | c :: W, h, e => by
    have l : ((c :: W).length : Int) = W.length + 1 := by show ((W.length + 1 : Nat) : Int) = _; omega
    rw [l] at e
    exact ⟨by rw [e _ (by omega) (by omega)]; exact h.1, h.2.cg (fun j p q => e j p (by omega))⟩
theorem SO.cg {g h g' h' : Int → Int} {u u' : Int} (hu : ∀ i, bt (iI u) i = true → bt (iI u') i = true) : ∀ {O : List (Int × Int)}, SO g h u O → (∀ j : Int, 0 ≤ j → j < O.length → g' j = g j) → (∀ j : Int, 0 ≤ j → j < O.length → h' j = h j) → SO g' h' u' O
  | [], _, _, _ => trivial
  | p :: O, s, e, e2 => by
    have l : ((p :: O).length : Int) = O.length + 1 := by show ((O.length + 1 : Nat) : Int) = _; omega
    rw [l] at e e2
    obtain ⟨⟨a, b, c, d⟩, s2⟩ := s
    exact ⟨⟨by rw [e _ (by omega) (by omega)]; exact a, by rw [e2 _ (by omega) (by omega)]; exact b, c, fun q => hu _ (d q)⟩, s2.cg hu (fun j p q => e j p (by omega)) (fun j p q => e2 j p (by omega))⟩
/-- the law at k so far -/
def ROl (k : Nat) (M : Mem) (O : List (Int × Int)) : Prop := M k 4 = O.length ∧ SO (M (k + 1)) (M (k + 2)) (M k 5) O
def RWt (M : Mem) (W : List Int) : Prop := M 185 1 = W.length ∧ SK (M 186) W
theorem ROl.fr {k : Nat} {M M' : Mem} {O : List (Int × Int)} (h : ROl k M O) (e4 : M' k 4 = M k 4) (e5 : M' k 5 = M k 5) (e1 : M' (k + 1) = M (k + 1)) (e2 : M' (k + 2) = M (k + 2)) : ROl k M' O := by
  unfold ROl at h ⊢
  rw [e4, e5, e1, e2]
  exact h
theorem RWt.fr {M M' : Mem} {W : List Int} (h : RWt M W) (e1 : M' 185 1 = M 185 1) (e2 : M' 186 = M 186) : RWt M' W := by
  unfold RWt at h ⊢
  rw [e1, e2]
  exact h
abbrev kAl (k0 : Nat) (k : Nat) (j : Int) : Prop := (k = k0 ∧ (j = 4 ∨ j = 5)) ∨ k = k0 + 1 ∨ k = k0 + 2
theorem gX2_add {k0 : Nat} {p1 p2 : Int} {M : Mem} {O : List (Int × Int)} {Q : Mem → Prop} (hI : IX M) (hk0 : isL k0) (hp : kOK p1 p2) (hu : p1 = 301 → bt (iI (M k0 5)) p2.toNat = true) (hR : ROl k0 M O) (hn : O.length < 40) (hQ : ∀ M' : Mem, IX M' → Ks (fun k j => (k = k0 ∧ j = 4) ∨ k = k0 + 1 ∨ k = k0 + 2) M M' → ROl k0 M' ((p1, p2) :: O) → Q M') : qX2_add k0 p1 p2 M Q := by
  have ek0 : k0 = 187 ∨ k0 = 192 := hk0
  have h301 : p1 = 301 → 0 ≤ p2 ∧ p2 ≤ 6 := by intro h; rcases hp with q | q | q | q | q | q | q | q | q | q <;> omega
  obtain ⟨hl, hs⟩ := hR
  unfold qX2_add
  intro x1 e1 r1
  refine ⟨fun c => by omega, fun c => ?_⟩
  intro x3 e3 r3
  refine ⟨by omega, by omega, ?_⟩
  intro M6 h6 x7 e7 r7
  have f7 : x7 = x3 := by rw [e7, h6, up2_n (by omega), e3]
  refine ⟨by omega, by omega, ?_⟩
  intro M10 h10 x11 e11 r11
  have f11 : x11 = x3 := by rw [e11, h10, up2_n (by omega), h6, up2_n (by omega), e3]
  refine ⟨⟨by omega, by omega⟩, ?_⟩
  intro M13 h13
  have K : Ks (fun k j => (k = k0 ∧ j = 4) ∨ k = k0 + 1 ∨ k = k0 + 2) M M13 := by
    rw [h13, h10, h6]
    exact ((Ks.rf.wr (Or.inr (Or.inl rfl))).wr (Or.inr (Or.inr rfl))).wr (Or.inl ⟨rfl, rfl⟩)
  have g1 : ∀ j, M13 (k0 + 1) j = if j = x3 then p1 else M (k0 + 1) j := by
    intro j
    rw [h13, up2_n (by omega), h10, up2_n (by omega), h6, up2_a, if_pos rfl]
  have g2 : ∀ j, M13 (k0 + 2) j = if j = x3 then p2 else M (k0 + 2) j := by
    intro j
    rw [h13, up2_n (by omega), h10, up2_a, if_pos rfl, f7, h6, up2_n (by omega)]
  refine hQ _ ?_ K ⟨?_, ⟨?_, ?_, hp, ?_⟩, ?_⟩
  · rw [h13, h10, h6]
    refine ⟨BX.up (BX.up (BX.up hI.1 (bx_lf1 hk0)) (bx_lf2 hk0)) ((bx_l4 hk0).mpr ⟨by omega, by omega⟩), ?_, fun k' j' hk' => ?_⟩
    · rw [up2_n (by rcases hk0 with rfl | rfl <;> omega), up2_n (by rcases hk0 with rfl | rfl <;> omega), up2_n (by rcases hk0 with rfl | rfl <;> omega)]
      exact hI.2.1
    · have hd : k' + 1 ≠ k0 ∧ k' + 1 ≠ k0 + 2 ∧ k' + 2 ≠ k0 ∧ k' + 2 ≠ k0 + 1 := by rcases hk' with rfl | rfl <;> rcases hk0 with rfl | rfl <;> omega
      rw [up2_n hd.1, up2_n hd.2.1, up2_n hd.2.2.1, f7, up2_a, up2_a, up2_n (k' := k' + 2) hd.2.2.2]
      by_cases c1 : k' = k0
      · subst c1
        rw [if_pos rfl, if_pos rfl]
        by_cases c2 : j' = x3
        · rw [if_pos c2, if_pos c2]; exact h301
        · rw [if_neg c2, if_neg c2]; exact hI.2.2 _ _ hk'
      · rw [if_neg (by omega), if_neg (by omega)]; exact hI.2.2 _ _ hk'
  · show M13 k0 4 = ((O.length + 1 : Nat) : Int)
    rw [h13, up2_s]
    omega
  · show M13 (k0 + 1) O.length = p1
    rw [g1, if_pos (by omega)]
  · show M13 (k0 + 2) O.length = p2
    rw [g2, if_pos (by omega)]
  · show p1 = 301 → bt (iI (M13 k0 5)) p2.toNat = true
    rw [K k0 5 (by omega)]
    exact hu
  · refine hs.cg (u' := M13 k0 5) (by rw [K k0 5 (by omega)]; exact fun _ q => q) (fun j p q => ?_) (fun j p q => ?_)
    · rw [g1, if_neg (by omega)]
    · rw [g2, if_neg (by omega)]
theorem gX2_addLetter {k0 : Nat} {p1 : Int} {M : Mem} {O : List (Int × Int)} {Q : Mem → Prop} (hI : IX M) (hk0 : isL k0) (hp : 0 ≤ p1 ∧ p1 ≤ 6) (hR : ROl k0 M O) (hn : O.length < 40) (hQ : ∀ M' : Mem, IX M' → Ks (kAl k0) M M' → ROl k0 M' ((301, p1) :: O) → Q M') : qX2_addLetter k0 p1 M Q := by
  have ek0 : k0 = 187 ∨ k0 = 192 := hk0
  have h301 : (301 : Int) = 301 → 0 ≤ p1 ∧ p1 ≤ 6 := fun _ => hp
  obtain ⟨hl, hs⟩ := hR
  unfold qX2_addLetter qX2_add
  intro x1 e1 r1
  refine ⟨fun c => by omega, fun c => ?_⟩
  intro x3 e3 r3
  refine ⟨by omega, by omega, ?_⟩
  intro M6 h6 x7 e7 r7
  have f7 : x7 = x3 := by rw [e7, h6, up2_n (by omega), e3]
  refine ⟨by omega, by omega, ?_⟩
  intro M10 h10 x11 e11 r11
  have f11 : x11 = x3 := by rw [e11, h10, up2_n (by omega), h6, up2_n (by omega), e3]
  refine ⟨⟨by omega, by omega⟩, ?_⟩
  intro M13 h13
  have i13 : IX M13 := by
    rw [h13, h10, h6]
    refine ⟨BX.up (BX.up (BX.up hI.1 (bx_lf1 hk0)) (bx_lf2 hk0)) ((bx_l4 hk0).mpr ⟨by omega, by omega⟩), ?_, fun k' j' hk' => ?_⟩
    · rw [up2_n (by rcases hk0 with rfl | rfl <;> omega), up2_n (by rcases hk0 with rfl | rfl <;> omega), up2_n (by rcases hk0 with rfl | rfl <;> omega)]
      exact hI.2.1
    · have hd : k' + 1 ≠ k0 ∧ k' + 1 ≠ k0 + 2 ∧ k' + 2 ≠ k0 ∧ k' + 2 ≠ k0 + 1 := by rcases hk' with rfl | rfl <;> rcases hk0 with rfl | rfl <;> omega
      rw [up2_n hd.1, up2_n hd.2.1, up2_n hd.2.2.1, f7, up2_a, up2_a, up2_n (k' := k' + 2) hd.2.2.2]
      by_cases c1 : k' = k0
      · subst c1
        rw [if_pos rfl, if_pos rfl]
        by_cases c2 : j' = x3
        · rw [if_pos c2, if_pos c2]; exact h301
        · rw [if_neg c2, if_neg c2]; exact hI.2.2 _ _ hk'
      · rw [if_neg (by omega), if_neg (by omega)]; exact hI.2.2 _ _ hk'
  have g1 : ∀ j, M13 (k0 + 1) j = if j = x3 then 301 else M (k0 + 1) j := by
    intro j
    rw [h13, up2_n (by omega), h10, up2_n (by omega), h6, up2_a, if_pos rfl]
  have g2 : ∀ j, M13 (k0 + 2) j = if j = x3 then p1 else M (k0 + 2) j := by
    intro j
    rw [h13, up2_n (by omega), h10, up2_a, if_pos rfl, f7, h6, up2_n (by omega)]
  have g5 : M13 k0 5 = M k0 5 := by rw [h13, up2_j (by decide), h10, up2_n (by omega), h6, up2_n (by omega)]
  intro y2 q2 _ y3 q3 _ y4 q4 _ M5 h5
  have hb : ∀ i, i < 32 → bt (iI y4) i = (bt (iI (M k0 5)) i || decide ((i : Int) = p1)) := by
    intro i hi
    rw [q4, bt_oI, q3, bt_sl1 ⟨by omega, by omega⟩ hi, q2, g5]
  have hm : ∀ i, bt (iI (M k0 5)) i = true → bt (iI y4) i = true := by
    intro i h
    by_cases c : i < 32
    · rw [hb i c, h]; rfl
    · rw [b_big (by omega)] at h
      cases h
  have k1 : M5 (k0 + 1) = M13 (k0 + 1) := by rw [h5, up2_n (by omega)]
  have k2 : M5 (k0 + 2) = M13 (k0 + 2) := by rw [h5, up2_n (by omega)]
  have k4 : M5 k0 4 = M13 k0 4 := by rw [h5, up2_j (by decide)]
  have k5 : M5 k0 5 = y4 := by rw [h5, up2_s]
  refine hQ _ ?_ ?_ ⟨?_, ⟨?_, ?_, Or.inr (Or.inl ⟨rfl, hp⟩), ?_⟩, ?_⟩
  · rw [h5]; exact i13.up (isL.nsp0 hk0) (bx_lf0 hk0 (by decide))
  · rw [h5, h13, h10, h6]
    exact (((Ks.rf.wr (Or.inr (Or.inl rfl))).wr (Or.inr (Or.inr rfl))).wr (Or.inl ⟨rfl, Or.inl rfl⟩)).wr (Or.inl ⟨rfl, Or.inr rfl⟩)
  · show M5 k0 4 = ((O.length + 1 : Nat) : Int)
    rw [k4, h13, up2_s]
    omega
  · show M5 (k0 + 1) O.length = 301
    rw [k1, g1, if_pos (by omega)]
  · show M5 (k0 + 2) O.length = p1
    rw [k2, g2, if_pos (by omega)]
  · intro _
    show bt (iI (M5 k0 5)) p1.toNat = true
    rw [k5, hb _ (by omega), decide_eq_true (by omega), Bool.or_true]
  · rw [k5]
    refine hs.cg hm (fun j p q => ?_) (fun j p q => ?_)
    · rw [k1, g1, if_neg (by omega)]
    · rw [k2, g2, if_neg (by omega)]
theorem gX5_bindingOf {p0 : Int} {M : Mem} {Q : Int → Mem → Prop} (hQ : Q (bnd p0) M) : qX5_bindingOf p0 M Q := by
  unfold qX5_bindingOf
  refine ⟨fun c => ?_, fun c => ?_, fun c => ?_, fun c => ?_, fun c => ?_, fun c => ?_, fun c => ?_, fun c => ?_, fun c => ?_⟩
  · rw [c] at hQ; exact hQ
  · rw [c] at hQ; exact hQ
  · rw [c] at hQ; exact hQ
  · rw [c] at hQ; exact hQ
  · rw [c] at hQ; exact hQ
  · rw [c] at hQ; exact hQ
  · rw [c] at hQ; exact hQ
  · rw [c] at hQ; exact hQ
  · obtain ⟨c1, c2, c3, c4, c5, c6, c7, c8⟩ := c
    have e : bnd p0 = 0 := by
      unfold bnd
      rw [if_neg c1, if_neg c2, if_neg c3, if_neg c4, if_neg c5, if_neg c6, if_neg c7, if_neg c8]
    rw [e] at hQ
    exact hQ
theorem bnd_b (c : Int) : 0 ≤ bnd c ∧ bnd c ≤ 4 ∧ (1 ≤ bnd c → kOK c 0 ∧ c ≠ 301 ∧ c ≠ 40) := by
  unfold bnd kOK
  by_cases c1 : c = 42
  · rw [if_pos c1]; omega
  · rw [if_neg c1]
    by_cases c2 : c = 43
    · rw [if_pos c2]; omega
    · rw [if_neg c2]
      by_cases c3 : c = 45
      · rw [if_pos c3]; omega
      · rw [if_neg c3]
        by_cases c4 : c = 47
        · rw [if_pos c4]; omega
        · rw [if_neg c4]
          by_cases c5 : c = 60
          · rw [if_pos c5]; omega
          · rw [if_neg c5]
            by_cases c6 : c = 61
            · rw [if_pos c6]; omega
            · rw [if_neg c6]
              by_cases c7 : c = 62
              · rw [if_pos c7]; omega
              · rw [if_neg c7]
                by_cases c8 : c = 302
                · rw [if_pos c8]; omega
                · rw [if_neg c8]; omega
theorem gX5_latestBinding {W : List Int} {M : Mem} {Q : Int → Mem → Prop} (hR : RWt M W) (hl : W.length ≤ 40) (hQ : Q (lbd W) M) : qX5_latestBinding M Q := by
  obtain ⟨h1, h2⟩ := hR
  unfold qX5_latestBinding
  intro x1 e1 _
  cases W with
  | nil =>
    have l : (([] : List Int).length : Int) = 0 := rfl
    exact ⟨fun _ => hQ, fun c => by omega⟩
  | cons c W =>
    have l : ((c :: W).length : Int) = W.length + 1 := by show ((W.length + 1 : Nat) : Int) = _; omega
    have l2 : (c :: W).length = W.length + 1 := rfl
    refine ⟨fun q => by omega, fun _ => ?_⟩
    intro x3 e3 _
    refine ⟨by omega, by omega, ?_⟩
    intro x6 e6 _
    have f6 : x6 = c := by
      rw [e6, show x3 - 1 = (W.length : Int) from by omega]
      exact h2.1
    rw [f6]
    exact gX5_bindingOf (fun _ => hQ)
abbrev kRl (k1 : Nat) (k : Nat) (j : Int) : Prop := (k = 185 ∧ j = 1) ∨ (k = k1 ∧ j = 4) ∨ k = k1 + 1 ∨ k = k1 + 2
theorem gX5_release_L0 {k1 : Nat} {p2 : Int} {M0 : Mem} {Q : Mem → Prop} {T : List Int × List (Int × Int)} (hk1 : isL k1) (hp : 1 ≤ p2) (hQ : ∀ M' : Mem, IX M' → Ks (kRl k1) M0 M' → RWt M' T.1 → ROl k1 M' T.2 → Q M') : ∀ (W : List Int) (O : List (Int × Int)) (n : Nat) (M : Mem), IX M → Ks (kRl k1) M0 M → RWt M W → ROl k1 M O → W.length + O.length ≤ 40 → rls p2 W O = T → W.length < n → qX5_release_L0 k1 p2 Q n M := by
  have ek1 : k1 = 187 ∨ k1 = 192 := hk1
  intro W
  induction W with
  | nil =>
    intro O n M hI hK hW hO hl hT hn
    cases n with
    | zero => exact absurd hn (by omega)
    | succ n =>
      rw [qX5_release_L0]
      intro x1 e1 _
      have l : (([] : List Int).length : Int) = 0 := rfl
      have := hW.1
      refine ⟨fun _ => ?_, fun c => by omega⟩
      subst hT
      exact hQ _ hI hK hW hO
  | cons c W ih =>
    intro O n M hI hK hW hO hl hT hn
    have l : ((c :: W).length : Int) = W.length + 1 := by show ((W.length + 1 : Nat) : Int) = _; omega
    have l2 : (c :: W).length = W.length + 1 := rfl
    cases n with
    | zero => exact absurd hn (by omega)
    | succ n =>
      have w1 := hW.1
      rw [qX5_release_L0]
      intro x1 e1 _
      refine ⟨fun q => by omega, fun _ => ?_⟩
      refine gX5_latestBinding hW (by omega) ?_
      intro _
      have hT' : (if bnd c < p2 then (c :: W, O) else rls p2 W ((c, 0) :: O)) = T := hT
      refine ⟨fun q => ?_, fun q => ?_⟩
      · have q' : bnd c < p2 := q
        rw [if_pos q'] at hT'
        subst hT'
        exact hQ _ hI hK hW hO
      · have q' : ¬ bnd c < p2 := q
        rw [if_neg q'] at hT'
        have bb := (bnd_b c).2.2 (by omega)
        intro x5 e5 _
        refine ⟨⟨by omega, by omega⟩, ?_⟩
        intro M7 h7 x8 e8 _
        have f8 : x8 = W.length := by rw [e8, h7, up2_s]; omega
        refine ⟨by omega, by omega, ?_⟩
        intro x11 e11 _
        have f11 : x11 = c := by
          rw [e11, h7, up2_n (by decide), f8]
          exact hW.2.1
        have i7 : IX M7 := by rw [h7]; exact hI.up (by decide) (bx_c185_1.mpr ⟨by omega, by omega⟩)
        rw [f11]
        refine gX2_add (O := O) i7 hk1 bb.1 (fun w => absurd w bb.2.1) (hO.fr (by rw [h7, up2_n (by omega)]) (by rw [h7, up2_n (by omega)]) (by rw [h7, up2_n (by omega)]) (by rw [h7, up2_n (by omega)])) (by omega) ?_
        intro M12 i12 k12 o12
        refine ih _ n M12 i12 ?_ ⟨?_, ?_⟩ o12 (by show W.length + (O.length + 1) ≤ 40; omega) hT' (by omega)
        · have k7 : Ks (kRl k1) M0 M7 := by rw [h7]; exact hK.wr (Or.inl ⟨rfl, rfl⟩)
          exact k7.tr (k12.mono (by intro k j h; omega))
        · rw [k12 185 1 (by omega), h7, up2_s]
          omega
        · rw [show M12 186 = M 186 from by rw [show M12 186 = M7 186 from funext fun j => k12 186 j (by omega), h7, up2_n (by decide)]]
          exact hW.2.2
theorem release_of {k1 : Nat} {p2 : Int} {M : Mem} {Q : Mem → Prop} (h : ∃ n, qX5_release_L0 k1 p2 Q n M) : qX5_release k1 p2 M Q := by
  obtain ⟨n, h⟩ := h
  cases n with
  | zero => rw [qX5_release_L0] at h; exact h.elim
  | succ n =>
    rw [qX5_release_L0] at h
    unfold qX5_release
    intro x1 e1 r1
    refine ⟨(h x1 e1 r1).1, fun c => ?_⟩
    refine fmX5_latestBinding ((h x1 e1 r1).2 c) ?_
    intro x3 M3 _ h3 r3
    refine ⟨(h3 r3).1, fun c2 => ?_⟩
    intro x5 e5 r5
    obtain ⟨a, h4⟩ := (h3 r3).2 c2 x5 e5 r5
    refine ⟨a, ?_⟩
    intro M7 e7 x8 e8 r8
    obtain ⟨a2, a3, h5⟩ := h4 M7 e7 x8 e8 r8
    refine ⟨a2, a3, ?_⟩
    intro x11 e11 r11
    exact fmX2_add (h5 x11 e11 r11) (fun M' _ h6 => ⟨n, h6⟩)
theorem gX5_release {k1 : Nat} {p2 : Int} {M : Mem} {W : List Int} {O : List (Int × Int)} {Q : Mem → Prop} (hI : IX M) (hk1 : isL k1) (hp : 1 ≤ p2) (hW : RWt M W) (hO : ROl k1 M O) (hl : W.length + O.length ≤ 40) (hQ : ∀ M' : Mem, IX M' → Ks (kRl k1) M M' → RWt M' (rls p2 W O).1 → ROl k1 M' (rls p2 W O).2 → Q M') : qX5_release k1 p2 M Q :=
  release_of ⟨W.length + 1, gX5_release_L0 hk1 hp hQ W O _ M hI Ks.rf hW hO hl rfl (by omega)⟩
theorem gX5_hold {p1 : Int} {M : Mem} {W : List Int} {Q : Mem → Prop} (hI : IX M) (hW : RWt M W) (hl : W.length < 40) (hQ : ∀ M' : Mem, IX M' → Ks (fun k j => (k = 185 ∧ j = 1) ∨ k = 186) M M' → RWt M' (p1 :: W) → Q M') : qX5_hold p1 M Q := by
  obtain ⟨h1, h2⟩ := hW
  unfold qX5_hold
  intro x1 e1 _
  refine ⟨fun c => by omega, fun c => ?_⟩
  intro x3 e3 _
  refine ⟨by omega, by omega, ?_⟩
  intro M6 h6 x7 e7 _
  have f7 : x7 = x3 := by rw [e7, h6, up2_n (by decide), e3]
  have hM6 : IX M6 := by rw [h6]; exact hI.up (by decide) (by simp [BX])
  refine ⟨⟨by omega, by omega⟩, ?_⟩
  intro M9 h9
  have k2 : M9 186 = M6 186 := by rw [h9, up2_n (by decide)]
  refine hQ _ (by rw [h9]; exact hM6.up (by decide) (bx_c185_1.mpr ⟨by omega, by omega⟩)) (by rw [h9, h6]; exact (Ks.rf.wr (Or.inr rfl)).wr (Or.inl ⟨rfl, rfl⟩)) ⟨?_, ?_, ?_⟩
  · show M9 185 1 = ((W.length + 1 : Nat) : Int)
    rw [h9, up2_s]
    omega
  · show M9 186 W.length = p1
    rw [k2, h6, show (W.length : Int) = x3 from by omega, up2_s]
  · rw [k2]
    exact h2.cg (fun j p q => by rw [h6, up2_j (by omega)])
/-- the class's state of reading -/
def REP (k : Nat) (M : Mem) (w dp : Int) (W : List Int) (O : List (Int × Int)) (a : Int) : Prop := M 185 3 = w ∧ M 185 2 = dp ∧ RWt M W ∧ ROl k M O ∧ M 156 2 = a
abbrev REPs (k : Nat) (M : Mem) (S : PSt) : Prop := REP k M S.1 S.2.1 S.2.2.1 S.2.2.2.1 S.2.2.2.2
abbrev kRw (k2 : Nat) (k : Nat) (j : Int) : Prop := (k = 156 ∧ j = 2) ∨ k = 185 ∨ k = 186 ∨ (k = k2 ∧ (j = 4 ∨ j = 5)) ∨ k = k2 + 1 ∨ k = k2 + 2
theorem gX5_takeThing {k2 : Nat} {M : Mem} {Q : Int → Mem → Prop} {f : Int → Int} {t dp a : Int} {W : List Int} {O : List (Int × Int)} (hI : IX M) (hk2 : isL k2) (hf : ∀ j, 0 ≤ j → j < t → M 157 j = f j) (ht : M 156 3 = t) (ha : 0 ≤ a ∧ a < t) (hl : W.length + O.length < 40) (hR : REP k2 M 1 dp W O a) (hN : ∀ M' : Mem, IX M' → Ks (kRw k2) M M' → M' 156 2 = a → pst f t (1, dp, W, O, a) = none → Q 0 M') (hY : ∀ (S1 : PSt) (M' : Mem), IX M' → Ks (kRw k2) M M' → pst f t (1, dp, W, O, a) = some S1 → REPs k2 M' S1 → Q 1 M') : qX5_takeThing k2 M Q := by
  have ek2 : k2 = 187 ∨ k2 = 192 := hk2
  obtain ⟨hw, hd, hW, hO, h2⟩ := hR
  have bd := bx_c185_2.mp (hI.bx 185 2)
  have bf : -1 ≤ f a ∧ f a ≤ 255 := by
    have := bx_c157.mp (hI.bx 157 a)
    rw [hf a ha.1 ha.2] at this
    omega
  -- behind a sign that was taken
  have J121 : ∀ (M1 : Mem) (w' dp' : Int) (W' : List Int) (O' : List (Int × Int)), IX M1 → Ks (kRw k2) M M1 → pst f t (1, dp, W, O, a) = some (w', dp', W', O', a + 1) → REP k2 M1 w' dp' W' O' a → qX5_takeThing_J121 k2 Q M1 := by
    intro M1 w' dp' W' O' i1 k1 hs r1
    unfold qX5_takeThing_J121
    refine gX9_pass i1 ?_
    intro M2 i2 k2' p2
    have e3 : M1 156 3 = t := by rw [k1 156 3 (by omega)]; exact ht
    obtain ⟨r3, r4, r5, r6, r7⟩ := r1
    refine hY _ M2 i2 (k1.tr (k2'.mono (by intro k j h; omega))) hs ⟨?_, ?_, ?_, ?_, ?_⟩
    · rw [k2' 185 3 (by omega)]; exact r3
    · rw [k2' 185 2 (by omega)]; exact r4
    · exact r5.fr (k2' 185 1 (by omega)) (funext fun j => k2' 186 j (by omega))
    · exact r6.fr (k2' _ _ (by omega)) (k2' _ _ (by omega)) (funext fun j => k2' _ j (by omega)) (funext fun j => k2' _ j (by omega))
    · show M2 156 2 = a + 1
      omega
  unfold qX5_takeThing
  refine gX9_number (p1 := 3) hI (by omega) ?_
  intro x1 M1 i1 k1 n1 _
  rw [h2, ht] at n1
  obtain ⟨z1, a1⟩ := nm3_q (f := f) n1 (fun j p q => hf j (by omega) q)
  have nb := (nm3_N f t a).b (by decide)
  have K1 : Ks (kRw k2) M M1 := k1.mono (by intro k j h; omega)
  have e3 : M1 156 3 = t := by rw [k1 156 3 (by omega)]; exact ht
  have W1 : RWt M1 W := hW.fr (k1 185 1 (by omega)) (funext fun j => k1 186 j (by omega))
  have O1 : ROl k2 M1 O := hO.fr (k1 _ _ (by omega)) (k1 _ _ (by omega)) (funext fun j => k1 _ j (by omega)) (funext fun j => k1 _ j (by omega))
  have d1 : M1 185 2 = dp := by rw [k1 185 2 (by omega)]; exact hd
  have w1 : M1 185 3 = 1 := by rw [k1 185 3 (by omega)]; exact hw
  refine ⟨fun c => ?_, fun c => ?_⟩
  · have zn : (nm3 f t a).1 < 0 := by omega
    have aa : M1 156 2 = a := by rw [a1]; exact nb.2.2.2.2.2.2.2 zn
    refine gX9_look i1 ?_
    intro x3 p3 _
    rw [aa, e3] at p3
    have f3 : x3 = f a := by
      rcases p3 with q | q
      · rw [q.2, k1 157 a (by omega)]; exact hf a ha.1 ha.2
      · omega
    have J83 : f a ≠ 45 → ¬ (f a = 40 ∧ dp < 4) → qX5_takeThing_J83 k2 Q x3 M1 := by
      intro n45 n40
      unfold qX5_takeThing_J83
      have b3 : 0 ≤ f a := by
        have := bx_c157.mp (hI.bx 157 a)
        rw [hf a ha.1 ha.2] at this
        omega
      refine ⟨⟨by omega, by omega⟩, ⟨fun _ => ⟨by omega, by omega, ?_⟩, fun q => by omega⟩⟩
      intro x10 e10 r10
      rw [f3] at e10
      have f10 := ixS_0 (f a)
      rw [← e10] at f10
      unfold qX5_takeThing_J101
      refine ⟨r10, ⟨fun q => ?_, fun q => ?_⟩⟩
      · refine gX2_addLetter (O := O) i1 hk2 (by omega) O1 (by omega) ?_
        intro M13 i13 k13 o13 M14 h14
        have i14 : IX M14 := by rw [h14]; exact i13.up (by decide) (by simp [BX])
        have hs := pst_4 (f := f) (t := t) (dp := dp) (a := a) (W := W) (O := O) zn n45 n40 (by omega)
        rw [← e10] at hs
        have K14 : Ks (kRw k2) M M14 := by rw [h14]; exact (K1.tr (k13.mono (by intro k j h; omega))).wr (by omega)
        refine J121 M14 _ _ _ _ i14 K14 hs ⟨by rw [h14, up2_s], ?_, ?_, ?_, ?_⟩
        · rw [h14, up2_j (by decide), k13 185 2 (by omega)]; exact d1
        · exact W1.fr (by rw [h14, up2_j (by decide), k13 185 1 (by omega)]) (by rw [h14, up2_n (by decide)]; exact funext fun j => k13 186 j (by omega))
        · exact o13.fr (by rw [h14, up2_n (by omega)]) (by rw [h14, up2_n (by omega)]) (by rw [h14, up2_n (by omega)]) (by rw [h14, up2_n (by omega)])
        · rw [h14, up2_n (by decide), k13 156 2 (by omega)]; exact aa
      · exact hN M1 i1 K1 aa (pst_5 zn n45 n40 (by omega))
    refine ⟨fun c3 => ⟨fun c4 => J83 (by omega) (by omega), fun c4 => ?_⟩, fun c3 => ?_⟩
    · intro x16 e16 _
      refine ⟨fun c5 => J83 (by omega) (by omega), fun c5 => ?_⟩
      intro x18 e18 _
      refine ⟨⟨by omega, by omega⟩, ?_⟩
      intro M20 h20
      have i20 : IX M20 := by rw [h20]; exact i1.up (by decide) (bx_c185_2.mpr ⟨by omega, by omega⟩)
      refine gX5_hold (W := W) i20 (W1.fr (by rw [h20, up2_j (by decide)]) (by rw [h20, up2_n (by decide)])) (by omega) ?_
      intro M21 i21 k21 w21
      have hs := pst_3 (f := f) (t := t) (dp := dp) (a := a) (W := W) (O := O) (by omega) (by omega)
      have K20 : Ks (kRw k2) M M20 := by rw [h20]; exact K1.wr (by omega)
      rw [c4] at w21
      refine J121 M21 _ _ _ _ i21 (K20.tr (k21.mono (by intro k j h; omega))) hs ⟨?_, ?_, w21, ?_, ?_⟩
      · rw [k21 185 3 (by omega), h20, up2_j (by decide)]; exact w1
      · rw [k21 185 2 (by omega), h20, up2_s]; omega
      · exact O1.fr (by rw [k21 _ _ (by omega), h20, up2_n (by omega)]) (by rw [k21 _ _ (by omega), h20, up2_n (by omega)]) (by rw [show M21 (k2 + 1) = M20 (k2 + 1) from funext fun j => k21 _ j (by omega), h20, up2_n (by omega)]) (by rw [show M21 (k2 + 2) = M20 (k2 + 2) from funext fun j => k21 _ j (by omega), h20, up2_n (by omega)])
      · rw [k21 156 2 (by omega), h20, up2_n (by decide)]; exact aa
    · refine gX5_hold (W := W) i1 W1 (by omega) ?_
      intro M22 i22 k22 w22
      have hs := pst_2 (f := f) (t := t) (dp := dp) (a := a) (W := W) (O := O) (by omega)
      refine J121 M22 _ _ _ _ i22 (K1.tr (k22.mono (by intro k j h; omega))) hs ⟨?_, ?_, w22, ?_, ?_⟩
      · rw [k22 185 3 (by omega)]; exact w1
      · rw [k22 185 2 (by omega)]; exact d1
      · exact O1.fr (k22 _ _ (by omega)) (k22 _ _ (by omega)) (funext fun j => k22 _ j (by omega)) (funext fun j => k22 _ j (by omega))
      · rw [k22 156 2 (by omega)]; exact aa
  · have zp : 0 ≤ (nm3 f t a).1 := by omega
    refine gX2_add (O := O) i1 hk2 (Or.inl ⟨rfl, by omega, by omega⟩) (fun w => absurd w (by decide)) O1 (by omega) ?_
    intro M23 i23 k23 o23 M24 h24
    have i24 : IX M24 := by rw [h24]; exact i23.up (by decide) (by simp [BX])
    have hs := pst_1 (f := f) (t := t) (dp := dp) (a := a) (W := W) (O := O) zp
    rw [z1] at o23
    refine hY _ M24 i24 (by rw [h24]; exact (K1.tr (k23.mono (by intro k j h; omega))).wr (by omega)) hs ⟨by rw [h24, up2_s], ?_, ?_, ?_, ?_⟩
    · rw [h24, up2_j (by decide), k23 185 2 (by omega)]; exact d1
    · exact W1.fr (by rw [h24, up2_j (by decide), k23 185 1 (by omega)]) (by rw [h24, up2_n (by decide)]; exact funext fun j => k23 186 j (by omega))
    · exact o23.fr (by rw [h24, up2_n (by omega)]) (by rw [h24, up2_n (by omega)]) (by rw [h24, up2_n (by omega)]) (by rw [h24, up2_n (by omega)])
    · rw [h24, up2_n (by decide), k23 156 2 (by omega)]; exact a1
end
section
/-! THE RULE'S TEXT: the class reads it to its end -/
def c40 : List Int → Int
  | [] => 0
  | c :: W => c40 W + (if c = 40 then 1 else 0)
theorem c40_rls {b : Int} (hb : 1 ≤ b) : ∀ (W : List Int) (O : List (Int × Int)), c40 (rls b W O).1 = c40 W
  | [], _ => rfl
  | c :: W, O => by
    show c40 (if bnd c < b then (c :: W, O) else rls b W ((c, 0) :: O)).1 = c40 W + (if c = 40 then 1 else 0)
    by_cases d : bnd c < b
    · rw [if_pos d]; rfl
    · rw [if_neg d, c40_rls hb W, if_neg ((bnd_b c).2.2 (by omega)).2.2]
      omega
theorem c40_tl (W : List Int) : c40 W - 1 ≤ c40 W.tail := by
  cases W with
  | nil => show (0 : Int) - 1 ≤ 0; decide
  | cons c W =>
    show c40 W + (if c = 40 then 1 else 0) - 1 ≤ c40 W
    split <;> omega
theorem c40_c (c : Int) (W : List Int) : c40 W ≤ c40 (c :: W) := by
  show c40 W ≤ c40 W + (if c = 40 then 1 else 0)
  split <;> omega
theorem pst_c {f : Int → Int} {t w dp a : Int} {W : List Int} {O : List (Int × Int)} {S1 : PSt} (hc : dp ≤ c40 W) (h : pst f t (w, dp, W, O, a) = some S1) : S1.2.1 ≤ c40 S1.2.2.1 := by
  by_cases cw : w = 1
  · subst cw
    by_cases c1 : 0 ≤ (nm3 f t a).1
    · rw [pst_1 c1] at h
      have e := Option.some.inj h
      subst e
      exact hc
    · by_cases c2 : f a = 45
      · rw [pst_2 c2] at h
        have e := Option.some.inj h
        subst e
        show dp ≤ c40 (302 :: W)
        have := c40_c 302 W
        omega
      · by_cases c3 : f a = 40 ∧ dp < 4
        · rw [pst_3 c3.1 c3.2] at h
          have e := Option.some.inj h
          subst e
          show dp + 1 ≤ c40 W + (if (40 : Int) = 40 then 1 else 0)
          rw [if_pos rfl]
          omega
        · by_cases c4 : 0 ≤ ixS (bS 0) (f a)
          · rw [pst_4 (by omega) c2 c3 c4] at h
            have e := Option.some.inj h
            subst e
            exact hc
          · rw [pst_5 (by omega) c2 c3 (by omega)] at h
            cases h
  · by_cases c1 : f a = 41 ∧ 0 < dp
    · rw [pst_6 cw c1.1 c1.2] at h
      have e := Option.some.inj h
      subst e
      show dp - 1 ≤ c40 (rls 1 W O).1.tail
      have := c40_tl (rls 1 W O).1
      rw [c40_rls (by decide)] at this
      omega
    · by_cases c2 : bnd (f a) = 1
      · by_cases c3 : lbd (rls 2 W O).1 = 1
        · rw [pst_7 cw c2 c3] at h
          cases h
        · rw [pst_8 cw c2 c3] at h
          have e := Option.some.inj h
          subst e
          show dp ≤ c40 (f a :: (rls 2 W O).1)
          have := c40_c (f a) (rls 2 W O).1
          rw [c40_rls (by decide)] at this
          omega
      · by_cases c3 : 1 < bnd (f a)
        · rw [pst_9 cw c3] at h
          have e := Option.some.inj h
          subst e
          show dp ≤ c40 (f a :: (rls (bnd (f a)) W O).1)
          have := c40_c (f a) (rls (bnd (f a)) W O).1
          rw [c40_rls (by omega)] at this
          omega
        · rw [pst_0 cw c1 (by omega)] at h
          cases h
theorem gX5_takeSign {k2 : Nat} {M : Mem} {Q : Int → Mem → Prop} {f : Int → Int} {t dp a : Int} {W : List Int} {O : List (Int × Int)} (hI : IX M) (hk2 : isL k2) (hf : ∀ j, 0 ≤ j → j < t → M 157 j = f j) (ht : M 156 3 = t) (ha : 0 ≤ a ∧ a < t) (hl : W.length + O.length < 40) (hc : dp ≤ c40 W) (hR : REP k2 M 0 dp W O a) (hN : ∀ M' : Mem, IX M' → Ks (kRw k2) M M' → M' 156 2 = a → pst f t (0, dp, W, O, a) = none → Q 0 M') (hY : ∀ (S1 : PSt) (M' : Mem), IX M' → Ks (kRw k2) M M' → pst f t (0, dp, W, O, a) = some S1 → REPs k2 M' S1 → Q 1 M') : qX5_takeSign k2 M Q := by
  have ek2 : k2 = 187 ∨ k2 = 192 := hk2
  obtain ⟨hw, hd, hW, hO, h2⟩ := hR
  have bd := bx_c185_2.mp (hI.bx 185 2)
  have n01 : (0 : Int) ≠ 1 := by decide
  have J116 : ∀ (M1 : Mem) (w' dp' : Int) (W' : List Int) (O' : List (Int × Int)), IX M1 → Ks (kRw k2) M M1 → pst f t (0, dp, W, O, a) = some (w', dp', W', O', a + 1) → REP k2 M1 w' dp' W' O' a → qX5_takeSign_J116 k2 Q M1 := by
    intro M1 w' dp' W' O' i1 k1 hs r1
    unfold qX5_takeSign_J116
    refine gX9_pass i1 ?_
    intro M2 i2 k2' p2
    have e3 : M1 156 3 = t := by rw [k1 156 3 (by omega)]; exact ht
    obtain ⟨r3, r4, r5, r6, r7⟩ := r1
    refine hY _ M2 i2 (k1.tr (k2'.mono (by intro k j h; omega))) hs ⟨?_, ?_, ?_, ?_, ?_⟩
    · rw [k2' 185 3 (by omega)]; exact r3
    · rw [k2' 185 2 (by omega)]; exact r4
    · exact r5.fr (k2' 185 1 (by omega)) (funext fun j => k2' 186 j (by omega))
    · exact r6.fr (k2' _ _ (by omega)) (k2' _ _ (by omega)) (funext fun j => k2' _ j (by omega)) (funext fun j => k2' _ j (by omega))
    · show M2 156 2 = a + 1
      omega
  -- a sign that is held
  have HOLD : ∀ (M7 : Mem) (b : Int), 1 ≤ b → IX M7 → Ks (kRl k2) M M7 → RWt M7 (rls b W O).1 → ROl k2 M7 (rls b W O).2 → pst f t (0, dp, W, O, a) = some (1, dp, f a :: (rls b W O).1, (rls b W O).2, a + 1) → qX5_hold (f a) M7 (fun (M9 : Mem) => (∀ M10 : Mem, M10 = up2 M9 185 3 1 → (qX5_takeSign_J116 k2 Q M10))) := by
    intro M7 b hb i7 k7 w7 o7 hs
    have ll := rls_len b W O
    refine gX5_hold i7 w7 (by omega) ?_
    intro M9 i9 k9 w9 M10 h10
    have i10 : IX M10 := by rw [h10]; exact i9.up (by decide) (by simp [BX])
    have K9 : Ks (kRw k2) M M9 := (k7.mono (by intro k j h; omega)).tr (k9.mono (by intro k j h; omega))
    refine J116 M10 _ _ _ _ i10 (by rw [h10]; exact K9.wr (by omega)) hs ⟨by rw [h10, up2_s], ?_, ?_, ?_, ?_⟩
    · rw [h10, up2_j (by decide), k9 185 2 (by omega), k7 185 2 (by omega)]; exact hd
    · exact w9.fr (by rw [h10, up2_j (by decide)]) (by rw [h10, up2_n (by decide)])
    · exact o7.fr (by rw [h10, up2_n (by omega), k9 _ _ (by omega)]) (by rw [h10, up2_n (by omega), k9 _ _ (by omega)]) (by rw [h10, up2_n (by omega)]; exact funext fun j => k9 _ j (by omega)) (by rw [h10, up2_n (by omega)]; exact funext fun j => k9 _ j (by omega))
    · rw [h10, up2_n (by decide), k9 156 2 (by omega), k7 156 2 (by omega)]; exact h2
  unfold qX5_takeSign
  refine gX9_look hI ?_
  intro x1 p1 r1
  rw [h2, ht] at p1
  have f1 : x1 = f a := by
    rcases p1 with q | q
    · rw [q.2]; exact hf a ha.1 ha.2
    · omega
  rw [f1] at r1 ⊢
  refine gX5_bindingOf ?_
  intro rb
  have bb := bnd_b (f a)
  have J53 : ¬ (f a = 41 ∧ 0 < dp) → qX5_takeSign_J53 k2 Q (f a) (bnd (f a)) M := by
    intro n41
    unfold qX5_takeSign_J53
    refine ⟨rb, ⟨fun c => ⟨fun c2 => ?_, fun c2 => ?_⟩, fun c => ?_⟩⟩
    · exact hN M hI Ks.rf h2 (pst_0 n01 n41 (by omega))
    · refine gX5_release hI hk2 (by omega) hW hO (by omega) ?_
      intro M7 i7 k7 w7 o7
      exact ⟨r1, HOLD M7 _ (by omega) i7 k7 w7 o7 (pst_9 n01 (by omega))⟩
    · refine gX5_release hI hk2 (by decide) hW hO (by omega) ?_
      intro M12 i12 k12 w12 o12
      have ll := rls_len 2 W O
      refine gX5_latestBinding w12 (by omega) ?_
      intro rl
      refine ⟨fun c3 => ⟨r1, HOLD M12 2 (by decide) i12 k12 w12 o12 (pst_8 n01 c c3)⟩, fun c3 => ?_⟩
      exact hN M12 i12 (k12.mono (by intro k j h; omega)) (by rw [k12 156 2 (by omega)]; exact h2) (pst_7 n01 c c3)
  refine ⟨fun c => J53 (fun q => c q.1), fun c => ?_⟩
  intro x18 e18 _
  refine ⟨fun c2 => J53 (fun q => by omega), fun c2 => ?_⟩
  refine gX5_release hI hk2 (by decide) hW hO (by omega) ?_
  intro M20 i20 k20 w20 o20
  have hs := pst_6 (f := f) (t := t) (w := 0) (dp := dp) (a := a) (W := W) (O := O) n01 c (by omega)
  have hc2 : 1 ≤ c40 (rls 1 W O).1 := by rw [c40_rls (by decide)]; omega
  have w1 := w20.1
  have ll := rls_len 1 W O
  intro x21 e21 _
  refine ⟨⟨by omega, by omega⟩, ?_⟩
  intro M23 h23 x24 e24 _
  have f24 : x24 = dp := by rw [e24, h23, up2_j (by decide), k20 185 2 (by omega)]; exact hd
  refine ⟨⟨by omega, by omega⟩, ?_⟩
  intro M26 h26
  have TL : M26 185 1 = ((rls 1 W O).1.tail.length : Int) ∧ SK (M26 186) (rls 1 W O).1.tail ∧ 1 ≤ x21 := by
    have e186 : M26 186 = M20 186 := by rw [h26, up2_n (by decide), h23, up2_n (by decide)]
    have e1 : M26 185 1 = x21 - 1 := by rw [h26, up2_j (by decide), h23, up2_s]
    rw [e1, e186]
    cases hh : (rls 1 W O).1 with
    | nil =>
      rw [hh] at hc2
      exact absurd hc2 (by decide)
    | cons c' W' =>
      rw [hh] at w20 w1
      have l : ((c' :: W').length : Int) = W'.length + 1 := by show ((W'.length + 1 : Nat) : Int) = _; omega
      refine ⟨?_, w20.2.2, by omega⟩
      show x21 - 1 = (W'.length : Int)
      omega
  have i23 : IX M23 := by rw [h23]; exact i20.up (by decide) (bx_c185_1.mpr ⟨by omega, by omega⟩)
  have i26 : IX M26 := by rw [h26]; exact i23.up (by decide) (bx_c185_2.mpr ⟨by omega, by omega⟩)
  refine J116 M26 _ _ _ _ i26 ?_ hs ⟨?_, ?_, ⟨TL.1, TL.2.1⟩, ?_, ?_⟩
  · rw [h26, h23]
    exact ((k20.mono (by intro k j h; omega)).wr (by omega)).wr (by omega)
  · rw [h26, up2_j (by decide), h23, up2_j (by decide), k20 185 3 (by omega)]; exact hw
  · rw [h26, up2_s, f24]
  · exact o20.fr (by rw [h26, up2_n (by omega), h23, up2_n (by omega)]) (by rw [h26, up2_n (by omega), h23, up2_n (by omega)]) (by rw [h26, up2_n (by omega), h23, up2_n (by omega)]) (by rw [h26, up2_n (by omega), h23, up2_n (by omega)])
  · rw [h26, up2_n (by decide), h23, up2_n (by decide), k20 156 2 (by omega)]; exact h2
theorem pst_w {f : Int → Int} {t : Int} {S S1 : PSt} (h : pst f t S = some S1) : S1.1 = 0 ∨ S1.1 = 1 := by
  obtain ⟨w, dp, W, O, a⟩ := S
  rw [pst] at h
  repeat' split at h
  all_goals first
    | (have e := Option.some.inj h; subst e; first | exact Or.inl rfl | exact Or.inr rfl)
    | cases h
theorem gX5_read_L40 {k2 : Nat} {X92 : Mem → Prop} {Q : Int → Mem → Prop} {f : Int → Int} {t : Int} {M0 : Mem} {T : PSt} (hk2 : isL k2) (hf : ∀ j, 0 ≤ j → j < t → M0 157 j = f j) (ht : M0 156 3 = t) (ht4 : t ≤ 40) (hX : t ≤ T.2.2.2.2 → ∀ M' : Mem, IX M' → Ks (kRw k2) M0 M' → REPs k2 M' T → X92 M') (hQ : T.2.2.2.2 < t → ∀ M' : Mem, IX M' → Ks (kRw k2) M0 M' → M' 156 2 = T.2.2.2.2 → Q T.2.2.2.2 M') : ∀ (n : Nat) (v3 : Int) (M : Mem) (S : PSt), IX M → Ks (kRw k2) M0 M → REPs k2 M S → pru f t n S = T → (S.1 = 0 ∨ S.1 = 1) → S.2.1 ≤ c40 S.2.2.1 → (S.2.2.1.length : Int) + S.2.2.2.1.length ≤ S.2.2.2.2 → (0 ≤ v3 ∧ v3 ≤ S.2.2.2.2) → S.2.2.2.2 ≤ t → t - S.2.2.2.2 ≤ n → qX5_read_L40 k2 X92 Q (n + 1) v3 M := by
  intro n
  induction n with
  | zero =>
    intro v3 M S hI hK hR hT hw hc hl hv ha hn
    rw [qX5_read_L40]
    have e : S = T := hT
    have fin : X92 M := hX (by rw [← e]; omega) M hI hK (by rw [← e]; exact hR)
    refine ⟨⟨by omega, by omega⟩, ⟨fun _ => fin, fun c => ?_⟩⟩
    unfold qX9_isRead
    intro x1 e1 _ x2 e2 _
    have h2 := hR.2.2.2.2
    have e3 : M 156 3 = t := by rw [hK 156 3 (by rcases hk2 with rfl | rfl <;> omega)]; exact ht
    refine ⟨fun c => by omega, fun c => ?_⟩
    intro _ _
    exact ⟨fun _ => fin, fun c2 => absurd c2 (by decide)⟩
  | succ n ih =>
    intro v3 M S hI hK hR hT hw hc hl hv ha hn
    obtain ⟨w, dp, W, O, a⟩ := S
    have hR' : REP k2 M w dp W O a := hR
    have hw' : w = 0 ∨ w = 1 := hw
    have hc' : dp ≤ c40 W := hc
    have hl' : (W.length : Int) + O.length ≤ a := hl
    have hv' : 0 ≤ v3 ∧ v3 ≤ a := hv
    have ha' : a ≤ t := ha
    have hn' : t - a ≤ ((n + 1 : Nat) : Int) := hn
    have h2 : M 156 2 = a := hR'.2.2.2.2
    have e3 : M 156 3 = t := by rw [hK 156 3 (by rcases hk2 with rfl | rfl <;> omega)]; exact ht
    have hf' : ∀ j, 0 ≤ j → j < t → M 157 j = f j := fun j p q => by rw [hK 157 j (by rcases hk2 with rfl | rfl <;> omega)]; exact hf j p q
    rw [qX5_read_L40]
    have fin : t ≤ a → X92 M := by
      intro q
      have e : (w, dp, W, O, a) = T := by rw [← hT]; exact (pru_s (S := (w, dp, W, O, a)) (Or.inl q)).symm
      exact hX (by rw [← e]; exact q) M hI hK (by rw [← e]; exact hR)
    refine ⟨⟨by omega, by omega⟩, ⟨fun c => fin (by omega), fun c => ?_⟩⟩
    unfold qX9_isRead
    intro x1 e1 _ x2 e2 _
    refine ⟨fun c2 => ?_, fun c2 => ?_⟩
    · intro _ _
      refine ⟨fun c3 => absurd rfl c3, fun _ => ?_⟩
      have NO : ∀ M' : Mem, IX M' → Ks (kRw k2) M M' → M' 156 2 = a → pst f t (w, dp, W, O, a) = none → ∀ x : Int, x = M' 156 2 → Q x M' := by
        intro M' i' k' a' hn x ex
        have e : (w, dp, W, O, a) = T := by rw [← hT]; exact (pru_s (S := (w, dp, W, O, a)) (Or.inr hn)).symm
        have q := hQ (by rw [← e]; show a < t; omega) M' i' (hK.tr k') (by rw [← e]; exact a')
        rw [← e] at q
        rw [ex, a']
        exact q
      have YES : ∀ (S1 : PSt) (M' : Mem), IX M' → Ks (kRw k2) M M' → pst f t (w, dp, W, O, a) = some S1 → REPs k2 M' S1 → qX5_read_L40 k2 X92 Q (n + 1) (v3 + 1) M' := by
        intro S1 M' i' k' hs r'
        have b := pst_b (show a < t by omega) hs
        have c := pst_c hc' hs
        refine ih (v3 + 1) M' S1 i' (hK.tr k') r' ?_ (pst_w hs) c (by omega) (by omega) b.2.1 (by omega)
        rw [← hT]
        exact (pru_n (S := (w, dp, W, O, a)) (show a < t by omega) hs).symm
      intro x12 e12 _
      have f12 : x12 = w := by rw [e12]; exact hR'.1
      refine ⟨fun c3 => ?_, fun c3 => ?_⟩
      · have w0 : w = 0 := by omega
        rw [w0] at hR' NO YES
        refine gX5_takeSign hI hk2 hf' e3 (by omega) (by omega) hc' hR' ?_ ?_
        · intro M' i' k' a' hn _ _
          refine ⟨fun q => absurd rfl q, fun _ => ?_⟩
          intro x16 e16 _
          exact NO M' i' k' a' hn x16 e16
        · intro S1 M' i' k' hs r' _ _
          exact ⟨fun _ => YES S1 M' i' k' hs r', fun q => absurd q (by decide)⟩
      · have w0 : w = 1 := by omega
        rw [w0] at hR' NO YES
        refine gX5_takeThing hI hk2 hf' e3 (by omega) (by omega) hR' ?_ ?_
        · intro M' i' k' a' hn _ _
          refine ⟨fun _ => ?_, fun q => absurd rfl q⟩
          intro x19 e19 _
          exact NO M' i' k' a' hn x19 e19
        · intro S1 M' i' k' hs r' _ _
          exact ⟨fun q => absurd q (by decide), fun _ => YES S1 M' i' k' hs r'⟩
    · intro _ _
      exact ⟨fun _ => fin (by omega), fun c3 => absurd c3 (by decide)⟩
/-- where the text of len signs f ends up; what the class says of it; its law -/
def rlS (f : Int → Int) (len : Int) : PSt := pru f (min len 40) 40 (1, 0, [], [], 0)
def rlz (f : Int → Int) (len : Int) : Int := if len = 0 then -1 else if (rlS f len).2.2.2.2 < min len 40 ∨ (rlS f len).1 = 1 ∨ 0 < (rlS f len).2.1 ∨ 40 < len then (rlS f len).2.2.2.2 else -1
def plO : List (Int × Int) := [(43, 0), (62, 0), (300, 2), (301, 1), (300, 1)]
def rlO (f : Int → Int) (len : Int) : List (Int × Int) := if len = 0 then plO else (rls 1 (rlS f len).2.2.1 (rlS f len).2.2.2.1).2
theorem pru_b {f : Int → Int} {t : Int} : ∀ (n : Nat) (S : PSt), S.2.2.2.2 ≤ t → (S.1 = 0 ∨ S.1 = 1) → (S.2.2.1.length : Int) + S.2.2.2.1.length ≤ S.2.2.2.2 → S.2.2.2.2 ≤ (pru f t n S).2.2.2.2 ∧ (pru f t n S).2.2.2.2 ≤ t ∧ ((pru f t n S).1 = 0 ∨ (pru f t n S).1 = 1) ∧ ((pru f t n S).2.2.1.length : Int) + (pru f t n S).2.2.2.1.length ≤ (pru f t n S).2.2.2.2
  | 0, S, h, h2, h3 => ⟨Int.le_refl _, h, h2, h3⟩
  | n + 1, (w, dp, W, O, a), h, h2, h3 => by
    have h' : a ≤ t := h
    have h3' : (W.length : Int) + O.length ≤ a := h3
    by_cases c : a < t
    · cases hs : pst f t (w, dp, W, O, a) with
      | none =>
        rw [pru_s (Or.inr hs)]
        exact ⟨Int.le_refl _, h, h2, h3⟩
      | some S1 =>
        rw [pru_n (S := (w, dp, W, O, a)) c hs]
        have b := pst_b c hs
        have i := pru_b (f := f) n S1 b.2.1 (pst_w hs) (by omega)
        refine ⟨?_, i.2⟩
        show a ≤ _
        omega
    · rw [pru_s (Or.inl (show t ≤ a by omega))]
      exact ⟨Int.le_refl _, h, h2, h3⟩
theorem rlS_b {f : Int → Int} {len : Int} (h : 0 ≤ len) : 0 ≤ (rlS f len).2.2.2.2 ∧ (rlS f len).2.2.2.2 ≤ min len 40 ∧ ((rlS f len).1 = 0 ∨ (rlS f len).1 = 1) ∧ ((rlS f len).2.2.1.length : Int) + (rlS f len).2.2.2.1.length ≤ (rlS f len).2.2.2.2 := by
  have := pru_b (f := f) (t := min len 40) 40 (1, 0, [], [], 0) (show (0 : Int) ≤ min len 40 by omega) (Or.inr rfl) (show ((0 : Nat) : Int) + ((0 : Nat) : Int) ≤ 0 by decide)
  exact this
theorem gX2_plain {k0 : Nat} {M : Mem} {Q : Mem → Prop} (hI : IX M) (hk0 : isL k0) (hQ : ∀ M' : Mem, IX M' → Ks (kAl k0) M M' → ROl k0 M' plO → Q M') : qX2_becomePlain k0 M Q := by
  have ek0 : k0 = 187 ∨ k0 = 192 := hk0
  unfold qX2_becomePlain qX2_clear
  intro M1 h1 M2 h2
  have i1 : IX M1 := by rw [h1]; exact hI.up (isL.nsp0 hk0) ((bx_l4 hk0).mpr ⟨by omega, by omega⟩)
  have i2 : IX M2 := by rw [h2]; exact i1.up (isL.nsp0 hk0) (bx_lf0 hk0 (by decide))
  have k2 : Ks (kAl k0) M M2 := by rw [h2, h1]; exact (Ks.rf.wr (by omega)).wr (by omega)
  have o2 : ROl k0 M2 [] := ⟨by rw [h2, up2_j (by decide), h1, up2_s]; rfl, trivial⟩
  refine gX2_add i2 hk0 (Or.inl ⟨rfl, by decide, by decide⟩) (fun w => absurd w (by decide)) o2 (by decide) ?_
  intro M3 i3 k3 o3
  refine gX2_addLetter i3 hk0 (by decide) o3 (by decide) ?_
  intro M4 i4 k4 o4
  refine gX2_add i4 hk0 (Or.inl ⟨rfl, by decide, by decide⟩) (fun w => absurd w (by decide)) o4 (by decide) ?_
  intro M5 i5 k5 o5
  refine gX2_add i5 hk0 (Or.inr (Or.inr (Or.inr (Or.inr (Or.inl rfl))))) (fun w => absurd w (by decide)) o5 (by decide) ?_
  intro M6 i6 k6 o6
  refine gX2_add i6 hk0 (Or.inr (Or.inr (Or.inr (Or.inr (Or.inr (Or.inr (Or.inl rfl))))))) (fun w => absurd w (by decide)) o6 (by decide) ?_
  intro M7 i7 k7 o7
  have K3 := k2.tr (k3.mono (by intro k j h; omega))
  have K5 := (K3.tr k4).tr (k5.mono (by intro k j h; omega))
  have K7 := (K5.tr (k6.mono (by intro k j h; omega))).tr (k7.mono (by intro k j h; omega))
  exact hQ M7 i7 K7 o7
theorem gX5_read {k2 : Nat} {M : Mem} {Q : Int → Mem → Prop} {f : Int → Int} (hI : IX M) (hk2 : isL k2) (hf : ∀ j, 0 ≤ j → j < M 156 1 → M 157 j = f j) (hQ : ∀ M' : Mem, IX M' → (rlz f (M 156 1) = -1 → ROl k2 M' (rlO f (M 156 1))) → Q (rlz f (M 156 1)) M') : qX5_read k2 M Q := by
  have ek2 : k2 = 187 ∨ k2 = 192 := hk2
  have bL := bx_c156_1.mp (hI.bx 156 1)
  unfold qX5_read qX9_isEmpty
  intro x1 e1 _
  refine ⟨fun c => ?_, fun c => ?_⟩
  · intro _ _
    refine ⟨fun _ => ?_, fun q => absurd rfl q⟩
    have len0 : M 156 1 ≠ 0 := by omega
    unfold qX2_clear
    intro M2 h2 M3 h3 M4 h4 M5 h5 M6 h6
    have i2 : IX M2 := by rw [h2]; exact hI.up (isL.nsp0 hk2) ((bx_l4 hk2).mpr ⟨by omega, by omega⟩)
    have i3 : IX M3 := by rw [h3]; exact i2.up (isL.nsp0 hk2) (bx_lf0 hk2 (by decide))
    have i4 : IX M4 := by rw [h4]; exact i3.up (by decide) (bx_c185_1.mpr (by decide))
    have i5 : IX M5 := by rw [h5]; exact i4.up (by decide) (bx_c185_2.mpr (by decide))
    have i6 : IX M6 := by rw [h6]; exact i5.up (by decide) (by simp [BX])
    have K6 : Ks (fun k j => (k = k2 ∧ (j = 4 ∨ j = 5)) ∨ k = 185) M M6 := by
      rw [h6, h5, h4, h3, h2]
      exact ((((Ks.rf.wr (by omega)).wr (by omega)).wr (by omega)).wr (by omega)).wr (by omega)
    refine gX9_open (p1 := 40) i6 (by decide) ?_
    intro M7 i7 k7 a7 s7
    rw [K6 156 1 (by omega)] at s7
    have sb := rlS_b (f := f) bL.1
    have K7 : Ks (fun k j => (k = k2 ∧ (j = 4 ∨ j = 5)) ∨ k = 185 ∨ (k = 156 ∧ (j = 2 ∨ j = 3))) M M7 := (K6.mono (by intro k j h; omega)).tr (k7.mono (by intro k j h; omega))
    have r7 : REPs k2 M7 (1, 0, [], [], 0) := by
      refine ⟨?_, ?_, ⟨?_, trivial⟩, ⟨?_, trivial⟩, a7⟩
      · rw [k7 185 3 (by omega), h6, up2_s]
      · rw [k7 185 2 (by omega), h6, up2_j (by decide), h5, up2_s]
      · rw [k7 185 1 (by omega), h6, up2_j (by decide), h5, up2_j (by decide), h4, up2_s]
        rfl
      · rw [k7 k2 4 (by omega), h6, up2_n (by omega), h5, up2_n (by omega), h4, up2_n (by omega), h3, up2_j (by decide), h2, up2_s]
        rfl
    have ez : rlz f (M 156 1) = if (rlS f (M 156 1)).2.2.2.2 < min (M 156 1) 40 ∨ (rlS f (M 156 1)).1 = 1 ∨ 0 < (rlS f (M 156 1)).2.1 ∨ 40 < M 156 1 then (rlS f (M 156 1)).2.2.2.2 else -1 := by
      unfold rlz
      rw [if_neg len0]
    refine ⟨41, gX5_read_L40 (f := f) (M0 := M7) (T := rlS f (M 156 1)) hk2 (fun j p q => by rw [K7 157 j (by omega)]; exact hf j p (by omega)) s7 (by omega) ?_ ?_ 40 _ _ _ i7 Ks.rf r7 rfl (Or.inr rfl) (Int.le_refl _) (show ((0 : Nat) : Int) + ((0 : Nat) : Int) ≤ 0 by decide) ⟨Int.le_refl _, Int.le_refl _⟩ (show (0 : Int) ≤ min (M 156 1) 40 by omega) (show min (M 156 1) 40 - 0 ≤ ((40 : Nat) : Int) by omega)⟩
    · intro hge M8 i8 k8 r8
      obtain ⟨r3, r2, rW, rO, ra⟩ := r8
      have BAD : ∀ (x : Int), x = M8 156 2 → ((rlS f (M 156 1)).1 = 1 ∨ 0 < (rlS f (M 156 1)).2.1 ∨ 40 < M 156 1) → Q x M8 := by
        intro x ex hb
        have := hQ M8 i8
        rw [ez, if_pos (Or.inr hb)] at this
        rw [ex, ra]
        exact this (fun q => by omega)
      unfold qX5_read_J92
      intro x21 e21 _
      refine ⟨fun c1 => fun x23 e23 _ => BAD _ e23 (Or.inl (by omega)), fun c1 => ?_⟩
      intro x24 e24 _
      refine ⟨fun c2 => fun x26 e26 _ => BAD _ e26 (Or.inr (Or.inl (by omega))), fun c2 => ?_⟩
      have l8 : M8 156 1 = M 156 1 := by rw [k8 156 1 (by omega), K7 156 1 (by omega)]
      unfold qX9_isWhole
      intro y1 f1 _ y2 f2 _
      refine ⟨fun c3 => ?_, fun c3 => ?_⟩
      · intro _ _
        refine ⟨fun q => absurd rfl q, fun _ => fun x30 e30 _ => BAD _ e30 (Or.inr (Or.inr (by omega)))⟩
      · intro _ _
        refine ⟨fun _ => ?_, fun q => absurd q (by decide)⟩
        refine gX5_release i8 hk2 (by decide) rW rO (by omega) ?_
        intro M29 i29 k29 w29 o29
        have := hQ M29 i29
        rw [ez, if_neg (by omega)] at this
        refine this (fun _ => ?_)
        unfold rlO
        rw [if_neg len0]
        exact o29
    · intro hlt M8 i8 k8 a8
      have := hQ M8 i8
      rw [ez, if_pos (Or.inl hlt)] at this
      exact this (fun q => by omega)
  · intro _ _
    refine ⟨fun q => absurd q (by decide), fun _ => ?_⟩
    refine gX2_plain hI hk2 ?_
    intro M31 i31 k31 o31
    have := hQ M31 i31
    unfold rlz rlO at this
    rw [if_pos (by omega), if_pos (by omega)] at this
    exact this (fun _ => o31)
end
section
/-! THE RULE'S TEXT: the reference reads it, the class's row of states beside it -/
def SCd (g : Int → Int) : List (Int × Int) → Prop
  | [] => True
  | p :: O => g O.length = kcF p.1 p.2 ∧ SCd g O
theorem SCd.cg {g g' : Int → Int} : ∀ {O : List (Int × Int)}, SCd g O → (∀ j : Int, 0 ≤ j → j < O.length → g' j = g j) → SCd g' O
  | [], _, _ => trivial
  | p :: O, s, e => by
    have l : ((p :: O).length : Int) = O.length + 1 := by show ((O.length + 1 : Nat) : Int) = _; omega
    rw [l] at e
    exact ⟨by rw [e _ (by omega) (by omega)]; exact s.1, s.2.cg (fun j p q => e j p (by omega))⟩
/-- the code read so far is the law O -/
def CK (M : Mem) (O : List (Int × Int)) : Prop := M 1 25 = O.length ∧ SCd (M 12) O
theorem CK.fr {M M' : Mem} {O : List (Int × Int)} (h : CK M O) (e1 : M' 1 25 = M 1 25) (e2 : M' 12 = M 12) : CK M' O := by
  unfold CK at h ⊢
  rw [e1, e2]
  exact h
/-- reading ends here -/
def PFl (f : Int → Int) (t : Int) (S : PSt) : Prop := (S.2.2.2.2 < t ∧ pst f t S = none) ∨ (t ≤ S.2.2.2.2 ∧ (S.1 = 1 ∨ 0 < S.2.1))
/-- what stands behind a piece of rank r, read by the reference from M on, where the class was at (w = 1, dp, W, O, a) -/
def RPP (f : Int → Int) (t : Int) (M' : Mem) (r dp : Int) (W : List Int) (O : List (Int × Int)) (a z : Int) : Prop := (z = 1 → ∃ (m : Nat) (P : List Int) (O' : List (Int × Int)), PR f t m (1, dp, W, O, a) (0, dp, P ++ W, O', M' 1 15) ∧ AL (r + 1) P ∧ CK M' (rel P O') ∧ (t ≤ M' 1 15 ∨ bnd (f (M' 1 15)) < r + 1 ∨ (r = 0 ∧ bnd (f (M' 1 15)) = 1 ∧ lbd (rls 2 (P ++ W) O').1 = 1))) ∧ (z = 0 → ∃ (m : Nat) (S' : PSt), PR f t m (1, dp, W, O, a) S' ∧ S'.2.2.2.2 = M' 1 15 ∧ PFl f t S')
theorem RPP.no {f : Int → Int} {t : Int} {M' : Mem} {r dp : Int} {W : List Int} {O : List (Int × Int)} {a : Int} {m : Nat} {S' : PSt} (h : PR f t m (1, dp, W, O, a) S') (h2 : S'.2.2.2.2 = M' 1 15) (h3 : PFl f t S') : RPP f t M' r dp W O a 0 := ⟨fun q => absurd q (by decide), fun _ => ⟨m, S', h, h2, h3⟩⟩
theorem bS4l : ((bS 4).length : Int) = 7 := rfl
theorem ix0_z : ∀ i : Nat, i < 7 → ixS (bS 0) ((bS 4).getD i 0) = i ∧ ¬ (48 ≤ (bS 4).getD i 0 ∧ (bS 4).getD i 0 ≤ 57) ∧ (bS 4).getD i 0 ≠ 45 ∧ (bS 4).getD i 0 ≠ 40 := by decide
theorem ix0_n {c : Int} (h : ∀ i : Int, 0 ≤ i → i < ((bS 4).length : Int) → (bS 4).getD i.toNat 0 ≠ c) : ixS (bS 0) c < 0 := by
  have h0 : (112 : Int) ≠ c := h 0 (by decide) (by decide)
  have h1 : (103 : Int) ≠ c := h 1 (by decide) (by decide)
  have h2 : (99 : Int) ≠ c := h 2 (by decide) (by decide)
  have h3 : (119 : Int) ≠ c := h 3 (by decide) (by decide)
  have h4 : (116 : Int) ≠ c := h 4 (by decide) (by decide)
  have h5 : (105 : Int) ≠ c := h 5 (by decide) (by decide)
  have h6 : (109 : Int) ≠ c := h 6 (by decide) (by decide)
  show ixF c [112, 103, 99, 119, 116, 105, 109] 0 < 0
  simp only [ixF]
  rw [if_neg h0, if_neg h1, if_neg h2, if_neg h3, if_neg h4, if_neg h5, if_neg h6]
  decide
/-- signs of rank p1 stand in row t0, their code from 2000 + t1 on -/
def OPS (p1 : Int) (t0 : Nat) (t1 : Int) : Prop := (∀ i : Nat, i < (bS t0).length → bnd ((bS t0).getD i 0) = p1 + 1 ∧ kcF ((bS t0).getD i 0) 0 = 2000 + i + t1 ∧ (bS t0).getD i 0 ≠ 41) ∧ ∀ c : Int, bnd c = p1 + 1 → ∃ i : Nat, i < (bS t0).length ∧ (bS t0).getD i 0 = c
theorem OPS_0 : OPS 0 5 0 := by
  refine ⟨by decide, fun c h => ?_⟩
  have := bnd_b c
  unfold bnd at h
  by_cases c5 : c = 60
  · exact ⟨0, by decide, c5.symm⟩
  · by_cases c6 : c = 61
    · exact ⟨2, by decide, c6.symm⟩
    · by_cases c7 : c = 62
      · exact ⟨1, by decide, c7.symm⟩
      · rw [if_neg c5, if_neg c6, if_neg c7] at h
        repeat' split at h
        all_goals omega
theorem OPS_1 : OPS 1 6 3 := by
  refine ⟨by decide, fun c h => ?_⟩
  unfold bnd at h
  by_cases c5 : c = 43
  · exact ⟨0, by decide, c5.symm⟩
  · by_cases c6 : c = 45
    · exact ⟨1, by decide, c6.symm⟩
    · rw [if_neg c5, if_neg c6] at h
      repeat' split at h
      all_goals omega
theorem OPS_2 : OPS 2 7 5 := by
  refine ⟨by decide, fun c h => ?_⟩
  unfold bnd at h
  by_cases c5 : c = 42
  · exact ⟨0, by decide, c5.symm⟩
  · by_cases c6 : c = 47
    · exact ⟨1, by decide, c6.symm⟩
    · rw [if_neg c5, if_neg c6] at h
      repeat' split at h
      all_goals omega
theorem CK.add {M M' : Mem} {O : List (Int × Int)} {p : Int × Int} (h : CK M O) (h1 : M' 1 25 = M 1 25 + 1) (h2 : ∀ j, j ≠ M 1 25 → M' 12 j = M 12 j) (h3 : M' 12 (M 1 25) = kcF p.1 p.2) : CK M' (p :: O) := by
  obtain ⟨a, s⟩ := h
  refine ⟨?_, ?_, ?_⟩
  · show M' 1 25 = ((O.length + 1 : Nat) : Int)
    omega
  · rw [← a]; exact h3
  · exact s.cg (fun j p q => h2 j (by omega))
theorem gX12_codes {p1 : Int} {b : Int} {M : Mem} {Q : Mem → Prop} (hI : IM b M) (hp : M 1 25 ≤ 79) (hQ : ∀ M' : Mem, IM b M' → FrJ (fun k j => k = 12 ∨ (k = 1 ∧ j = 25)) M M' → M' 1 25 = M 1 25 + 1 → (∀ j, j ≠ M 1 25 → M' 12 j = M 12 j) → M' 12 (M 1 25) = p1 → Q M') : qX12_codes p1 M Q := by
  unfold qX12_codes
  intro x1 e1 _
  have b1 : 0 ≤ x1 ∧ x1 ≤ 80 := by rw [e1]; exact bm_c1_25.mp (hI.bx _ _)
  refine ⟨by omega, by omega, ?_⟩
  intro M4 h4 x5 e5 _
  have f5 : x5 = x1 := by rw [e5, h4, up2_n (by decide), e1]
  refine ⟨⟨by omega, by omega⟩, ?_⟩
  intro M7 h7
  have i4 : IM b M4 := by rw [h4]; exact hI.up (by omega) (by simp [BM])
  refine hQ _ (by rw [h7]; exact i4.up (by omega) (bm_c1_25.mpr ⟨by omega, by omega⟩)) ?_ (by rw [h7, up2_s, f5, e1]) ?_ ?_
  · rw [h7, h4]
    exact (FrJ.rf.up (Or.inl rfl)).up (Or.inr ⟨rfl, rfl⟩)
  · intro j hj
    rw [h7, up2_n (by decide), h4, up2_j (by rw [e1]; exact hj)]
  · rw [h7, up2_n (by decide), h4, ← e1, up2_s]
theorem gX12_reads {f : Int → Int} {t : Int} (hf4 : ∀ j, 0 ≤ j → j < t → bnd (f j) ≤ 3) : ∀ (d tt : Nat) (p1 b : Int) (M : Mem) (Q : Int → Mem → Prop) (W : List Int) (O : List (Int × Int)), RQ b M → (∀ j, 0 ≤ j → j < t → M 7 j = f j) → M 1 16 = t → M 1 15 ≤ t → (0 ≤ p1 ∧ p1 ≤ 3) → (tt = 0 ∨ p1 = 3 ∨ lbd W < p1 + 1) → (80 - M 1 15) + 6 * (4 - M 1 17) + 1 + (if tt = 0 then 0 else 4 - p1) ≤ (d : Int) → CK M O → (∀ (z : Int) (M' : Mem), (z = 0 ∨ z = 1) → RP b M M' z → RPP f t M' (if tt = 0 then 3 else p1) (M 1 17) W O (M 1 15) z → (∀ j, 0 ≤ j → j < t → M' 7 j = f j) → M' 1 16 = t → M' 1 15 ≤ t → iR z → Q z M') → qX12_reads d tt p1 M Q := by
  intro d
  induction d with
  | zero =>
    intro tt p1 b M Q W O hR h7 h16 h15 hp hW hm hC hQ
    exfalso
    have b15 := bm_c1_15.mp (hR.1.bx 1 15)
    have h4 := hR.2.2.2.2
    split at hm <;> omega
  | succ d ih =>
    intro tt p1 b M Q W O hR h7 h16 h15 hp hW hm hC hQ
    have hR0 := hR
    obtain ⟨hI, hWF, hc, hn0, hn4⟩ := hR
    have b15 := bm_c1_15.mp (hI.bx 1 15)
    have b25 := bm_c1_25.mp (hI.bx 1 25)
    have d0 := dpc_nn hWF (M 1 25).toNat (by omega)
    have r0 : ∀ z : Int, (z = 0 ∨ z = 1) → iR z := fun z h => ⟨by omega, by omega⟩
    cases tt with
    | zero =>
      rw [if_pos rfl] at hm hQ
      have ST0 : PR f t 0 (1, M 1 17, W, O, M 1 15) (1, M 1 17, W, O, M 1 15) := rfl
      show bX12_readsThing (qX12_reads d) M Q
      unfold bX12_readsThing
      refine gX12_takes (p1 := 45) hI ?_
      intro x1 M1 h1 g1 q1 _ _
      have c1 : M1 1 25 = M 1 25 := g1 1 25 (by omega)
      have n1 : M1 1 17 = M 1 17 := g1 1 17 (by omega)
      have w1 : M1 12 = M 12 := funext fun j => g1 12 j (by omega)
      have s1 : M1 7 = M 7 := funext fun j => g1 7 j (by omega)
      have t1 : M1 1 16 = t := by rw [g1 1 16 (by omega)]; exact h16
      refine ⟨fun k1 => ?_, fun k1 => ?_⟩
      · have q1' : ¬ (M 1 15 < M 1 16 ∧ M 7 (M 1 15) = 45) ∧ M1 1 15 = M 1 15 := by
          rcases q1 with q | q
          · omega
          · exact ⟨q.1, q.2.2⟩
        obtain ⟨n45, a1⟩ := q1'
        refine sX12_isDigit h1 ?_
        intro x3 p3 _ _
        rw [s1, a1, t1] at p3
        refine ⟨fun k3 => ?_, fun k3 => ?_⟩
        · have nd : ¬ (M 1 15 < t ∧ 48 ≤ f (M 1 15) ∧ f (M 1 15) ≤ 57) := by
            intro q
            refine p3.2.1 k3 ⟨q.1, by have := bm_c1_16.mp (hI.bx 1 16); omega, ?_⟩
            rw [h7 _ b15.1 q.1]
            exact q.2
          have nn := nm3_n nd
          refine gX12_takesOf h1 (by decide) ?_
          intro x5 M5 h5 g5 p5 _
          rw [s1, a1, t1, bS4l] at p5
          have c5 : M5 1 25 = M 1 25 := by rw [g5 1 25 (by omega)]; exact c1
          have n5 : M5 1 17 = M 1 17 := by rw [g5 1 17 (by omega)]; exact n1
          have w5 : M5 12 = M 12 := by rw [show M5 12 = M1 12 from funext fun j => g5 12 j (by omega)]; exact w1
          have s5 : M5 7 = M 7 := by rw [show M5 7 = M1 7 from funext fun j => g5 7 j (by omega)]; exact s1
          have t5 : M5 1 16 = t := by rw [g5 1 16 (by omega)]; exact t1
          refine ⟨fun k5 => ?_, fun k5 => ?_⟩
          · have p5' : M5 1 15 = M 1 15 ∧ (t ≤ M 1 15 ∨ ∀ i : Int, 0 ≤ i → i < ((bS 4).length : Int) → (bS 4).getD i.toNat 0 ≠ M 7 (M 1 15)) := by
              rcases p5 with q | q
              · omega
              · exact q.2
            obtain ⟨a5, l5⟩ := p5'
            -- nothing can stand here, but a bracket
            have FAIL : (M 1 15 < t → ¬ (f (M 1 15) = 40 ∧ M 1 17 < 4)) → PFl f t (1, M 1 17, W, O, M 1 15) := by
              intro h40
              by_cases ct : M 1 15 < t
              · refine Or.inl ⟨ct, pst_5 (by rw [nn.1]; decide) ?_ (h40 ct) ?_⟩
                · intro q
                  exact n45 ⟨by omega, by rw [h7 _ b15.1 ct]; exact q⟩
                · refine ix0_n ?_
                  rcases l5 with l | l
                  · omega
                  · rw [h7 _ b15.1 ct] at l
                    exact l
              · exact Or.inr ⟨by show t ≤ M 1 15; omega, Or.inl rfl⟩
            have NO : ∀ M' : Mem, IM b M' → M' 1 15 = M 1 15 → M' 1 25 = M 1 25 → M' 7 = M 7 → M' 1 16 = t → (M 1 15 < t → ¬ (f (M 1 15) = 40 ∧ M 1 17 < 4)) → Q 0 M' := by
              intro M' i' a' c' s' t' h40
              exact hQ _ _ (Or.inl rfl) ⟨i', by omega, by omega, fun q => absurd q (by decide)⟩ (RPP.no ST0 a'.symm (FAIL h40)) (by rw [s']; exact h7) t' (by omega) (by decide)
            intro x7 e7 _
            refine ⟨fun k7 => NO M5 h5 a5 c5 s5 t5 (fun _ q => by omega), fun k7 => ?_⟩
            refine gX12_takes (p1 := 40) h5 ?_
            intro x9 M9 h9 g9 p9 _ _
            rw [s5, a5, t5] at p9
            have c9 : M9 1 25 = M 1 25 := by rw [g9 1 25 (by omega)]; exact c5
            have n9 : M9 1 17 = M 1 17 := by rw [g9 1 17 (by omega)]; exact n5
            have w9 : M9 12 = M 12 := by rw [show M9 12 = M5 12 from funext fun j => g9 12 j (by omega)]; exact w5
            have s9 : M9 7 = M 7 := by rw [show M9 7 = M5 7 from funext fun j => g9 7 j (by omega)]; exact s5
            have t9 : M9 1 16 = t := by rw [g9 1 16 (by omega)]; exact t5
            refine ⟨fun k9 => ?_, fun k9 => ?_⟩
            · have p9' : (M 1 15 < t ∧ M 7 (M 1 15) = 40) ∧ M9 1 15 = M 1 15 + 1 := by
                rcases p9 with q | q
                · exact ⟨q.1, q.2.2⟩
                · omega
              obtain ⟨⟨lt9, e9⟩, a9⟩ := p9'
              rw [h7 _ b15.1 lt9] at e9
              intro x11 e11 _
              refine ⟨⟨by omega, by omega⟩, ?_⟩
              intro M13 h13
              have i13 : IM b M13 := by rw [h13]; exact h9.up (by omega) (by simp [BM])
              have c13 : M13 1 25 = M 1 25 := by rw [h13, up2_j (by decide)]; exact c9
              have a13 : M13 1 15 = M 1 15 + 1 := by rw [h13, up2_j (by decide)]; exact a9
              have n13 : M13 1 17 = M 1 17 + 1 := by rw [h13, up2_s, e11]; omega
              have w13 : M13 12 = M 12 := by rw [h13, up2_n (by decide)]; exact w9
              have s13 : M13 7 = M 7 := by rw [h13, up2_n (by decide)]; exact s9
              have t13 : M13 1 16 = t := by rw [h13, up2_j (by decide)]; exact t9
              have S1 := PR.one (f := f) (t := t) (w := 1) (dp := M 1 17) (a := M 1 15) (W := W) (O := O) lt9 (pst_3 e9 (by omega))
              refine ih 1 0 b M13 _ (40 :: W) O ⟨i13, by rw [w13, c13]; exact hWF, by omega, by omega, by omega⟩ (by rw [s13]; exact h7) t13 (by omega) (by omega) (Or.inr (Or.inr (by show bnd 40 < 0 + 1; decide))) (by rw [if_neg (by decide)]; omega) (hC.fr c13 w13) ?_
              intro x14 M14 z14 r14 R14 h714 t14' l14 _ _ q14
              rw [if_neg (by decide), n13, a13] at R14
              refine ⟨fun k14 => ?_, fun k14 => ?_⟩
              · obtain ⟨m, S', u1, u2, u3⟩ := R14.2 k14
                exact hQ _ _ (Or.inl rfl) ⟨r14.1, by have := r14.2.1; omega, by have := r14.2.2.1; omega, fun q => absurd q (by decide)⟩ (RPP.no (S1.tr u1) u2 u3) h714 t14' l14 (by decide)
              · obtain ⟨i14, a14, s14, u14⟩ := r14
                obtain ⟨n14, w14, d14⟩ := u14 (by omega)
                obtain ⟨m, P, O', v1, v2, v3, v4⟩ := R14.1 (by omega)
                have SS := S1.tr v1
                have b14 := bm_c1_15.mp (i14.bx 1 15)
                refine gX12_takes (p1 := 41) i14 ?_
                intro x16 M16 h16' g16 p16 _ _
                rw [t14'] at p16
                have c16 : M16 1 25 = M14 1 25 := g16 1 25 (by omega)
                have n16 : M16 1 17 = M14 1 17 := g16 1 17 (by omega)
                have w16 : M16 12 = M14 12 := funext fun j => g16 12 j (by omega)
                have s16 : M16 7 = M14 7 := funext fun j => g16 7 j (by omega)
                have t16 : M16 1 16 = t := by rw [g16 1 16 (by omega)]; exact t14'
                refine ⟨fun k16 => ?_, fun k16 => ?_⟩
                · have p16' : (M14 1 15 < t ∧ M14 7 (M14 1 15) = 41) ∧ M16 1 15 = M14 1 15 + 1 := by
                    rcases p16 with q | q
                    · exact ⟨q.1, q.2.2⟩
                    · omega
                  obtain ⟨⟨lt16, e16⟩, a16⟩ := p16'
                  rw [h714 _ b14.1 lt16] at e16
                  intro x18 e18 _
                  refine ⟨⟨by omega, by omega⟩, ?_⟩
                  intro M20 h20
                  have a20 : M20 1 15 = M16 1 15 := by rw [h20, up2_j (by decide)]
                  have c20 : M20 1 25 = M16 1 25 := by rw [h20, up2_j (by decide)]
                  have n20 : M20 1 17 = x18 - 1 := by rw [h20, up2_s]
                  have w20 : M20 12 = M14 12 := by rw [h20, up2_n (by decide), w16]
                  have s20 : M20 7 = M14 7 := by rw [h20, up2_n (by decide), s16]
                  have t20 : M20 1 16 = t := by rw [h20, up2_j (by decide)]; exact t16
                  have S2 := PR.one (f := f) (t := t) (w := 0) (dp := M 1 17 + 1) (a := M14 1 15) (W := P ++ 40 :: W) (O := O') lt16 (pst_6 (by decide) e16 (by omega))
                  rw [rls_a (b := 1) (W := 40 :: W) (v2.mono (by decide)) (by show bnd 40 < 1; decide)] at S2
                  have S3 := SS.tr S2
                  refine hQ _ _ (Or.inr rfl) ⟨by rw [h20]; exact h16'.up (by omega) (by simp [BM]), by omega, by omega, fun _ => ⟨by omega, ?_, ?_⟩⟩ ⟨fun _ => ⟨1 + m + 1, [], rel P O', ?_, trivial, v3.fr (by rw [c20, c16]) w20, ?_⟩, fun q => absurd q (by decide)⟩ (by rw [s20]; exact h714) t20 (by omega) (by decide)
                  · rw [w20, c20, c16]; exact w14
                  · rw [w20, c20, c16, d14, w13, c13]
                  · rw [a20, a16]
                    rw [show M 1 17 + 1 - 1 = M 1 17 from by omega] at S3
                    exact S3
                  · by_cases ct : M20 1 15 < t
                    · exact Or.inr (Or.inl (by have := hf4 (M20 1 15) (by omega) ct; omega))
                    · exact Or.inl (by omega)
                · have p16' : ¬ (M14 1 15 < t ∧ M14 7 (M14 1 15) = 41) ∧ M16 1 15 = M14 1 15 := by
                    rcases p16 with q | q
                    · omega
                    · exact ⟨q.1, q.2.2⟩
                  obtain ⟨n41, a16⟩ := p16'
                  refine hQ _ _ (Or.inl rfl) ⟨h16', by omega, by omega, fun q => absurd q (by decide)⟩ (RPP.no SS (show M14 1 15 = M16 1 15 by omega) ?_) (by rw [s16]; exact h714) t16 (by omega) (by decide)
                  by_cases ct : M14 1 15 < t
                  · have n41' : ¬ (f (M14 1 15) = 41 ∧ 0 < M 1 17 + 1) := fun q => n41 ⟨ct, by rw [h714 _ b14.1 ct]; exact q.1⟩
                    refine Or.inl ⟨ct, ?_⟩
                    rcases v4 with v | v | v
                    · omega
                    · exact pst_0 (by decide) n41' (by omega)
                    · exact pst_7 (by decide) v.2.1 v.2.2
                  · exact Or.inr ⟨by show t ≤ M14 1 15; omega, Or.inr (by show 0 < M 1 17 + 1; omega)⟩
            · have p9' : ¬ (M 1 15 < t ∧ M 7 (M 1 15) = 40) ∧ M9 1 15 = M 1 15 := by
                rcases p9 with q | q
                · omega
                · exact ⟨q.1, q.2.2⟩
              exact NO M9 h9 p9'.2 c9 s9 t9 (fun ct q => p9'.1 ⟨ct, by rw [h7 _ b15.1 ct]; exact q.1⟩)
          · refine ⟨⟨by omega, by omega⟩, ?_⟩
            have p5' : M 1 15 < t ∧ (0 ≤ x5 ∧ x5 < 7) ∧ (bS 4).getD x5.toNat 0 = M 7 (M 1 15) ∧ M5 1 15 = M 1 15 + 1 := by
              rcases p5 with q | q
              · exact q
              · omega
            obtain ⟨lt5, bx5, g5', a5⟩ := p5'
            rw [h7 _ b15.1 lt5] at g5'
            have Z := ix0_z x5.toNat (by omega)
            rw [g5'] at Z
            have zx : ixS (bS 0) (f (M 1 15)) = x5 := by omega
            have bb5 := bm_c1_15.mp (h5.bx 1 15)
            refine gX12_codes h5 (by omega) ?_
            intro M22 h22 g22 c22 j22 v22
            have a22 : M22 1 15 = M 1 15 + 1 := by rw [g22 1 15 (by omega)]; exact a5
            have n22 : M22 1 17 = M 1 17 := by rw [g22 1 17 (by omega)]; exact n5
            have s22 : M22 7 = M 7 := by rw [show M22 7 = M5 7 from funext fun j => g22 7 j (by omega)]; exact s5
            have t22 : M22 1 16 = t := by rw [g22 1 16 (by omega)]; exact t5
            have A := hWF.add (g := M22 12) (v := 1000 + x5) b25.1 ⟨by omega, by omega, by omega⟩ (fun j a q => by rw [j22 j (by omega), w5]) (by rw [← c5]; exact v22)
            rw [if_neg (by omega), if_pos (by omega)] at A
            have e22 : M22 1 25 = M 1 25 + 1 := by omega
            have S1 := PR.one (f := f) (t := t) (w := 1) (dp := M 1 17) (a := M 1 15) (W := W) (O := O) lt5 (pst_4 (by rw [nn.1]; decide) Z.2.2.1 (fun q => Z.2.2.2 q.1) (by omega))
            rw [zx] at S1
            refine hQ _ _ (Or.inr rfl) ⟨h22, by omega, by omega, fun _ => ⟨n22, by rw [e22]; exact A.1, by rw [e22]; exact A.2⟩⟩ ⟨fun _ => ⟨1, [], (301, x5) :: O, by rw [a22]; exact S1, trivial, (hC.fr c5 w5).add (p := (301, x5)) c22 j22 (by rw [v22]; rfl), ?_⟩, fun q => absurd q (by decide)⟩ (by rw [s22]; exact h7) t22 (by omega) (by decide)
            by_cases ct : M22 1 15 < t
            · exact Or.inr (Or.inl (by have := hf4 (M22 1 15) (by omega) ct; omega))
            · exact Or.inl (by omega)
        · have dg := p3.1 (by omega)
          have dg2 : M 1 15 < t ∧ 48 ≤ f (M 1 15) ∧ f (M 1 15) ≤ 57 := ⟨dg.1, by rw [← h7 _ b15.1 dg.1]; exact dg.2.2.1, by rw [← h7 _ b15.1 dg.1]; exact dg.2.2.2⟩
          refine gX12_number (p1 := 3) h1 (by omega) ?_
          intro x23 M23 h23 g23 p23 _
          rw [s1, a1, t1] at p23
          obtain ⟨z23, a23⟩ := nm3_q (f := f) p23 (fun j p q => h7 j (by omega) q)
          have zp := nm3_p dg2
          have nb := (nm3_N f t (M 1 15)).b (by decide)
          have nb1 := nb.2.2.2.2.2.2.1 zp
          have nb2 := nb.2.2.2.2.2.1 h15
          have c23 : M23 1 25 = M 1 25 := by rw [g23 1 25 (by omega)]; exact c1
          have n23 : M23 1 17 = M 1 17 := by rw [g23 1 17 (by omega)]; exact n1
          have w23 : M23 12 = M 12 := by rw [show M23 12 = M1 12 from funext fun j => g23 12 j (by omega)]; exact w1
          have s23 : M23 7 = M 7 := by rw [show M23 7 = M1 7 from funext fun j => g23 7 j (by omega)]; exact s1
          have t23 : M23 1 16 = t := by rw [g23 1 16 (by omega)]; exact t1
          have bb23 := bm_c1_15.mp (h23.bx 1 15)
          refine gX12_codes h23 (by omega) ?_
          intro M24 h24 g24 c24 j24 v24
          have a24 : M24 1 15 = M23 1 15 := g24 1 15 (by omega)
          have n24 : M24 1 17 = M 1 17 := by rw [g24 1 17 (by omega)]; exact n23
          have s24 : M24 7 = M 7 := by rw [show M24 7 = M23 7 from funext fun j => g24 7 j (by omega)]; exact s23
          have t24 : M24 1 16 = t := by rw [g24 1 16 (by omega)]; exact t23
          have A := hWF.add (g := M24 12) (v := x23) b25.1 ⟨by omega, by omega, by omega⟩ (fun j a q => by rw [j24 j (by omega), w23]) (by rw [← c23]; exact v24)
          rw [if_neg (by omega), if_pos (by omega)] at A
          have e24 : M24 1 25 = M 1 25 + 1 := by omega
          have S1 := PR.one (f := f) (t := t) (w := 1) (dp := M 1 17) (a := M 1 15) (W := W) (O := O) dg.1 (pst_1 zp)
          rw [← z23, ← a23] at S1
          refine hQ _ _ (Or.inr rfl) ⟨h24, by omega, by omega, fun _ => ⟨n24, by rw [e24]; exact A.1, by rw [e24]; exact A.2⟩⟩ ⟨fun _ => ⟨1, [], (300, x23) :: O, by rw [a24]; exact S1, trivial, (hC.fr c23 w23).add (p := (300, x23)) c24 j24 (by rw [v24]; rfl), ?_⟩, fun q => absurd q (by decide)⟩ (by rw [s24]; exact h7) t24 (by omega) (by decide)
          by_cases ct : M24 1 15 < t
          · exact Or.inr (Or.inl (by have := hf4 (M24 1 15) (by omega) ct; omega))
          · exact Or.inl (by omega)
      · have q1' : (M 1 15 < M 1 16 ∧ M 7 (M 1 15) = 45) ∧ M1 1 15 = M 1 15 + 1 := by
          rcases q1 with q | q
          · exact ⟨q.1, q.2.2⟩
          · omega
        obtain ⟨⟨lt1, e1⟩, a1⟩ := q1'
        rw [h16] at lt1
        rw [h7 _ b15.1 lt1] at e1
        have S1 := PR.one (f := f) (t := t) (w := 1) (dp := M 1 17) (a := M 1 15) (W := W) (O := O) lt1 (pst_2 e1)
        refine ih 0 0 b M1 _ (302 :: W) O ⟨h1, by rw [w1, c1]; exact hWF, by omega, by omega, by omega⟩ (by rw [s1]; exact h7) t1 (by omega) (by omega) (Or.inl rfl) (by rw [if_pos rfl]; omega) (hC.fr c1 w1) ?_
        intro x25 M25 z25 r25 R25 h725 t25 l25 _ _ q25
        rw [if_pos rfl, n1, a1] at R25
        obtain ⟨i25, a25, s25, u25⟩ := r25
        have bb25 := bm_c1_15.mp (i25.bx 1 15)
        refine gX12_codes i25 (by omega) ?_
        intro M26 h26 g26 c26 j26 v26
        have a26 : M26 1 15 = M25 1 15 := g26 1 15 (by omega)
        have n26 : M26 1 17 = M25 1 17 := g26 1 17 (by omega)
        have s26 : M26 7 = M25 7 := funext fun j => g26 7 j (by omega)
        have t26 : M26 1 16 = t := by rw [g26 1 16 (by omega)]; exact t25
        refine ⟨q25, hQ _ _ q25 ⟨h26, by omega, by omega, fun q => ?_⟩ ⟨fun q => ?_, fun q => ?_⟩ (by rw [s26]; exact h725) t26 (by omega) (r0 _ q25)⟩
        · obtain ⟨n25, w25, d25⟩ := u25 q
          have bb := bm_c1_25.mp (i25.bx 1 25)
          rw [w1, c1] at d25
          have A := w25.add (g := M26 12) (v := 3000) bb.1 ⟨by omega, by omega, by omega⟩ (fun j a q => j26 j (by omega)) v26
          rw [if_pos rfl] at A
          rw [c26]
          exact ⟨by omega, A.1, by rw [A.2, d25]; omega⟩
        · obtain ⟨m, P, O', v1, v2, v3, v4⟩ := R25.1 q
          refine ⟨1 + m, P ++ [302], O', ?_, v2.app (by decide), ?_, ?_⟩
          · rw [← ap1, a26]
            exact S1.tr v1
          · rw [rel_app]
            exact v3.add (p := (302, 0)) c26 j26 (by rw [v26]; rfl)
          · have b26 := bm_c1_15.mp (h26.bx 1 15)
            by_cases ct : M26 1 15 < t
            · exact Or.inr (Or.inl (by have := hf4 (M26 1 15) b26.1 ct; omega))
            · exact Or.inl (by omega)
        · obtain ⟨m, S', u1, u2, u3⟩ := R25.2 q
          exact ⟨_, S', S1.tr u1, by rw [u2, a26], u3⟩
    | succ tt =>
      rw [if_neg (by omega)] at hm hQ
      show bX12_readsRank (qX12_reads d) p1 M Q
      unfold bX12_readsRank
      refine ⟨fun k1 => ⟨⟨by omega, by omega⟩, ?_⟩, fun k1 => ?_⟩
      · have hW' : lbd W < p1 + 1 := by rcases hW with q | q | q <;> omega
        refine ih 1 (p1 + 1) b M _ W O hR0 h7 h16 h15 (by omega) (Or.inr (Or.inr (by omega))) (by rw [if_neg (by decide)]; omega) hC ?_
        intro x3 M3 z3 r3 R3 h73 t3 l3 _ _ q3
        rw [if_neg (by decide)] at R3
        refine ⟨fun k3 => ?_, fun k3 => ?_⟩
        · rw [show x3 = 1 from by omega] at r3 R3
          obtain ⟨m3, P3, O3, v1, v2, v3, v4⟩ := R3.1 rfl
          have loop : ∀ (n : Nat) (v2 : Int) (M4 : Mem) (m : Nat) (P : List Int) (O' : List (Int × Int)), (v2 = 0 ∨ v2 = 1) → RP b M M4 1 → (∀ j, 0 ≤ j → j < t → M4 7 j = f j) → M4 1 16 = t → M4 1 15 ≤ t → PR f t m (1, M 1 17, W, O, M 1 15) (0, M 1 17, P ++ W, O', M4 1 15) → AL (p1 + 1) P → CK M4 (rel P O') → (t ≤ M4 1 15 ∨ bnd (f (M4 1 15)) < p1 + 2) → (v2 = 0 → p1 = 0 ∧ lbd (rls 2 (P ++ W) O').1 = 1) → (v2 = 1 → p1 = 0 → AL 2 P) → 2 * (80 - M4 1 15) + v2 < (n : Int) → qX12_readsRank_L24 (qX12_reads d) p1 Q n v2 M4 := by
            intro n
            induction n with
            | zero => intro v2 M4 m P O' hv hr g7 g16 g15 hP hA hK hx h0 h1 hm2; exact absurd hm2 (by have := bm_c1_15.mp (hr.1.bx 1 15); omega)
            | succ n ihn =>
              intro v2 M4 m P O' hv hr g7 g16 g15 hP hA hK hx h0 h1 hm2
              have hr0 := hr
              obtain ⟨i4, a4, s4, u4⟩ := hr
              obtain ⟨n4, w4, d4⟩ := u4 rfl
              have bb4 := bm_c1_15.mp (i4.bx 1 15)
              rw [qX12_readsRank_L24]
              refine ⟨r0 _ hv, ⟨fun k4 => ?_, fun k4 => ?_⟩⟩
              · obtain ⟨p0, hl⟩ := h0 k4
                refine hQ _ _ (Or.inr rfl) hr0 ⟨fun _ => ⟨m, P, O', hP, hA, hK, ?_⟩, fun q => absurd q (by decide)⟩ g7 g16 g15 (by decide)
                rcases hx with q | q
                · exact Or.inl q
                · by_cases c : bnd (f (M4 1 15)) < p1 + 1
                  · exact Or.inr (Or.inl c)
                  · exact Or.inr (Or.inr ⟨p0, by omega, hl⟩)
              · have hv1 : v2 = 1 := by omega
                have J : ∀ (t0 : Nat) (t1 : Int), OPS p1 t0 t1 → t0 < 9 → ((bS t0).length : Int) ≤ 3 → (0 ≤ t1 ∧ t1 ≤ 5) → (t1 = if p1 = 0 then 0 else if p1 = 1 then 3 else 5) → qX12_readsRank_J50 (qX12_reads d) p1 (qX12_readsRank_L24 (qX12_reads d) p1 Q n) Q t0 M4 := by
                  intro t0 t1 hops ht hl bt1 et1
                  unfold qX12_readsRank_J50
                  refine ⟨ht, ?_⟩
                  refine gX12_takesOf i4 (by omega) ?_
                  intro x9 M9 h9 g9 p9 _
                  rw [g16] at p9
                  have c9 : M9 1 25 = M4 1 25 := g9 1 25 (by omega)
                  have n9 : M9 1 17 = M 1 17 := by rw [g9 1 17 (by omega)]; exact n4
                  have w9 : M9 12 = M4 12 := funext fun j => g9 12 j (by omega)
                  have s9 : M9 7 = M4 7 := funext fun j => g9 7 j (by omega)
                  have t9 : M9 1 16 = t := by rw [g9 1 16 (by omega)]; exact g16
                  refine ⟨fun k9 => ⟨⟨by omega, by omega⟩, ?_⟩, fun k9 => ?_⟩
                  · have p9' : M4 1 15 < t ∧ (0 ≤ x9 ∧ x9 < (bS t0).length) ∧ (bS t0).getD x9.toNat 0 = M4 7 (M4 1 15) ∧ M9 1 15 = M4 1 15 + 1 := by
                      rcases p9 with q | q
                      · exact q
                      · omega
                    obtain ⟨lt9, bx9, g9', a9⟩ := p9'
                    rw [g7 _ bb4.1 lt9] at g9'
                    have ops := hops.1 x9.toNat (by omega)
                    rw [g9'] at ops
                    obtain ⟨o1, o2, o3⟩ := ops
                    have S2 : pst f t (0, M 1 17, P ++ W, O', M4 1 15) = some (1, M 1 17, f (M4 1 15) :: W, rel P O', M4 1 15 + 1) := by
                      by_cases p0 : p1 = 0
                      · have e := rls_a (b := 2) (W := W) (P := P) (O := O') (h1 hv1 p0) (by omega)
                        rw [pst_8 (by decide) (by omega) (by rw [e]; show lbd W ≠ 1; omega), e]
                      · rw [pst_9 (by decide) (by omega), rls_a (by rw [o1]; exact hA) (by omega)]
                    have SS := hP.tr (PR.one lt9 S2)
                    refine ih 1 (p1 + 1) b M9 _ (f (M4 1 15) :: W) (rel P O') ⟨h9, by rw [w9, c9]; exact w4, by omega, by omega, by omega⟩ (by rw [s9]; exact g7) t9 (by omega) (by omega) (Or.inr (Or.inr (by show bnd (f (M4 1 15)) < p1 + 1 + 1; omega))) (by rw [if_neg (by decide)]; omega) (hK.fr c9 w9) ?_
                    intro x13 M13 z13 r13 R13 h713 t13 l13 _ _ q13
                    rw [if_neg (by decide), n9, a9] at R13
                    obtain ⟨i13, a13, s13, u13⟩ := r13
                    have bb13 := bm_c1_15.mp (i13.bx 1 15)
                    refine ⟨fun k13 => ?_, fun k13 => ?_⟩
                    · obtain ⟨n13, w13, d13⟩ := u13 (by omega)
                      rw [w9, c9] at d13
                      obtain ⟨m2, P2, O2, y1, y2, y3, y4⟩ := R13.1 (by omega)
                      have J96 : qX12_readsRank_J96 (qX12_reads d) p1 (qX12_readsRank_L24 (qX12_reads d) p1 Q n) Q t1 (2000 + x9) M13 := by
                        unfold qX12_readsRank_J96
                        refine ⟨⟨by omega, by omega⟩, ?_⟩
                        refine gX12_codes i13 (by omega) ?_
                        intro M18 h18 g18 c18 j18 v18
                        have bb := bm_c1_25.mp (i13.bx 1 25)
                        have bb9 := bm_c1_15.mp (h9.bx 1 15)
                        have a18 : M18 1 15 = M13 1 15 := g18 1 15 (by omega)
                        have n18 : M18 1 17 = M13 1 17 := g18 1 17 (by omega)
                        have s18 : M18 7 = M13 7 := funext fun j => g18 7 j (by omega)
                        have t18 : M18 1 16 = t := by rw [g18 1 16 (by omega)]; exact t13
                        have A := w13.add (g := M18 12) (v := 2000 + x9 + t1) bb.1 ⟨by omega, by omega, by omega⟩ (fun j a q => j18 j (by omega)) v18
                        rw [if_neg (by omega), if_neg (by omega)] at A
                        have hr18 : RP b M M18 1 := ⟨h18, by omega, by omega, fun _ => ⟨by omega, by rw [c18]; exact A.1, by rw [c18, A.2, d13, d4]; omega⟩⟩
                        have P18 : PR f t (m + 1 + m2) (1, M 1 17, W, O, M 1 15) (0, M 1 17, (P2 ++ [f (M4 1 15)]) ++ W, O2, M18 1 15) := by
                          rw [← ap1, a18]
                          exact SS.tr y1
                        have A18 : AL (p1 + 1) (P2 ++ [f (M4 1 15)]) := (y2.mono (by omega)).app (by omega)
                        have K18 : CK M18 (rel (P2 ++ [f (M4 1 15)]) O2) := by
                          rw [rel_app]
                          exact y3.add (p := (f (M4 1 15), 0)) c18 j18 (by rw [v18, o2]; omega)
                        have X18 : t ≤ M18 1 15 ∨ bnd (f (M18 1 15)) < p1 + 2 := by
                          rw [a18]
                          rcases y4 with q | q | q
                          · exact Or.inl q
                          · exact Or.inr (by omega)
                          · omega
                        refine ⟨fun c => ihn 0 M18 _ _ O2 (Or.inl rfl) hr18 (by rw [s18]; exact h713) t18 (by omega) P18 A18 K18 X18 (fun _ => ⟨by omega, ?_⟩) (fun q => absurd q (by decide)) (by omega), fun c => ihn 1 M18 _ _ O2 (Or.inr rfl) hr18 (by rw [s18]; exact h713) t18 (by omega) P18 A18 K18 X18 (fun q => absurd q (by decide)) (fun _ q => by omega) (by omega)⟩
                        have p0 : p1 = 0 := by omega
                        rw [← ap1, rls_a (b := 2) (W := f (M4 1 15) :: W) (y2.mono (by omega)) (by show bnd (f (M4 1 15)) < 2; omega)]
                        show bnd (f (M4 1 15)) = 1
                        omega
                      refine ⟨fun c => ⟨fun c2 => ?_, fun c2 => ?_⟩, fun c => ?_⟩
                      · have e : t1 = 5 := by rw [et1, if_neg c, if_neg c2]
                        rw [e] at J96
                        exact J96
                      · have e : t1 = 3 := by rw [et1, if_neg c, if_pos c2]
                        rw [e] at J96
                        exact J96
                      · have e : t1 = 0 := by rw [et1, if_pos c]
                        rw [e] at J96
                        exact J96
                    · obtain ⟨m2, S', y1, y2, y3⟩ := R13.2 k13
                      exact hQ _ _ (Or.inl rfl) ⟨i13, by omega, by omega, fun q => absurd q (by decide)⟩ (RPP.no (SS.tr y1) y2 y3) h713 t13 l13 (by decide)
                  · have p9' : M9 1 15 = M4 1 15 ∧ (t ≤ M4 1 15 ∨ ∀ i : Int, 0 ≤ i → i < ((bS t0).length : Int) → (bS t0).getD i.toNat 0 ≠ M4 7 (M4 1 15)) := by
                      rcases p9 with q | q
                      · omega
                      · exact q.2
                    obtain ⟨a9, l9⟩ := p9'
                    refine hQ _ _ (Or.inr rfl) ⟨h9, by omega, by omega, fun _ => ⟨n9, by rw [w9, c9]; exact w4, by rw [w9, c9]; exact d4⟩⟩ ⟨fun _ => ⟨m, P, O', by rw [a9]; exact hP, hA, hK.fr c9 w9, ?_⟩, fun q => absurd q (by decide)⟩ (by rw [s9]; exact g7) t9 (by omega) (by decide)
                    rw [a9]
                    by_cases ct : M4 1 15 < t
                    · refine Or.inr (Or.inl ?_)
                      rcases hx with q | q
                      · omega
                      · by_cases cb : bnd (f (M4 1 15)) = p1 + 1
                        · exfalso
                          obtain ⟨i, hi, e⟩ := hops.2 _ cb
                          rcases l9 with l | l
                          · omega
                          · exact l (i : Int) (by omega) (by omega) (by rw [g7 _ bb4.1 ct, show ((i : Int)).toNat = i from by omega]; exact e)
                        · omega
                    · exact Or.inl (by omega)
                refine ⟨fun c => ⟨fun c2 => ?_, fun c2 => ?_⟩, fun c => ?_⟩
                · have e : p1 = 2 := by omega
                  exact J 7 5 (by rw [e]; exact OPS_2) (by decide) (by decide) (by decide) (by rw [if_neg c, if_neg c2])
                · exact J 6 3 (by rw [c2]; exact OPS_1) (by decide) (by decide) (by decide) (by rw [if_neg c, if_pos c2])
                · exact J 5 0 (by rw [c]; exact OPS_0) (by decide) (by decide) (by decide) (by rw [if_pos c])
          refine ⟨162, loop 162 1 M3 m3 P3 O3 (Or.inr rfl) r3 h73 t3 l3 v1 (v2.mono (by omega)) v3 ?_ (fun q => absurd q (by decide)) (fun _ q => by rw [q] at v2; exact v2) (by have := bm_c1_15.mp (r3.1.bx 1 15); omega)⟩
          rcases v4 with q | q | q
          · exact Or.inl q
          · exact Or.inr (by omega)
          · omega
        · obtain ⟨m, S', u1, u2, u3⟩ := R3.2 k3
          exact hQ _ _ (Or.inl rfl) ⟨r3.1, r3.2.1, r3.2.2.1, fun q => absurd q (by decide)⟩ (RPP.no u1 u2 u3) h73 t3 l3 (by decide)
      · refine ih 0 0 b M _ W O hR0 h7 h16 h15 (by omega) (Or.inl rfl) (by rw [if_pos rfl]; omega) hC ?_
        intro x21 M21 z21 r21 R21 h721 t21 l21 _ _ q21
        rw [if_pos rfl] at R21
        exact ⟨q21, hQ _ _ q21 r21 (by rw [k1]; exact R21) h721 t21 l21 (r0 _ q21)⟩
end
section
/-! THE RULE: both sides read it alike -/
theorem bnd_3 {c : Int} (h : c ≠ 302) : bnd c ≤ 3 := by
  unfold bnd
  rw [if_neg (c := c = 302) h]
  repeat' split
  all_goals omega
theorem rlS_q {f : Int → Int} {len : Int} {m : Nat} {S' : PSt} (h : PR f (min len 40) m (1, 0, [], [], 0) S') (hs : min len 40 ≤ S'.2.2.2.2 ∨ pst f (min len 40) S' = none) : rlS f len = S' := by
  unfold rlS
  exact h.pru hs (show min len 40 - 0 ≤ ((40 : Nat) : Int) by omega)
/-- what the reference says of it -/
def rly (f : Int → Int) (len : Int) : Int := if rlz f len = -1 then 0 else -1 - rlz f len
theorem gX12_readsRule {f : Int → Int} {b : Int} {M : Mem} {Q : Int → Mem → Prop} (hI : IM b M) (hf : ∀ j, 0 ≤ j → j < M 1 14 → M 7 j = f j) (hQ : ∀ M' : Mem, IM b M' → (rlz f (M 1 14) = -1 → WFC (M' 12) (M' 1 25) ∧ (M 1 14 = 0 → M' 1 25 = 0) ∧ (M 1 14 ≠ 0 → 1 ≤ M' 1 25 ∧ CK M' (rlO f (M 1 14)))) → Q (rly f (M 1 14)) M') : qX12_readsRule M Q := by
  have bL := bm_c1_14.mp (hI.bx 1 14)
  unfold qX12_readsRule
  refine gX12_begins (p1 := 40) hI (by decide) ?_
  intro M1 i1 g1 a15 a16 a17 a14 _ M2 h2
  have i2 : IM b M2 := by rw [h2]; exact i1.up (by omega) (bm_c1_25.mpr (by decide))
  have c2 : M2 1 25 = 0 := by rw [h2, up2_s]
  have w2 : WFC (M2 12) (M2 1 25) := by rw [c2]; intro j hj; omega
  have a2 : M2 1 15 = 0 := by rw [h2, up2_j (by decide)]; exact a15
  have t2 : M2 1 16 = min (M 1 14) 40 := by rw [h2, up2_j (by decide)]; exact a16
  have n2 : M2 1 17 = 0 := by rw [h2, up2_j (by decide)]; exact a17
  have s2 : M2 7 = M 7 := by rw [h2, up2_n (by decide)]; exact funext fun j => g1 7 j (by omega)
  refine ⟨fun k1 => ?_, fun k1 => ⟨140, by decide, ?_⟩⟩
  · unfold qX12_readsRule_J24 qX12_readsRule_J29
    refine ⟨⟨by omega, by omega⟩, by decide, ?_⟩
    refine gX12_faultOf i2 (Or.inr rfl) (by decide) bL t2 (by omega) ?_
    intro _
    have e : rlz f (M 1 14) = -1 := by unfold rlz; rw [if_pos k1]
    have := hQ M2 i2 (fun _ => ⟨w2, fun _ => c2, fun q => absurd k1 q⟩)
    unfold rly at this
    rw [if_pos e] at this
    rw [if_pos ⟨rfl, by omega⟩]
    exact this
  · have ez : rlz f (M 1 14) = if (rlS f (M 1 14)).2.2.2.2 < min (M 1 14) 40 ∨ (rlS f (M 1 14)).1 = 1 ∨ 0 < (rlS f (M 1 14)).2.1 ∨ 40 < M 1 14 then (rlS f (M 1 14)).2.2.2.2 else -1 := by
      unfold rlz
      rw [if_neg k1]
    show qX12_reads 140 1 0 M2 _
    refine gX12_reads (f := f) (t := min (M 1 14) 40) (fun j p q => ?_) 140 1 0 b M2 _ [] [] ⟨i2, w2, by omega, by omega, by omega⟩ (by rw [s2]; exact fun j p q => hf j p (by omega)) t2 (by omega) (by decide) (Or.inr (Or.inr (by decide))) (by rw [if_neg (by decide)]; omega) ⟨by rw [c2]; rfl, trivial⟩ ?_
    · refine bnd_3 ?_
      rw [← hf j p (by omega)]
      have := bm_c7.mp (hI.bx 7 j)
      omega
    intro x7 M7 z7 r7 R7 h77 t7 l7 _ _ q7
    rw [if_neg (by decide), n2, a2] at R7
    have b7 := bm_c1_15.mp (r7.1.bx 1 15)
    -- it can't stand there
    have BAD : ∀ t0 : Int, (t0 = 0 ∨ t0 = 1) → rlz f (M 1 14) = M7 1 15 → ¬ (t0 = 1 ∧ M 1 14 ≤ M7 1 15) → qX12_readsRule_J29 Q (M 1 14) t0 M7 := by
      intro t0 h0 hz hn
      unfold qX12_readsRule_J29
      refine ⟨⟨by omega, by omega⟩, ⟨by omega, by omega⟩, ?_⟩
      refine gX12_faultOf r7.1 h0 (by decide) bL t7 (by omega) ?_
      intro _
      have := hQ M7 r7.1 (fun q => by omega)
      unfold rly at this
      rw [if_neg (by omega), hz] at this
      rw [if_neg hn]
      exact this
    refine ⟨fun k7 => ?_, fun k7 => ?_⟩
    · obtain ⟨m, S', u1, u2, u3⟩ := R7.2 k7
      have eS : rlS f (M 1 14) = S' := rlS_q u1 (by rcases u3 with q | q; exact Or.inr q.2; exact Or.inl q.1)
      refine BAD 0 (Or.inl rfl) ?_ (fun q => absurd q.1 (by decide))
      rw [ez, eS, ← u2, if_pos]
      rcases u3 with q | q
      · exact Or.inl q.1
      · rcases q.2 with w | w
        · exact Or.inr (Or.inl w)
        · exact Or.inr (Or.inr (Or.inl w))
    · obtain ⟨m, P, O', v1, v2, v3, v4⟩ := R7.1 (by omega)
      unfold qX12_readsRule_J24
      by_cases ct : min (M 1 14) 40 ≤ M7 1 15
      · have eS : rlS f (M 1 14) = (0, 0, P ++ [], O', M7 1 15) := rlS_q v1 (Or.inl ct)
        by_cases cl : 40 < M 1 14
        · refine BAD 1 (Or.inr rfl) ?_ (fun q => by omega)
          rw [ez, eS, if_pos (Or.inr (Or.inr (Or.inr cl)))]
        · unfold qX12_readsRule_J29
          refine ⟨⟨by omega, by omega⟩, by decide, ?_⟩
          refine gX12_faultOf r7.1 (Or.inr rfl) (by decide) bL t7 (by omega) ?_
          intro _
          have e : rlz f (M 1 14) = -1 := by
            rw [ez, eS]
            refine if_neg ?_
            show ¬ (M7 1 15 < min (M 1 14) 40 ∨ (0 : Int) = 1 ∨ (0 : Int) < 0 ∨ 40 < M 1 14)
            omega
          have u7 := r7.2.2.2 (by omega)
          have d7 : dpc (M7 12) (M7 1 25).toNat = 1 := by
            rw [u7.2.2, c2]
            rfl
          have b25 := bm_c1_25.mp (r7.1.bx 1 25)
          have := hQ M7 r7.1 (fun _ => ⟨u7.2.1, fun q => absurd q k1, fun _ => ⟨?_, ?_⟩⟩)
          · unfold rly at this
            rw [if_pos e] at this
            rw [if_pos ⟨rfl, by omega⟩]
            exact this
          · by_cases c0 : M7 1 25 = 0
            · rw [c0] at d7
              exact absurd d7 (by show ¬ (0 : Int) = 1; decide)
            · omega
          · unfold rlO
            rw [if_neg k1, eS]
            show CK M7 (rls 1 (P ++ []) O').2
            rw [rls_a (b := 1) (W := []) v2 (by decide)]
            exact v3
      · have hnone : pst f (min (M 1 14) 40) (0, 0, P ++ [], O', M7 1 15) = none := by
          have n41 : ¬ (f (M7 1 15) = 41 ∧ (0 : Int) < 0) := fun q => absurd q.2 (by decide)
          rcases v4 with v | v | v
          · omega
          · exact pst_0 (by decide) n41 (by omega)
          · exact pst_7 (by decide) v.2.1 v.2.2
        have eS : rlS f (M 1 14) = (0, 0, P ++ [], O', M7 1 15) := rlS_q v1 (Or.inr hnone)
        refine BAD 1 (Or.inr rfl) ?_ (fun q => by omega)
        rw [ez, eS, if_pos (Or.inl (show M7 1 15 < min (M 1 14) 40 by omega))]
theorem gX12_laysCode {k1 : Nat} {p2 : Int} {b : Int} {M : Mem} {Q : Mem → Prop} (hI : IM b M) (hp : 0 ≤ p2 ∧ p2 ≤ 80) (hk : k1 ≠ 11 ∧ k1 ≠ 1) (hw : WFC (M k1) p2) (hQ : ∀ M' : Mem, IM b M' → FrJ (fun k j => k = 11 ∨ k = 1 ∧ j = 24) M M' → M' 1 24 = p2 → (∀ j, 0 ≤ j → j < p2 → M' 11 j = M k1 j) → Q M') : qX12_laysCode k1 p2 M Q := by
  unfold qX12_laysCode
  intro M1 h1
  refine ⟨81, sX12_laysCode_L7 (b := b) (M0 := M) hp hk.1 ?_ _ _ _ (by rw [h1]; exact hI.1.up (bm_c1_24.mpr hp)) (by rw [h1, up2_s]) (fun j a q => by omega) (fun j => by rw [h1, up2_n hk.2]) (by rw [h1]; exact FrJ.rf.up (Or.inr ⟨rfl, rfl⟩)) (by omega) (by omega)⟩
  intro M' h' h24 hj hF
  refine hQ _ ⟨h', ?_⟩ hF h24 hj
  rw [h24]
  exact hw.cg hj
abbrev kRu (k : Nat) (j : Int) : Prop := k = 12 ∨ (k = 1 ∧ (j = 0 ∨ j = 14 ∨ j = 15 ∨ j = 16 ∨ j = 17 ∨ j = 25))
/-- the code is that of the text f -/
def RUL (M : Mem) (f : Int → Int) (len : Int) : Prop := (len = 0 ∧ M 1 24 = 0) ∨ (1 ≤ M 1 24 ∧ M 1 24 = (rlO f len).length ∧ SCd (M 11) (rlO f len))
theorem gX12_rule {f : Int → Int} {b : Int} {M : Mem} {Q : Int → Mem → Prop} (hI : IM b M) (hf : ∀ j, 0 ≤ j → j < M 1 14 → M 7 j = f j) (hQ : ∀ M' : Mem, IM b M' → (rlz f (M 1 14) ≠ -1 → Ks kRu M M') → (rlz f (M 1 14) = -1 → Ks (fun k j => kRu k j ∨ k = 11 ∨ (k = 1 ∧ j = 24)) M M' ∧ RUL M' f (M 1 14)) → Q (rly f (M 1 14)) M') : qX12_rule M Q := by
  have bL := bm_c1_14.mp (hI.bx 1 14)
  unfold qX12_rule
  intro M1 h1
  have i1 : IM b M1 := by rw [h1]; exact hI.up (by omega) (by simp [BM])
  have l1 : M1 1 14 = M 1 14 := by rw [h1, up2_j (by decide)]
  have k1 : Ks kRu M M1 := by rw [h1]; exact Ks.rf.wr (by omega)
  refine fmX12_readsRule (gX12_readsRule (f := f) i1 (by rw [l1, h1, up2_n (by decide)]; exact hf) (Q := fun z M' => z = rly f (M 1 14) ∧ IM b M' ∧ (rlz f (M 1 14) = -1 → WFC (M' 12) (M' 1 25) ∧ (M 1 14 = 0 → M' 1 25 = 0) ∧ (M 1 14 ≠ 0 → 1 ≤ M' 1 25 ∧ CK M' (rlO f (M 1 14))))) (fun M' i' h' => by rw [l1] at h' ⊢; exact ⟨rfl, i', h'⟩)) ?_
  intro x2 M2 k2 hh
  obtain ⟨e2, i2, h2⟩ := hh
  intro _
  have K2 : Ks kRu M M2 := k1.tr (k2.mono (by intro k j h; omega))
  have zb : rlz f (M 1 14) = -1 ∨ 0 ≤ rlz f (M 1 14) := by
    have sb := rlS_b (f := f) bL.1
    unfold rlz
    split
    · exact Or.inl rfl
    · split
      · exact Or.inr sb.1
      · exact Or.inl rfl
  refine ⟨fun c => ?_, fun c => ?_⟩
  · have hz : rlz f (M 1 14) ≠ -1 := by
      intro q
      unfold rly at e2
      rw [if_pos q] at e2
      exact c e2
    rw [e2]
    exact hQ M2 i2 (fun _ => K2) (fun q => absurd q hz)
  · have hz : rlz f (M 1 14) = -1 := by
      rcases zb with q | q
      · exact q
      · unfold rly at e2
        rw [if_neg (by omega)] at e2
        omega
    obtain ⟨w2, z2, o2⟩ := h2 hz
    intro x4 e4 _
    have b4 : 0 ≤ x4 ∧ x4 ≤ 80 := by rw [e4]; exact bm_c1_25.mp (i2.bx _ _)
    refine gX12_laysCode i2 b4 (by decide) (by rw [e4]; exact w2) ?_
    intro M5 i5 f5 c5 j5
    rw [e2]
    refine hQ M5 i5 (fun q => absurd hz q) (fun _ => ⟨?_, ?_⟩)
    · intro k j h
      rw [f5 k j (by omega)]
      exact K2 k j (by omega)
    · by_cases cl : M 1 14 = 0
      · exact Or.inl ⟨cl, by rw [c5, e4]; exact z2 cl⟩
      · obtain ⟨n1, n2, n3⟩ := o2 cl
        refine Or.inr ⟨by omega, by omega, ?_⟩
        exact n3.cg (fun j p q => j5 j p (by omega))
theorem SO_SCd {g h c : Int → Int} {u : Int} : ∀ {O : List (Int × Int)}, SO g h u O → SCd c O → ∀ i : Int, 0 ≤ i → i < O.length → kcF (g i) (h i) = c i ∧ kOK (g i) (h i) ∧ (g i = 301 → bt (iI u) (h i).toNat = true)
  | [], _, _, i, p, q => by
    have l : (([] : List (Int × Int)).length : Int) = 0 := rfl
    omega
  | p :: O, s, d, i, hp, hq => by
    have l : ((p :: O).length : Int) = O.length + 1 := by show ((O.length + 1 : Nat) : Int) = _; omega
    rw [l] at hq
    by_cases c : i = O.length
    · obtain ⟨s1, s2, s3, s4⟩ := s.1
      rw [c, s1, s2]
      exact ⟨d.1.symm, s3, s4⟩
    · exact SO_SCd s.2 d.2 i hp (by omega)
theorem SCd_pl : SCd plF plO := ⟨by decide, by decide, by decide, by decide, by decide, trivial⟩
theorem RUL.law {E M MM : Mem} {f : Int → Int} {len : Int} {kl : Nat} (h : RUL MM f len) (e : E 1 24 = MM 1 24) (e11 : E 11 = MM 11) (hR : ROl kl M (rlO f len)) : LAW E M kl := by
  unfold LAW LWf
  rw [e, e11]
  rcases h with ⟨h1, h2⟩ | ⟨h1, h2, h3⟩
  · refine Or.inr ⟨h2, ?_⟩
    unfold rlO at hR
    rw [if_pos h1] at hR
    exact ⟨hR.1, SO_SCd hR.2 SCd_pl⟩
  · refine Or.inl ⟨h1, by rw [h2]; exact hR.1, ?_⟩
    rw [h2]
    exact SO_SCd hR.2 h3
theorem gX11_rule {f : Int → Int} {M : Mem} {Q : Int → Mem → Prop} (hI : IX M) (hf : ∀ j, 0 ≤ j → j < M 156 1 → M 157 j = f j) (hQ : ∀ M' : Mem, IX M' → (rlz f (M 156 1) = -1 → ROl (M' 155 16).toNat M' (rlO f (M 156 1))) → (rlz f (M 156 1) ≠ -1 → M' 155 16 = M 155 16 ∧ ∀ (k : Nat) (j : Int), (M 155 16).toNat ≤ k → k ≤ (M 155 16).toNat + 2 → M' k j = M k j) → Q (rly f (M 156 1)) M') : qX11_rule M Q := by
  have bL := bx_c156_1.mp (hI.bx 156 1)
  have l17 := hI.l17
  unfold qX11_rule
  refine ⟨l17, ?_⟩
  refine fmX5_read (gX5_read (f := f) hI l17 hf (Q := fun z M' => z = rlz f (M 156 1) ∧ IX M' ∧ (rlz f (M 156 1) = -1 → ROl (M 155 17).toNat M' (rlO f (M 156 1)))) (fun M' i' h' => ⟨rfl, i', h'⟩)) ?_
  intro x2 M2 k2 hh
  obtain ⟨e2, i2, h2⟩ := hh
  intro _
  have zb : rlz f (M 156 1) = -1 ∨ 0 ≤ rlz f (M 156 1) ∧ rlz f (M 156 1) ≤ 40 := by
    have sb := rlS_b (f := f) bL.1
    unfold rlz
    split
    · exact Or.inl rfl
    · split
      · exact Or.inr ⟨sb.1, by omega⟩
      · exact Or.inl rfl
  have e16 : M2 155 16 = M 155 16 := k2 155 16 (by rcases hI.2.1 with q | q <;> rw [q.2] <;> decide)
  have e17 : M2 155 17 = M 155 17 := k2 155 17 (by rcases hI.2.1 with q | q <;> rw [q.2] <;> decide)
  unfold qX9_clear
  intro M3 h3
  have i3 : IX M3 := by rw [h3]; exact i2.up (by decide) (bx_c156_1.mpr (by decide))
  have g16 : M3 155 16 = M 155 16 := by rw [h3, up2_n (by decide)]; exact e16
  have g17 : M3 155 17 = M 155 17 := by rw [h3, up2_n (by decide)]; exact e17
  refine ⟨fun c => ?_, fun c => ?_⟩
  · refine ⟨i3.l16, i3.l17, ?_⟩
    intro M7 h7 M8 h8
    have hz : rlz f (M 156 1) = -1 := by omega
    have i8 : IX M8 := by
      rw [h8, h7]
      refine ⟨BX.up (BX.up i3.1 (by simp [BX])) (by simp [BX]), ?_, fun k' j' hk' => ?_⟩
      · rw [up2_j (by decide), up2_s, up2_s]
        rcases i3.2.1 with q | q
        · right; rw [q.1, q.2]; exact ⟨rfl, rfl⟩
        · left; rw [q.1, q.2]; exact ⟨rfl, rfl⟩
      · rw [up2_n (by rcases hk' with rfl | rfl <;> omega), up2_n (by rcases hk' with rfl | rfl <;> omega), up2_n (by rcases hk' with rfl | rfl <;> omega), up2_n (by rcases hk' with rfl | rfl <;> omega)]
        exact i3.2.2 k' j' hk'
    have := hQ M8 i8 (fun _ => ?_) (fun q => absurd hz q)
    · unfold rly at this
      rw [if_pos hz] at this
      exact this
    · have w16 : M8 155 16 = ((M 155 17).toNat : Int) := by rw [h8, up2_j (by decide), h7, up2_s, g17]
      rw [w16, show ((((M 155 17).toNat : Nat) : Int)).toNat = (M 155 17).toNat from Int.toNat_natCast _]
      have n155 : (M 155 17).toNat ≠ 155 ∧ (M 155 17).toNat + 1 ≠ 155 ∧ (M 155 17).toNat + 2 ≠ 155 ∧ (M 155 17).toNat ≠ 156 ∧ (M 155 17).toNat + 1 ≠ 156 ∧ (M 155 17).toNat + 2 ≠ 156 := by rcases l17 with q | q <;> omega
      refine (h2 hz).fr ?_ ?_ ?_ ?_
      · rw [h8, up2_n n155.1, h7, up2_n n155.1, h3, up2_n n155.2.2.2.1]
      · rw [h8, up2_n n155.1, h7, up2_n n155.1, h3, up2_n n155.2.2.2.1]
      · rw [h8, up2_n n155.2.1, h7, up2_n n155.2.1, h3, up2_n n155.2.2.2.2.1]
      · rw [h8, up2_n n155.2.2.1, h7, up2_n n155.2.2.1, h3, up2_n n155.2.2.2.2.2]
  · refine ⟨⟨by omega, by omega⟩, ?_⟩
    have hz : rlz f (M 156 1) ≠ -1 := by omega
    have := hQ M3 i3 (fun q => absurd q hz) (fun _ => ⟨g16, fun k j h1 h2 => ?_⟩)
    · unfold rly at this
      rw [if_neg hz] at this
      rw [e2]
      exact this
    · have nn : k ≠ 156 ∧ k ≠ 155 ∧ k ≠ 185 ∧ k ≠ 186 ∧ k ≠ (M 155 17).toNat ∧ k ≠ (M 155 17).toNat + 1 ∧ k ≠ (M 155 17).toNat + 2 := by rcases hI.2.1 with q | q <;> rw [q.1] at h1 h2 <;> rw [q.2] <;> (refine ⟨?_, ?_, ?_, ?_, ?_, ?_, ?_⟩ <;> omega)
      rw [h3, up2_n nn.1]
      exact k2 k j (by omega)
/-- the rule is told anew -/
theorem STA.rule {E E' MX MM MX' MM' : Mem} (h : STA E MX MM) (hE : EBx E) (hI : IX MX) (e : ∀ (k : Nat) (j : Int), k ≠ 11 → ¬ (k = 1 ∧ j = 24) → E' k j = E k j) (kx : Ks (fun k _ => k = 0 ∨ (8 ≤ k ∧ k ≤ 28) ∨ (155 ≤ k ∧ k ≤ 157) ∨ (160 ≤ k ∧ k ≤ 162) ∨ (164 ≤ k ∧ k ≤ 165) ∨ 167 ≤ k) MX MX') (hL : LAW E' MX' (MX' 155 16).toNat) (km : ∀ (k : Nat) (j : Int), k = 5 ∨ k = 15 ∨ k = 29 ∨ k = 30 ∨ k = 31 ∨ (k = 1 ∧ (j = 6 ∨ j = 28)) → MM' k j = MM k j) : STA E' MX' MM' := by
  obtain ⟨a, b, c, d, g, k⟩ := h
  have e13 : E' 1 3 = E 1 3 := e 1 3 (by decide) (by omega)
  have e14 : E' 1 4 = E 1 4 := e 1 4 (by decide) (by omega)
  have e15 : E' 1 5 = E 1 5 := e 1 5 (by decide) (by omega)
  have e17 : E' 1 7 = E 1 7 := e 1 7 (by decide) (by omega)
  have r2 : E' 2 = E 2 := funext fun j => e 2 j (by decide) (by omega)
  have r3 : E' 3 = E 3 := funext fun j => e 3 j (by decide) (by omega)
  have r4 : E' 4 = E 4 := funext fun j => e 4 j (by decide) (by omega)
  have eo : eO E' = eO E := by show (E' 1 5).toNat = (E 1 5).toNat; rw [e15]
  have eh : eH E' = eH E := by show (E' 1 4).toNat = (E 1 4).toNat; rw [e14]
  have eg : eG E' = eG E := by show E' 1 3 - 1 = E 1 3 - 1; rw [e13]
  have SCe : ∀ (M : Mem) (k0 : Nat) (r : Int → Int), SC E M k0 r → SC E' M k0 r := by
    intro M k0 r h
    unfold SC at h ⊢
    rw [e14, e15, r3, eo]
    exact h
  have WRe : ∀ r : Int → Int, WR E r → WR E' r := by
    intro r h
    unfold WR at h ⊢
    rw [e14, e15, eg, eh]
    exact h
  have k5 : MM' 5 = MM 5 := funext fun j => km 5 j (by omega)
  refine ⟨?_, hL, ?_, ?_, ?_, ?_⟩
  · have a' := a.fr (M' := MX') (kx _ _ (by omega)) (kx _ _ (by omega)) (kx _ _ (by omega)) (fun j => kx _ j (by omega))
    unfold STR at a' ⊢
    rw [e13, e14, e15, e17, r2, r3, r4]
    exact a'
  · rw [k5]
    exact SCe _ _ _ (c.fr (fun t j ht => kx _ j (by omega)))
  · rw [k5]
    exact WRe _ d
  · have g' := g.fr (MX' := MX') (MM' := MM') hE (fun k j q => kx k j (by omega)) (km 1 28 (by omega)) (fun j _ _ => km 15 j (by omega)) (bx_c163_1.mp (hI.bx 163 1))
    exact ⟨g'.1, fun i p q => ⟨SCe _ _ _ (g'.2 i p q).1, WRe _ (g'.2 i p q).2⟩⟩
  · have k' := k.fr (MX' := MX') (MM' := MM') (fun k j q => kx k j (by omega)) (fun k j q => km k j (by omega))
    intro i p q
    obtain ⟨u, v⟩ := k' i p q
    rw [e14, e15]
    exact ⟨u, fun w => ⟨(v w).1, (v w).2.1, fun w2 => ⟨SCe _ _ _ ((v w).2.2.1 w2).1, WRe _ ((v w).2.2.1 w2).2⟩, (v w).2.2.2⟩⟩
end
section
/-! HOUR: the calls -/
/-- where an hour's text of len signs can't stand (-1: it can); what is done by it -/
def hRD (f : Int → Int) (len : Int) : Int × Int := hrd f (min len 60) 31 0
def hfz (f : Int → Int) (len : Int) : Int := if (hRD f len).1 = 1 ∧ len ≤ (hRD f len).2 then -1 else (hRD f len).2
noncomputable def hGO (E : Mem) (f : Int → Int) (len : Int) (r : Int → Int) : Int × Int × (Int → Int) := hrG E f (min len 60) 31 0 r
theorem hRD_b {f : Int → Int} {len : Int} (h : 0 ≤ len) : (0 ≤ (hRD f len).2 ∧ (hRD f len).2 ≤ min len 60) ∧ ((hRD f len).1 = 0 ∨ (hRD f len).1 = 1) := hrd_b (f := f) (t := min len 60) 31 0 ⟨Int.le_refl _, by omega⟩
theorem hfz_b {f : Int → Int} {len : Int} (h : 0 ≤ len) : -1 ≤ hfz f len ∧ hfz f len ≤ 60 := by
  have b := hRD_b (f := f) h
  unfold hfz
  split <;> omega
theorem hrG_b {E : Mem} {f : Int → Int} {t : Int} : ∀ (n : Nat) (a : Int) (r : Int → Int), 0 ≤ (hrG E f t n a r).1 ∧ (hrG E f t n a r).1 ≤ n ∧ ((hrG E f t n a r).1 = 0 → (hrG E f t n a r).2.2 = r) := by
  intro n
  induction n with
  | zero => intro a r; exact ⟨Int.le_refl _, Int.le_refl _, fun _ => rfl⟩
  | succ n ih =>
    intro a r
    unfold hrG
    split
    · refine ⟨Int.le_refl _, ?_, fun _ => rfl⟩
      show (0 : Int) ≤ ((n + 1 : Nat) : Int)
      omega
    · split
      · have i := ih (prA f t a).2.1 (doR E r (prA f t a))
        refine ⟨?_, ?_, fun q => ?_⟩
        · show 0 ≤ (hrG E f t n (prA f t a).2.1 (doR E r (prA f t a))).1 + 1
          omega
        · show (hrG E f t n (prA f t a).2.1 (doR E r (prA f t a))).1 + 1 ≤ _
          omega
        · have q' : (hrG E f t n (prA f t a).2.1 (doR E r (prA f t a))).1 + 1 = 0 := q
          omega
      · refine ⟨Int.le_refl _, ?_, fun _ => rfl⟩
        show (0 : Int) ≤ ((n + 1 : Nat) : Int)
        omega
theorem hrG_f {E : Mem} {f : Int → Int} {t : Int} : ∀ (n : Nat) (a : Int) (r : Int → Int), (hrG E f t n a r).2.1 = 0 ∨ (hrG E f t n a r).2.1 = 1 := by
  intro n
  induction n with
  | zero => intro a r; exact Or.inl rfl
  | succ n ih =>
    intro a r
    unfold hrG
    split
    · exact Or.inl rfl
    · split
      · exact ih _ _
      · exact Or.inr rfl
/-- the text may be told alike alone up to its end -/
theorem prA_cg {f g : Int → Int} {t a : Int} (ha : 0 ≤ a) (h : ∀ j, 0 ≤ j → j < t → f j = g j) : prA f t a = prA g t a := by
  by_cases c : a < t
  · have e0 := h a ha c
    by_cases c1 : a + 1 < t
    · have e1 := h (a + 1) (by omega) c1
      by_cases c2 : a + 2 < t
      · have e2 := h (a + 2) (by omega) c2
        unfold prA dg1 dg2
        rw [e0, e1, e2]
      · have n2 : ∀ g : Int → Int, ¬ dg2 g t a := fun g q => c2 q.1
        unfold prA
        rw [if_pos (n2 f), if_pos (n2 g)]
        unfold dg1
        rw [e0, e1]
    · have n1 : ∀ g : Int → Int, ¬ dg1 g t a := fun g q => c1 q.1
      unfold prA
      rw [if_pos (n1 f), if_pos (n1 g), e0]
  · rw [prA_0 (fun q => c q.1), prA_0 (fun q => c q.1)]
theorem hrd_cg {f g : Int → Int} {t : Int} (h : ∀ j, 0 ≤ j → j < t → f j = g j) : ∀ (n : Nat) (a : Int), 0 ≤ a → hrd f t n a = hrd g t n a := by
  intro n
  induction n with
  | zero => intro a _; rfl
  | succ n ih =>
    intro a ha
    unfold hrd
    by_cases c : t ≤ a
    · rw [if_pos c, if_pos c]
    · have b := prA_b (f := g) (t := t) (a := a) (by omega)
      rw [if_neg c, if_neg c, prA_cg ha h, ih _ (by omega)]
theorem hrG_cg {E : Mem} {f g : Int → Int} {t : Int} (h : ∀ j, 0 ≤ j → j < t → f j = g j) : ∀ (n : Nat) (a : Int) (r : Int → Int), 0 ≤ a → hrG E f t n a r = hrG E g t n a r := by
  intro n
  induction n with
  | zero => intro a r _; rfl
  | succ n ih =>
    intro a r ha
    unfold hrG
    by_cases c : t ≤ a
    · rw [if_pos c, if_pos c]
    · have b := prA_b (f := g) (t := t) (a := a) (by omega)
      rw [if_neg c, if_neg c, prA_cg ha h, ih _ _ (by omega)]
theorem hfz_cg {f g : Int → Int} {len : Int} (h : ∀ j, 0 ≤ j → j < len → f j = g j) : hfz f len = hfz g len := by
  have e : hRD f len = hRD g len := hrd_cg (fun j p q => h j p (by omega)) 31 0 (Int.le_refl _)
  unfold hfz
  rw [e]
theorem hGO_cg {E : Mem} {f g : Int → Int} {len : Int} {r : Int → Int} (h : ∀ j, 0 ≤ j → j < len → f j = g j) : hGO E f len r = hGO E g len r := hrG_cg (fun j p q => h j p (by omega)) 31 0 r (Int.le_refl _)
theorem gX11_hourFault {M : Mem} {Q : Int → Mem → Prop} (hI : IX M) (hQ : ∀ M' : Mem, IX M' → Ks (fun k j => k = 156 ∧ (j = 2 ∨ j = 3)) M M' → Q (hfz (M 157) (M 156 1)) M') : qX11_hourFault M Q := by
  have bL := bx_c156_1.mp (hI.bx 156 1)
  unfold qX11_hourFault
  refine gX9_open (p1 := 60) hI (by decide) ?_
  intro M1 i1 k1 a1 t1
  have s1 : M1 157 = M 157 := funext fun j => k1 157 j (by omega)
  have hT : hrd (M1 157) (M1 156 3) 31 (M1 156 2) = hRD (M 157) (M 156 1) := by rw [s1, t1, a1]; rfl
  have b := hRD_b (f := M 157) bL.1
  refine ⟨32, gX11_hourFault_L11 (M0 := M1) (T := hRD (M 157) (M 156 1)) (by omega) ?_ ?_ 31 0 M1 i1 Ks.rf hT (by omega) (by omega) (by omega)⟩
  · intro h1 M2 i2 k2 a2
    have l2 : M2 156 1 = M 156 1 := by rw [k2 156 1 (by omega), k1 156 1 (by omega)]
    unfold qX11_hourFault_J48 qX9_isWhole
    intro x1 e1 _ x2 e2 _
    have K2 : Ks (fun k j => k = 156 ∧ (j = 2 ∨ j = 3)) M M2 := k1.tr (k2.mono (by intro k j h; omega))
    have H := hQ M2 i2 K2
    unfold hfz at H
    refine ⟨fun c => ?_, fun c => ?_⟩
    · intro _ _
      refine ⟨fun _ => ?_, fun q => absurd rfl q⟩
      intro x12 e12 _
      rw [if_neg (by omega)] at H
      rw [e12, a2]
      exact H
    · intro _ _
      refine ⟨fun q => absurd q (by decide), fun _ => ?_⟩
      rw [if_pos ⟨h1, by omega⟩] at H
      exact H
  · intro h0 M2 i2 k2 a2
    have K2 : Ks (fun k j => k = 156 ∧ (j = 2 ∨ j = 3)) M M2 := k1.tr (k2.mono (by intro k j h; omega))
    have H := hQ M2 i2 K2
    unfold hfz at H
    rw [if_neg (by omega)] at H
    exact H
theorem gX11_hour {M E : Mem} {r : Int → Int} {Q : Int → Mem → Prop} (hI : IX M) (hS : STR E M) (hL : LAW E M (M 155 16).toNat) (hw : WFC (E 11) (E 1 24)) (hC : SC E M 1 r) (hW : WR E r) (h37 : r 37 ≤ 1999990000) (hQ1 : hfz (M 157) (M 156 1) = -1 → ∀ M' : Mem, IX M' → WR E (hGO E (M 157) (M 156 1) r).2.2 → (0 < (hGO E (M 157) (M 156 1) r).1 → CACT E M M' r (hGO E (M 157) (M 156 1) r).2.2) → (¬ 0 < (hGO E (M 157) (M 156 1) r).1 → CNOP E M M' r) → Q (hGO E (M 157) (M 156 1) r).1 M') (hQ2 : hfz (M 157) (M 156 1) ≠ -1 → ∀ M' : Mem, IX M' → CNOP E M M' r → Q (-1 - hfz (M 157) (M 156 1)) M') : qX11_hour M Q := by
  have bL := bx_c156_1.mp (hI.bx 156 1)
  have el : (M 155 16).toNat = 187 ∨ (M 155 16).toNat = 192 := hI.l16
  have hb := hfz_b (f := M 157) bL.1
  unfold qX11_hour
  refine gX11_hourFault hI ?_
  intro M1 i1 k1 _
  have C1 : SC E M1 1 r := hC.fr (fun i j hi => k1 _ j (by omega))
  refine gX6_copyFrom i1 (show isS 22 by decide) (show isS 1 by decide) (by decide) ?_
  intro M2 i2 k2 s2 _
  refine gX9_open (p1 := 60) i2 (by decide) ?_
  intro M3 i3 k3 a3 t3
  rw [k2 156 1 (by omega), k1 156 1 (by omega)] at t3
  have K3 : Ks (fun k j => (22 ≤ k ∧ k ≤ 28) ∨ (k = 156 ∧ (j = 2 ∨ j = 3))) M M3 := ((k1.mono (by intro k j h; omega)).tr (k2.mono (by intro k j h; omega))).tr (k3.mono (by intro k j h; omega))
  have s3 : SC E M3 22 r := (s2 E r C1).fr (fun i j hi => k3 _ j (by omega))
  have C3 : SC E M3 1 r := hC.fr (fun i j hi => K3 _ j (by omega))
  by_cases hf : hfz (M 157) (M 156 1) = -1
  · rw [hf]
    have g157 : M3 157 = M 157 := funext fun j => K3 157 j (by omega)
    have g16 : M3 155 16 = M 155 16 := K3 155 16 (by omega)
    have S3 : STR E M3 := hS.fr (K3 _ _ (by omega)) (K3 _ _ (by omega)) (K3 _ _ (by omega)) (fun j => K3 159 j (by omega))
    have L3 : LAW E M3 (M3 155 16).toNat := by rw [g16]; exact hL.fr (K3 _ _ (by omega)) (K3 _ _ (by omega)) (fun j => K3 _ j (by omega)) (fun j => K3 _ j (by omega))
    have hd1 : (hrd (M3 157) (M3 156 3) 31 (M3 156 2)).1 = 1 := by
      rw [g157, t3, a3]
      unfold hfz hRD at hf
      by_cases c : (hrd (M 157) (min (M 156 1) 60) 31 0).1 = 1 ∧ M 156 1 ≤ (hrd (M 157) (min (M 156 1) 60) 31 0).2
      · exact c.1
      · rw [if_neg c] at hf
        have b := hRD_b (f := M 157) bL.1
        unfold hRD at b
        omega
    have eG : hrG E (M3 157) (M3 156 3) 31 (M3 156 2) r = hGO E (M 157) (M 156 1) r := by rw [g157, t3, a3]; rfl
    have gb := hrG_b (E := E) (f := M 157) (t := min (M 156 1) 60) 31 0 r
    have gb' : 0 ≤ (hGO E (M 157) (M 156 1) r).1 ∧ (hGO E (M 157) (M 156 1) r).1 ≤ ((31 : Nat) : Int) ∧ ((hGO E (M 157) (M 156 1) r).1 = 0 → (hGO E (M 157) (M 156 1) r).2.2 = r) := gb
    refine ⟨32, gX11_hour_L32 (M0 := M3) (E := E) (T := hGO E (M 157) (M 156 1) r) i3 S3 L3 hw (by omega) ?_ 31 0 0 M3 r i3 Ks.rf C3 hW hd1 (by rw [eG]; omega) (by rw [eG]) (by omega) (by omega) (by omega) (by omega) (by omega)⟩
    intro M4 i4 k4 c4 w4
    rw [g16] at k4
    unfold qX11_hour_J92
    unfold qX9_clear
    intro M18 h18
    have i18 : IX M18 := by rw [h18]; exact i4.up (by decide) (bx_c156_1.mpr (by decide))
    refine ⟨by decide, ⟨fun _ => ⟨⟨by omega, by omega⟩, ?_⟩, fun q => absurd rfl q⟩⟩
    have K18 : Ks (fun k j => kDo (M 155 16).toNat k j ∨ (22 ≤ k ∧ k ≤ 28) ∨ (k = 156 ∧ (j = 1 ∨ j = 2 ∨ j = 3))) M M18 := by
      rw [h18]
      exact ((K3.mono (by intro k j h; omega)).tr (k4.mono (by intro k j h; exact Or.inl h))).wr (by omega)
    have c18 : SC E M18 1 (hGO E (M 157) (M 156 1) r).2.2 := c4.fr (fun i j hi => by rw [h18, up2_n (by omega)])
    have s18 : SC E M18 22 r := s3.fr (fun i j hi => by rw [h18, up2_n (by omega)]; exact k4 _ j (by omega))
    -- what is told
    have TELL : ∀ (t0 : Int) (M5 : Mem), (t0 = 0 ∨ t0 = 1) → IX M5 → (∀ M' : Mem, IX M' → Ks (fun k j => k = 0 ∨ (k = 167 ∧ (j = 1))) M5 M' → Q (hGO E (M 157) (M 156 1) r).1 M') → qX11_hour_J136 Q (hGO E (M 157) (M 156 1) r).1 t0 M5 := by
      intro t0 M5 h0 i5 hq
      unfold qX11_hour_J136
      intro x25 e25 _
      refine ⟨⟨by omega, by omega⟩, ?_⟩
      refine fmX4_tellTwo (sX4_tellTwo (p1 := t0) (p3 := x25) i5 (Q := fun M' => IX M') (fun _ h => h)) ?_
      intro M27 k27 i27
      exact ⟨⟨by omega, by omega⟩, hq M27 i27 k27⟩
    have J123 : ∀ (v3 : Int) (M5 : Mem), (v3 = 0 ∨ v3 = 1) → IX M5 → (∀ M' : Mem, IX M' → Ks (fun k j => k = 0 ∨ (k = 167 ∧ (j = 1))) M5 M' → Q (hGO E (M 157) (M 156 1) r).1 M') → qX11_hour_J123 Q (hGO E (M 157) (M 156 1) r).1 v3 M5 := by
      intro v3 M5 h0 i5 hq
      unfold qX11_hour_J123
      exact ⟨⟨by omega, by omega⟩, ⟨fun _ => TELL 0 M5 (Or.inl rfl) i5 hq, fun _ => TELL 1 M5 (Or.inr rfl) i5 hq⟩⟩
    have hv3 : (hGO E (M 157) (M 156 1) r).2.1 = 0 ∨ (hGO E (M 157) (M 156 1) r).2.1 = 1 := hrG_f 31 0 r
    refine ⟨fun c => ?_, fun c => ?_⟩
    · refine J123 _ M18 hv3 i18 ?_
      intro M' i' k'
      have e0 : (hGO E (M 157) (M 156 1) r).1 = 0 := by omega
      refine hQ1 hf M' i' w4 (fun q => absurd q (by omega)) (fun _ => ⟨fun k j h h2 => ?_, ?_⟩)
      · rw [k' k j (by omega), K18 k j (by omega)]
      · rw [gb'.2.2 e0] at c18
        exact c18.fr (fun i j hi => k' _ j (by omega))
    · refine gX1_add i18 (show isS 22 by decide) (by decide) ?_
      intro M29 i29 k29 a29
      refine J123 _ M29 hv3 i29 ?_
      intro M' i' k'
      refine hQ1 hf M' i' w4 (fun _ => ⟨fun k j h h2 h3 => ?_, ?_, M18, ?_, s18, ?_⟩) (fun q => absurd (show 0 < (hGO E (M 157) (M 156 1) r).1 by omega) q)
      · rw [k' k j (by omega), k29 k j h3, K18 k j (by omega)]
      · exact (c18.fr (M' := M29) (fun i j hi => k29 _ j (by omega))).fr (fun i j hi => k' _ j (by omega))
      · intro k j h
        exact K18 k j (by omega)
      · obtain ⟨u1, u2, u3⟩ := a29
        refine ⟨fun E' r' hs => (u1 E' r' hs).fr (fun i j hi => k' _ j (by omega)), fun s i j h0 h1 h2 h3 => ?_, ?_⟩
        · rw [k' _ j (by omega)]
          exact u2 s i j h0 h1 h2 h3
        · rw [k' 163 1 (by omega), k' 163 2 (by omega)]
          exact u3
  · refine ⟨1, ?_⟩
    rw [qX11_hour_L32]
    have FIN : qX11_hour_J92 Q (hfz (M 157) (M 156 1)) 0 0 M3 := by
      unfold qX11_hour_J92
      unfold qX9_clear
      intro M18 h18
      have i18 : IX M18 := by rw [h18]; exact i3.up (by decide) (bx_c156_1.mpr (by decide))
      refine ⟨⟨by omega, by omega⟩, ⟨fun q => absurd q hf, fun _ => ⟨⟨by omega, by omega⟩, ?_⟩⟩⟩
      refine hQ2 hf M18 i18 ⟨fun k j h h2 => ?_, ?_⟩
      · rw [h18, up2_n (by omega)]
        exact K3 k j (by omega)
      · exact C3.fr (fun i j hi => by rw [h18, up2_n (by omega)])
    exact ⟨by decide, ⟨fun _ => FIN, fun _ => ⟨⟨by omega, by omega⟩, ⟨fun _ => FIN, fun q => absurd q hf⟩⟩⟩⟩
theorem gX12_hour {b : Int} {M E : Mem} {Q : Int → Mem → Prop} (hI : IM b M) (hE : CE E M) (hE0 : EBx E) (hW : WR E (M 5)) (ho : ∀ m, 0 ≤ m → m < E 1 5 → 0 ≤ E 3 m ∧ E 3 m < E 1 4) (hb : b + 300 ≤ 2000000000) (hQ1 : hfz (M 7) (M 1 14) = -1 → ∀ M' : Mem, IM (b + 300) M' → (0 < (hGO E (M 7) (M 1 14) (M 5)).1 → RACT M M' (hGO E (M 7) (M 1 14) (M 5)).2.2) → (¬ 0 < (hGO E (M 7) (M 1 14) (M 5)).1 → RNOP M M') → Q (hGO E (M 7) (M 1 14) (M 5)).1 M') (hQ2 : hfz (M 7) (M 1 14) ≠ -1 → ∀ M' : Mem, IM (b + 300) M' → RNOP M M' → Q (-1 - hfz (M 7) (M 1 14)) M') : qX12_hour M Q := by
  have bL := bm_c1_14.mp (hI.bx 1 14)
  have rb := hRD_b (f := M 7) bL.1
  have hb2 := hfz_b (f := M 7) bL.1
  unfold qX12_hour
  intro M1 h1
  have i1 : IM b M1 := by rw [h1]; exact hI.up (by omega) (by simp [BM])
  have l1 : M1 1 14 = M 1 14 := by rw [h1, up2_j (by decide)]
  have f1 : FrJ (fun k j => k = 1 ∧ (j = 0 ∨ j = 14 ∨ j = 15 ∨ j = 16 ∨ j = 17 ∨ j = 39)) M M1 := by rw [h1]; exact FrJ.rf.up (by omega)
  refine gX12_begins (p1 := 60) i1 (by decide) ?_
  intro M2 i2 g2 a15 a16 _ a14 _ M3 h3
  rw [l1] at a16 ⊢
  have i3 : IM b M3 := by rw [h3]; exact i2.up (by omega) (bm_c1_39.mpr (by decide))
  have F3 : FrJ (fun k j => k = 1 ∧ (j = 0 ∨ j = 14 ∨ j = 15 ∨ j = 16 ∨ j = 17 ∨ j = 39)) M M3 := by rw [h3]; exact (f1.tr (g2.mono (by intro k j h; omega))).up (by omega)
  have s3 : M3 7 = M 7 := funext fun j => F3 7 j (by omega)
  have t3 : M3 1 16 = min (M 1 14) 60 := by rw [h3, up2_j (by decide)]; exact a16
  have p3 : M3 1 15 = 0 := by rw [h3, up2_j (by decide)]; exact a15
  have n3 : M3 1 39 = 0 := by rw [h3, up2_s]
  have hT : hrd (M3 7) (M3 1 16) 31 (M3 1 15) = hRD (M 7) (M 1 14) := by rw [s3, t3, p3]; rfl
  refine ⟨33, gX12_hour_L19 (b := b) (M0 := M3) (T := hRD (M 7) (M 1 14)) (by omega) ?_ 31 M3 i3 FrJ.rf hT (by omega) (by omega) (by rw [n3]; intro i p q; omega) (by rw [n3, p3]; rfl) (by omega)⟩
  intro M4 i4 f4 a4 hA
  have t4 : M4 1 16 = min (M 1 14) 60 := by rw [f4 1 16 (by omega)]; exact t3
  have F4 : ∀ (k : Nat) (j : Int), stM k j → M4 k j = M k j := by
    intro k j h
    rw [f4 k j (by omega), F3 k j (by omega)]
  unfold qX12_hour_J42
  refine ⟨⟨by omega, by omega⟩, ⟨by omega, by omega⟩, ?_⟩
  refine gX12_faultOf i4 rb.2 (by decide) bL t4 (by omega) ?_
  intro _
  by_cases hf : hfz (M 7) (M 1 14) = -1
  · have hc : (hRD (M 7) (M 1 14)).1 = 1 ∧ M 1 14 ≤ (hRD (M 7) (M 1 14)).2 := by
      unfold hfz at hf
      by_cases c : (hRD (M 7) (M 1 14)).1 = 1 ∧ M 1 14 ≤ (hRD (M 7) (M 1 14)).2
      · exact c
      · rw [if_neg c] at hf
        omega
    rw [if_pos ⟨hc.1, by omega⟩]
    obtain ⟨k0, k30, hACS, hpo⟩ := hA hc.1 (by omega)
    rw [s3, t3] at hACS hpo
    refine ⟨fun _ => ?_, fun q => absurd (Int.le_refl _) q⟩
    refine gX12_putsBy i4 ?_
    intro M5 i5 f5 p5
    have g28 : M4 1 28 = M 1 28 := F4 1 28 (by omega)
    rw [g28] at f5 p5
    have k5 : M5 5 = M 5 := funext fun j => by rw [f5 5 j (by omega)]; exact F4 5 j (by omega)
    have E5 : CE E M5 := fun k j h => by
      rw [f5 k j (by omega), F4 k j (Or.inl h)]
      exact hE k j h
    have c39 : M5 1 39 = M4 1 39 := f5 1 39 (by omega)
    have A5 : ACS M5 (M 7) (min (M 1 14) 60) (M4 1 39) := ACS.fr hACS (fun k j hk _ _ => f5 k j (by omega))
    have gb : 0 ≤ (hGO E (M 7) (M 1 14) (M 5)).1 ∧ (hGO E (M 7) (M 1 14) (M 5)).1 ≤ ((31 : Nat) : Int) ∧ ((hGO E (M 7) (M 1 14) (M 5)).1 = 0 → (hGO E (M 7) (M 1 14) (M 5)).2.2 = M 5) := hrG_b (E := E) (f := M 7) (t := min (M 1 14) 60) 31 0 (M 5)
    refine ⟨31, gX12_hour_L64 (b := b) (E := E) (M0 := M5) (f := M 7) (t := min (M 1 14) 60) (K := M4 1 39) (T := hGO E (M 7) (M 1 14) (M 5)) hE0 ho ⟨k0, k30⟩ hb (by rw [hpo]; omega) ?_ 31 0 M5 (M 5) (i5.mono (by omega)) E5 Ks.rf k5 hW c39 A5 ?_ rfl ⟨Int.le_refl _, k0⟩ (by omega)⟩
    · intro v4 M6 i6 E6 kd k6 c6 hv hz
      unfold qX12_hour_J88
      intro M22 h22
      have i22 : IM (b + 300) M22 := by rw [h22]; exact i6.up (by omega) (bm_c1_1.mpr (by decide))
      have t22 : M22 1 1 = 0 := by rw [h22, up2_s]
      have K22 : Ks (fun k j => k = 1 ∧ j = 1) M6 M22 := by rw [h22]; exact Ks.rf.wr ⟨rfl, rfl⟩
      have J108 : ∀ t0 : Int, (t0 = 0 ∨ t0 = 1) → qX12_hour_J108 Q v4 t0 M22 := by
        intro t0 h0
        unfold qX12_hour_J108
        refine ⟨⟨by omega, by omega⟩, ?_⟩
        have hfl : ∀ Q' : Int → Mem → Prop, (∀ x : Int, Q' x M22) → qX12_flag t0 M22 Q' := fun Q' hq => ⟨fun _ => hq 0, fun _ => hq 1⟩
        refine hfl _ ?_
        intro x27 _
        refine fmX12_enters (sX12_enters (p1 := x27) i22 (by omega) (Q := fun M' => IM (b + 300) M' ∧ M' 1 1 = 1) (fun M' a c => ⟨a, by omega⟩)) ?_
        intro M28 f28 ⟨i28, t28⟩ x29 e29 _
        refine fmX12_enters (sX12_enters (p1 := x29) i28 (by omega) (Q := fun M' => IM (b + 300) M') (fun M' a _ => a)) ?_
        intro M30 f30 i30
        have K30 : ∀ (k : Nat) (j : Int), k ≠ 0 → ¬ (k = 1 ∧ j = 1) → M30 k j = M6 k j := by
          intro k j h h'
          rw [f30 k j (by omega), f28 k j (by omega), K22 k j h']
        have st : ∀ (k : Nat) (j : Int), stM k j → k ≠ 5 → k ≠ 15 → M30 k j = M k j := by
          intro k j h n5 n15
          rw [K30 k j (by omega) (by omega), kd k j (by omega), f5 k j (by omega), F4 k j h]
        have s15 : ∀ j, 0 ≤ j → j < 38 * M 1 28 → M30 15 j = M 15 j := by
          intro j p q
          rw [K30 15 j (by decide) (by omega), kd 15 j (by omega), f5 15 j (by omega), F4 15 j (by omega)]
        have sp : ∀ j, 0 ≤ j → j < 38 → M30 15 (38 * M 1 28 + j) = M 5 j := by
          intro j p q
          rw [K30 15 _ (by decide) (by omega), kd 15 _ (by omega), p5 j p q]
          exact F4 5 j (by omega)
        have k30' : M30 5 = (hGO E (M 7) (M 1 14) (M 5)).2.2 := by
          rw [← k6]
          exact funext fun j => K30 5 j (by decide) (by omega)
        refine ⟨⟨by omega, by omega⟩, ⟨fun c => ?_, fun c => ?_⟩⟩
        · have e0 : (hGO E (M 7) (M 1 14) (M 5)).1 = 0 := by
            have := gb.1
            omega
          have H := hQ1 hf M30 i30 (fun q => absurd q (by omega)) (fun _ => ⟨st, ?_, s15⟩)
          · rw [e0] at H
            exact H
          · rw [k30']
            exact gb.2.2 e0
        · rw [hv]
          refine gX12_addsR (M0 := M) i30 st s15 sp k30' ?_
          intro M' i' a' _
          exact hQ1 hf M' i' (fun _ => a') (fun q => absurd (show 0 < (hGO E (M 7) (M 1 14) (M 5)).1 by omega) q)
      intro x23 e23 _
      refine ⟨⟨by omega, by omega⟩, ⟨fun _ => J108 0 (Or.inl rfl), fun _ => J108 1 (Or.inr rfl)⟩⟩
    · show 0 + (hGO E (M 7) (M 1 14) (M 5)).1 = (hGO E (M 7) (M 1 14) (M 5)).1
      omega
  · have hn : ¬ ((hRD (M 7) (M 1 14)).1 = 1 ∧ M 1 14 ≤ (hRD (M 7) (M 1 14)).2) := by
      intro c
      unfold hfz at hf
      rw [if_pos c] at hf
      exact hf rfl
    have ez : hfz (M 7) (M 1 14) = (hRD (M 7) (M 1 14)).2 := by unfold hfz; rw [if_neg hn]
    rw [if_neg (fun q => hn ⟨q.1, by omega⟩)]
    refine ⟨fun q => by omega, fun _ => ?_⟩
    have H := hQ2 hf M4 (i4.mono (by omega)) ⟨fun k j h _ _ => F4 k j h, funext fun j => F4 5 j (by omega), fun j _ _ => F4 15 j (by omega)⟩
    rw [ez, ← a4] at H
    exact H
end
section
/-! QUIET STEPS: none goes, none turns -/
theorem hsF_j {E : Mem} {j : Int} (hj : 13 ≤ j) : ∀ (l : List Int) (r : Int → Int), (∀ x, x ∈ l → 0 ≤ x ∧ x ≤ 5) → hsF E l r j = r j := by
  intro l
  induction l with
  | nil => intro r _; rfl
  | cons a t ih =>
    intro r hl
    have ha := hl a List.mem_cons_self
    show hsF E t (mhF E r a) j = r j
    rw [ih (mhF E r a) (fun x hx => hl x (List.mem_cons_of_mem _ hx)), mhF_o (by omega) (by omega) (by omega)]
theorem msF_k {E : Mem} {r : Int → Int} {m : Int} : ∀ n : Nat, m < n → (msF E n r (13 + m) = msF E (m + 1).toNat r (13 + m) ∧ msF E n r (21 + m) = msF E (m + 1).toNat r (21 + m) ∧ msF E n r (29 + m) = msF E (m + 1).toNat r (29 + m)) ∨ m < 0 ∨ 8 < n := by
  intro n
  induction n with
  | zero => intro h; exact Or.inr (Or.inl (by omega))
  | succ n ih =>
    intro h
    by_cases h0 : m < 0
    · exact Or.inr (Or.inl h0)
    by_cases h8 : 8 < n + 1
    · exact Or.inr (Or.inr h8)
    by_cases c : m = n
    · rw [c, show ((n : Int) + 1).toNat = n + 1 from by omega]
      exact Or.inl ⟨rfl, rfl, rfl⟩
    · rcases ih (by omega) with q | q | q
      · refine Or.inl ?_
        have same : ∀ j, j ≠ 13 + (n : Int) ∧ j ≠ 21 + (n : Int) ∧ j ≠ 29 + (n : Int) → msF E (n + 1) r j = msF E n r j := by
          intro j hj
          show (if 0 ≤ msF E n r (29 + n) then msF E n r else mmF E (msF E n r) n) j = _
          split
          · rfl
          · exact mmF_o hj
        rw [same _ (by omega), same _ (by omega), same _ (by omega)]
        exact q
      · exact absurd q h0
      · omega
end
section
/-! THE END: who lies where, behind two hundred steps -/
theorem ln_x {E : Mem} {r : Int → Int} (hE : EBx E) : VL (eG E) r (lnL r (eH E) (eG E).toNat) ∧ ∀ x, x ∈ lnL r (eH E) (eG E).toNat → x < E 1 4 := by
  have f := hE.f
  have g := hE.2
  have g1 := hE.1
  exact ⟨lnL_VL (by omega) _ (by omega), fun x hx => by have := lnL_mem _ x hx; omega⟩
def fol (E : Mem) (r : Int → Int) : Prop := ∀ m, 0 ≤ m → m < E 1 5 → r (29 + m) < 0 → r (21 + m) < 0 ∨ 0 ≤ r (r (21 + m))
theorem msF_lo {E : Mem} {r : Int → Int} : ∀ (n : Nat) (j : Int), j < 13 → msF E n r j = r j := by
  intro n
  induction n with
  | zero => intro j _; rfl
  | succ n ih =>
    intro j hj
    show (if 0 ≤ msF E n r (29 + n) then msF E n r else mmF E (msF E n r) n) j = _
    split
    · exact ih j hj
    · rw [mmF_o (by omega)]
      exact ih j hj
theorem msF_hi {E : Mem} {r : Int → Int} {m : Int} : ∀ n : Nat, n ≤ 8 → (n : Int) ≤ m → m < 8 → msF E n r (13 + m) = r (13 + m) ∧ msF E n r (21 + m) = r (21 + m) ∧ msF E n r (29 + m) = r (29 + m) := by
  intro n
  induction n with
  | zero => intro _ _ _; exact ⟨rfl, rfl, rfl⟩
  | succ n ih =>
    intro h8 h hm
    obtain ⟨i1, i2, i3⟩ := ih (by omega) (by omega) hm
    have e : ∀ j, j ≠ 13 + (n : Int) ∧ j ≠ 21 + (n : Int) ∧ j ≠ 29 + (n : Int) → msF E (n + 1) r j = msF E n r j := by
      intro j hj
      show (if 0 ≤ msF E n r (29 + n) then msF E n r else mmF E (msF E n r) n) j = _
      split
      · rfl
      · exact mmF_o hj
    exact ⟨by rw [e _ (by omega), i1], by rw [e _ (by omega), i2], by rw [e _ (by omega), i3]⟩
theorem hs_hi {E : Mem} {r : Int → Int} (hE : EBx E) {j : Int} (hj : 13 ≤ j) : hsF E (lnL r (eH E) (eG E).toNat) r j = r j := hsF_j hj _ _ (ln_x hE).1.i
/-- what one mourner does in a step, over the row behind the hearses -/
theorem st_m {E : Mem} {r : Int → Int} {m : Int} (hE : EBx E) (hm : 0 ≤ m ∧ m < E 1 5) : ∃ A : Int → Int, (∀ j, j < 13 → A j = stF E r j) ∧ A (13 + m) = r (13 + m) ∧ A (21 + m) = r (21 + m) ∧ A (29 + m) = r (29 + m) ∧ stF E r (13 + m) = (if 0 ≤ A (29 + m) then A else mmF E A m) (13 + m) ∧ stF E r (21 + m) = (if 0 ≤ A (29 + m) then A else mmF E A m) (21 + m) ∧ stF E r (29 + m) = (if 0 ≤ A (29 + m) then A else mmF E A m) (29 + m) := by
  have f := hE.f
  have g := hE.2
  have ek := msF_k (E := E) (r := hsF E (lnL r (eH E) (eG E).toNat) r) (m := m) (eO E) (by omega)
  have e8 := msF_hi (E := E) (r := hsF E (lnL r (eH E) (eG E).toNat) r) (m := m) m.toNat (by omega) (by omega) (by omega)
  have es := msF_s (E := E) (r := hsF E (lnL r (eH E) (eG E).toNat) r) (i := m) hm.1
  refine ⟨msF E m.toNat (hsF E (lnL r (eH E) (eG E).toNat) r), fun j hj => ?_, ?_, ?_, ?_, ?_⟩
  · unfold stF
    rw [up_j (by omega), msF_lo _ j hj, msF_lo _ j hj]
  · rw [e8.1, hs_hi hE (by omega)]
  · rw [e8.2.1, hs_hi hE (by omega)]
  · rw [e8.2.2, hs_hi hE (by omega)]
  · rcases ek with q | q | q
    · rw [← es]
      unfold stF
      rw [up_j (by omega), up_j (by omega), up_j (by omega)]
      exact q
    · omega
    · omega
theorem mmF_fol {E : Mem} {A : Int → Int} {m : Int} (hm : 0 ≤ m) (h6 : E 1 4 ≤ 6 ∧ 0 ≤ E 1 4) (hb : A (21 + m) < E 1 4) (h : mmF E A m (29 + m) < 0) : mmF E A m (21 + m) < 0 ∨ 0 ≤ A (mmF E A m (21 + m)) := by
  unfold mmF at h ⊢
  by_cases c1 : 0 ≤ A (21 + m) ∧ A (A (21 + m)) < 0
  · rw [if_pos c1, upS] at h
    omega
  · rw [if_neg c1] at h ⊢
    by_cases c2 : chF E A m
    · rw [if_pos c2] at h ⊢
      rw [up_j (by omega), upS]
      have nb := nearF_b A (A (13 + m)) (eH E)
      have c2' : 0 ≤ nearF A (A (13 + m)) (eH E) := c2.1
      exact Or.inr (nb.2.2 c2')
    · rw [if_neg c2] at h ⊢
      by_cases c3 : A (21 + m) < 0
      · rw [if_pos c3]
        exact Or.inl c3
      · rw [if_neg c3, up_j (by omega)]
        exact Or.inr (by
          rcases Int.lt_or_le (A (A (21 + m))) 0 with w | w
          · exact absurd ⟨by omega, w⟩ c1
          · exact w)
theorem mmF_f6 {E : Mem} {A : Int → Int} {m : Int} (h6 : E 1 4 ≤ 6 ∧ 0 ≤ E 1 4) (hm : 0 ≤ m) (hb : A (21 + m) < E 1 4) : mmF E A m (21 + m) < 6 := by
  unfold mmF
  split
  · rw [up_j (by omega)]; omega
  · split
    · rw [up_j (by omega), upS]
      have nb := nearF_b A (A (13 + m)) (eH E)
      have : ((eH E : Nat) : Int) = E 1 4 := by show (((E 1 4).toNat : Nat) : Int) = _; omega
      omega
    · split
      · omega
      · rw [up_j (by omega)]; omega
theorem fol_st {E : Mem} {r : Int → Int} (hE : EBx E) (hW : WR E r) : fol E (stF E r) := by
  have f := hE.f
  have g := hE.2
  intro m h0 h1 he
  have w := hW.2.2.1 m h0 h1
  obtain ⟨A, lo, a1, a2, a3, e1, e2, e3⟩ := st_m (r := r) hE ⟨h0, h1⟩
  by_cases c : 0 ≤ A (29 + m)
  · rw [if_pos c] at e3
    omega
  · rw [if_neg c] at e1 e2 e3
    rw [e3] at he
    have b : A (21 + m) < E 1 4 := by rw [a2]; omega
    have q := mmF_fol h0 (by omega) b he
    have k := mmF_f6 (by omega) h0 b
    rw [e2]
    rcases q with q | q
    · exact Or.inl q
    · exact Or.inr (by rw [← lo _ (by omega)]; exact q)
end
section
/-! THE END on both sides -/
theorem fol_it {E : Mem} {r : Int → Int} (hE : EBx E) (hW : WR E r) (hf : fol E r) (n : Nat) : fol E (itF E n r) := by
  cases n with
  | zero => exact hf
  | succ n => exact fol_st hE (hW.it hE n)
end
section
/-! NOBODY WHO HAS NOT ENDED FOLLOWS ONE THAT HAS ARRIVED, between calls -/
theorem fol.e {E E' : Mem} {r : Int → Int} (h : fol E r) (e : E' 1 5 = E 1 5) : fol E' r := fun m p q w => h m p (by rw [← e]; exact q) w
theorem fol.cg {E : Mem} {r r' : Int → Int} (h : fol E r) (hE : EBx E) (hW : WR E r) (he : ∀ j, 0 ≤ j → j < 38 → r' j = r j) : fol E r' := by
  have g := hE.2
  intro m p q w
  have b := (hW.2.2.1 m p q).1
  rw [he _ (by omega) (by omega)] at w ⊢
  rcases h m p q w with u | u
  · exact Or.inl u
  · rcases Int.lt_or_le (r (21 + m)) 0 with v | v
    · exact Or.inl v
    · exact Or.inr (by rw [he _ v (by omega)]; exact u)
theorem fol_tn {E : Mem} {r : Int → Int} {m : Int} (h : fol E r) (hE : EBx E) (hW : WR E r) (ho : ∀ m, 0 ≤ m → m < E 1 5 → 0 ≤ E 3 m ∧ E 3 m < E 1 4) : fol E (tnR E r m) := by
  have g := hE.2
  unfold tnR
  split
  · rename_i c
    have o := ho m c.1.1 c.1.2
    intro i p q w
    have b := (hW.2.2.1 i p q).1
    rw [up_j (by omega)] at w
    by_cases e : i = m
    · rw [e, upS, up_j (by omega)]
      exact Or.inr c.2.2.1
    · rw [up_j (show 21 + i ≠ 21 + m by omega), up_j (show r (21 + i) ≠ 21 + m by omega)]
      exact h i p q w
  · exact h
theorem fol_ps {E : Mem} {r : Int → Int} {m v : Int} (h : fol E r) (hE : EBx E) (hW : WR E r) : fol E (psR E r m v) := by
  have g := hE.2
  unfold psR
  split
  · rename_i c
    have c0 := c.1.1
    intro i p q w
    have b := (hW.2.2.1 i p q).1
    rw [up_j (by omega)] at w
    rw [up_j (show 21 + i ≠ 13 + m by omega), up_j (show r (21 + i) ≠ 13 + m by omega)]
    exact h i p q w
  · exact h
theorem fol_sw {E : Mem} {r : Int → Int} {a b : Int} (h : fol E r) (hE : EBx E) : fol E (swR E r a b) := by
  have g := hE.2
  unfold swR
  split
  · rename_i c
    obtain ⟨⟨ca, cb, _⟩, c1, c2⟩ := c
    intro i p q w
    rw [up_j (by omega), up_j (by omega)] at w
    rw [up_j (show 21 + i ≠ b by omega), up_j (show 21 + i ≠ a by omega)]
    rcases h i p q w with u | u
    · exact Or.inl u
    · refine Or.inr ?_
      by_cases e : r (21 + i) = b
      · rw [e, upS]; exact c1
      · rw [up_j e]
        by_cases e2 : r (21 + i) = a
        · rw [e2, upS]; exact c2
        · rw [up_j e2]; exact u
  · exact h
theorem fol_do {E : Mem} {r : Int → Int} {P : Int × Int × Int × Int × Int} (h : fol E r) (hE : EBx E) (hW : WR E r) (ho : ∀ m, 0 ≤ m → m < E 1 5 → 0 ≤ E 3 m ∧ E 3 m < E 1 4) : fol E (doR E r P) := by
  unfold doR
  split
  · exact fol_it hE hW h _
  · split
    · exact fol_tn h hE hW ho
    · split
      · exact fol_ps h hE hW
      · split
        · exact fol_ps h hE hW
        · exact fol_sw h hE
theorem fol_hr {E : Mem} {f : Int → Int} {t : Int} (hE : EBx E) (ho : ∀ m, 0 ≤ m → m < E 1 5 → 0 ≤ E 3 m ∧ E 3 m < E 1 4) : ∀ (n : Nat) (a : Int) (r : Int → Int), fol E r → WR E r → fol E (hrG E f t n a r).2.2 := by
  intro n
  induction n with
  | zero => intro a r h _; exact h
  | succ n ih =>
    intro a r h hW
    unfold hrG
    split
    · exact h
    · split
      · exact ih _ _ (fol_do h hE hW ho) (hW.dos hE ho)
      · exact h
theorem shR_oo {E : Mem} {kd n f st : Int} {r : Int → Int} {j : Int} (hj : j < 13 ∨ 21 ≤ j) : ∀ m : Nat, m ≤ 8 → shR E kd n f st r m j = r j := by
  intro m
  induction m with
  | zero => intro _; rfl
  | succ m ih =>
    intro h
    unfold shR
    split
    · rw [up_j (by omega)]; exact ih (by omega)
    · exact ih (by omega)
theorem fol_sh {E : Mem} {kd n f st : Int} {r : Int → Int} (h : fol E r) (hE : EBx E) (hW : WR E r) : fol E (shRR E kd n f st r) := by
  have g := hE.2
  have f' := hE.f
  have o : ∀ j, (j < 13 ∨ 21 ≤ j) → shRR E kd n f st r j = r j := by
    intro j hj
    unfold shRR
    split
    · exact shR_oo hj _ (by omega)
    · rfl
  intro i p q w
  have b := (hW.2.2.1 i p q).1
  rw [o _ (by omega)] at w
  rw [o (21 + i) (by omega), o (r (21 + i)) (by omega)]
  exact h i p q w
theorem rdH_o {f : Int → Int} {t g : Int} : ∀ (n : Nat) (H : Int) (r : Int → Int) (a : Int), 0 ≤ H → (0 ≤ a ∧ a ≤ t) → ∀ j : Int, (13 ≤ j ∨ j < H) → (rdH f t g n H r a).2.2.2 j = r j := by
  intro n
  induction n with
  | zero => intro H r a _ _ j _; rfl
  | succ n ih =>
    intro H r a hH ha j hj
    have b := rd1_b (f := f) (t := t) (g := g) (H := H) (r := r) ha
    unfold rdH
    split
    · rfl
    · rename_i c
      have b6 := b.2.2 (by omega)
      have e : ∀ v, adH r H v j = r j := fun v => by unfold adH; rw [up_j (by omega), up_j (by omega)]
      split
      · rw [ih _ _ _ (by omega) (by omega) j (by omega)]
        exact e _
      · exact e _
theorem rdM_o {f : Int → Int} {t g H : Int} : ∀ (n : Nat) (m : Int) (r w : Int → Int) (a : Int), 0 ≤ m → (0 ≤ a ∧ a ≤ t) → (∀ j : Int, j < 13 → (rdM f t g H n m r w a).2.2.2.1 j = r j) ∧ (∀ i : Int, 0 ≤ i → i < m → (rdM f t g H n m r w a).2.2.2.1 (21 + i) = r (21 + i) ∧ (rdM f t g H n m r w a).2.2.2.1 (29 + i) = r (29 + i)) ∧ ∀ i : Int, m ≤ i → i < (rdM f t g H n m r w a).2.2.1 → (rdM f t g H n m r w a).2.2.2.1 (21 + i) = -1 := by
  intro n
  induction n with
  | zero => intro m r w a _ _; exact ⟨fun _ _ => rfl, fun _ _ _ => ⟨rfl, rfl⟩, fun i p q => by have q' : i < m := q; omega⟩
  | succ n ih =>
    intro m r w a hm ha
    have b := rd2_b (f := f) (t := t) (g := g) (H := H) (m := m) ha
    unfold rdM
    split
    · exact ⟨fun _ _ => rfl, fun _ _ _ => ⟨rfl, rfl⟩, fun i p q => by have q' : i < m := q; omega⟩
    · rename_i c
      have b8 := (b.2.2 (by omega)).1
      have e1 : ∀ v j, j < 13 → adM r m v j = r j := fun v j hj => by unfold adM; rw [up_j (by omega), up_j (by omega), up_j (by omega)]
      have e2 : ∀ v i, 0 ≤ i → i < m → adM r m v (21 + i) = r (21 + i) ∧ adM r m v (29 + i) = r (29 + i) := fun v i p q => by
        unfold adM
        rw [up_j (by omega), up_j (by omega), up_j (by omega), up_j (by omega), up_j (by omega), up_j (by omega)]
        exact ⟨rfl, rfl⟩
      have e3 : ∀ v, adM r m v (21 + m) = -1 := fun v => by unfold adM; rw [up_j (by omega), upS]
      split
      · obtain ⟨i1, i2, i3⟩ := ih (m + 1) (adM r m (rd2 f t g H m a).1) (up w m (rd2 f t g H m a).2.1) ((rd2 f t g H m a).2.2 + 1) (by omega) (by omega)
        refine ⟨fun j hj => (i1 j hj).trans (e1 _ j hj), fun i p q => ?_, fun i p q => ?_⟩
        · obtain ⟨u, v⟩ := i2 i p (by omega)
          exact ⟨u.trans (e2 _ i p q).1, v.trans (e2 _ i p q).2⟩
        · by_cases e : i = m
          · rw [e]
            exact (i2 m hm (by omega)).1.trans (e3 _)
          · exact i3 i (by omega) q
      · refine ⟨fun j hj => e1 _ j hj, fun i p q => e2 _ i p q, fun i p q => ?_⟩
        have q' : i < m + 1 := q
        rw [show i = m from by omega]
        exact e3 _
theorem fol_rdH {E : Mem} {f : Int → Int} {t g a : Int} {r : Int → Int} {n : Nat} (h : fol E r) (hE : EBx E) (hW : WR E r) (ha : 0 ≤ a ∧ a ≤ t) : fol E (rdH f t g n (E 1 4) r a).2.2.2 := by
  have g' := hE.2
  have o := rdH_o (f := f) (t := t) (g := g) n (E 1 4) r a g'.1.1 ha
  intro m p q w
  have b := (hW.2.2.1 m p q).1
  rw [o _ (by omega)] at w
  rw [o (21 + m) (by omega), o (r (21 + m)) (by omega)]
  exact h m p q w
theorem fol_rdM {E E' : Mem} {f : Int → Int} {t g a H : Int} {r w : Int → Int} {n : Nat} (h : fol E r) (hE : EBx E) (hW : WR E r) (ha : 0 ≤ a ∧ a ≤ t) (e5 : E' 1 5 = (rdM f t g H n (E 1 5) r w a).2.2.1) : fol E' (rdM f t g H n (E 1 5) r w a).2.2.2.1 := by
  have g' := hE.2
  obtain ⟨o1, o2, o3⟩ := rdM_o (f := f) (t := t) (g := g) (H := H) n (E 1 5) r w a g'.2.1 ha
  intro m p q u
  rw [e5] at q
  by_cases c : m < E 1 5
  · have b := (hW.2.2.1 m p c).1
    have o := o2 m p c
    rw [o.2] at u
    rw [o.1, o1 (r (21 + m)) (by omega)]
    exact h m p c u
  · exact Or.inl (by rw [o3 m (by omega) q]; decide)
/-- of the row now, of those that can come back, of those that are kept and still fit -/
def FOLS (M : Mem) : Prop := fol M (M 5) ∧ (∀ i, 0 ≤ i → i < M 1 28 → fol M (sg (M 15) i)) ∧ ∀ i, 0 ≤ i → i < 3 → M 29 i ≠ 0 → M 30 i = M 1 6 → fol M (sg (M 31) i)
theorem FOLS.fr {M M' : Mem} (h : FOLS M) (hm : ∀ (k : Nat) (j : Int), (k = 5 ∨ k = 15 ∨ k = 29 ∨ k = 30 ∨ k = 31 ∨ (k = 1 ∧ (j = 5 ∨ j = 6 ∨ j = 28))) → M' k j = M k j) : FOLS M' := by
  have e5 := hm 1 5 (by omega)
  have f5 : M' 5 = M 5 := funext fun j => hm 5 j (by omega)
  have f15 : M' 15 = M 15 := funext fun j => hm 15 j (by omega)
  have f31 : M' 31 = M 31 := funext fun j => hm 31 j (by omega)
  refine ⟨by rw [f5]; exact h.1.e e5, fun i p q => ?_, fun i p q w u => ?_⟩
  · rw [f15]
    exact (h.2.1 i p (by rw [← hm 1 28 (by omega)]; exact q)).e e5
  · rw [f31]
    exact (h.2.2 i p q (by rw [← hm 29 i (by omega)]; exact w) (by rw [← hm 30 i (by omega), ← hm 1 6 (by omega)]; exact u)).e e5
theorem FOLS.z {M : Mem} (h : M 1 5 = 0) : FOLS M := ⟨fun m p q => by omega, fun _ _ _ m p q => by omega, fun _ _ _ _ _ m p q => by omega⟩
theorem FOLS.act {MX MM MM' : Mem} {r' : Int → Int} (h : FOLS MM) (S : STA (cut MM) MX MM) (hE : EBx (cut MM)) (hm : RACT MM MM' r') (hf : fol (cut MM) r') : FOLS MM' := by
  obtain ⟨m1, m2, m3⟩ := hm
  have e5 : MM' 1 5 = MM 1 5 := m1 1 5 (by omega) (by decide) (by omega)
  have c5 : cut MM 1 5 = MM 1 5 := cut15 MM
  have f31 : MM' 31 = MM 31 := funext fun j => m1 31 j (by omega) (by decide) (by omega)
  have row : ∀ {r : Int → Int} {s : Int → Int}, fol MM r → WR (cut MM) r → (∀ j, 0 ≤ j → j < 38 → s j = r j) → fol MM' s := fun a w e => (fol.cg (a.e c5) hE w e).e (by rw [e5, c5])
  refine ⟨by rw [m2]; exact hf.e (by rw [e5, c5]), fun i p q => ?_, fun i p q w u => ?_⟩
  · rcases m3 with ⟨r1, r2, r3, r4⟩ | ⟨r1, r2, r3, r4⟩
    · by_cases ci : i = MM 1 28
      · rw [ci]
        exact row h.1 S.2.2.2.1 (fun j a b => r4 j a b)
      · exact row (h.2.1 i p (by omega)) (S.2.2.2.2.1.2 i p (by omega)).2 (fun j a b => r3 _ (by omega) (by omega))
    · by_cases ci : i = 14
      · rw [ci]
        exact row h.1 S.2.2.2.1 (fun j a b => r4 j a b)
      · refine row (h.2.1 (i + 1) (by omega) (by omega)) (S.2.2.2.2.1.2 (i + 1) (by omega) (by omega)).2 (fun j a b => ?_)
        show MM' 15 (38 * i + j) = MM 15 (38 * (i + 1) + j)
        rw [r3 _ (by omega) (by omega), show 38 * i + j + 38 = 38 * (i + 1) + j from by omega]
  · rw [f31]
    exact (h.2.2 i p q (by rw [← m1 29 i (by omega) (by decide) (by omega)]; exact w) (by rw [← m1 30 i (by omega) (by decide) (by omega), ← m1 1 6 (by omega) (by decide) (by omega)]; exact u)).e e5
theorem FOLS.nop {MX MM MM' : Mem} (h : FOLS MM) (S : STA (cut MM) MX MM) (hE : EBx (cut MM)) (hm : RNOP MM MM') : FOLS MM' := by
  obtain ⟨m1, m2, m3⟩ := hm
  have e5 : MM' 1 5 = MM 1 5 := m1 1 5 (by omega) (by decide) (by decide)
  have c5 : cut MM 1 5 = MM 1 5 := cut15 MM
  have f31 : MM' 31 = MM 31 := funext fun j => m1 31 j (by omega) (by decide) (by decide)
  refine ⟨by rw [m2]; exact h.1.e e5, fun i p q => ?_, fun i p q w u => ?_⟩
  · rw [m1 1 28 (by omega) (by decide) (by decide)] at q
    exact (fol.cg ((h.2.1 i p q).e c5) hE (S.2.2.2.2.1.2 i p q).2 (fun j a b => m3 _ (by omega) (by omega))).e (by rw [e5, c5])
  · rw [f31]
    exact (h.2.2 i p q (by rw [← m1 29 i (by omega) (by decide) (by decide)]; exact w) (by rw [← m1 30 i (by omega) (by decide) (by decide), ← m1 1 6 (by omega) (by decide) (by decide)]; exact u)).e e5
theorem FOLS.new {MX MM MM' : Mem} (S : STA (cut MM) MX MM) (m28 : MM' 1 28 = 0) (m6 : MM' 1 6 = MM 1 6 + 1) (e29 : ∀ i, MM' 29 i = MM 29 i) (e30 : ∀ i, MM' 30 i = MM 30 i) (hf : fol MM' (MM' 5)) : FOLS MM' := by
  refine ⟨hf, fun i p q => by omega, fun i p q w u => ?_⟩
  exfalso
  obtain ⟨k1, k2⟩ := S.2.2.2.2.2 i p q
  rw [e29] at w
  have := (k2 (fun z => w (k1.mp z))).1
  rw [e30, m6] at u
  omega
theorem FOLS.now {MM MM' : Mem} {r' : Int → Int} (h : FOLS MM) (km : FrJ (fun k j => k = 5 ∨ (k = 1 ∧ j = 0)) MM MM') (m5 : MM' 5 = r') (hf : fol (cut MM) r') : FOLS MM' := by
  have e5 : MM' 1 5 = MM 1 5 := km 1 5 (by omega)
  have c5 : cut MM 1 5 = MM 1 5 := cut15 MM
  have f15 : MM' 15 = MM 15 := funext fun j => km 15 j (by omega)
  have f31 : MM' 31 = MM 31 := funext fun j => km 31 j (by omega)
  refine ⟨by rw [m5]; exact hf.e (by rw [e5, c5]), fun i p q => ?_, fun i p q w u => ?_⟩
  · rw [f15]
    exact (h.2.1 i p (by rw [← km 1 28 (by omega)]; exact q)).e e5
  · rw [f31]
    exact (h.2.2 i p q (by rw [← km 29 i (by omega)]; exact w) (by rw [← km 30 i (by omega), ← km 1 6 (by omega)]; exact u)).e e5
theorem FOLS.undo {MX MM MM' : Mem} (h : FOLS MM) (S : STA (cut MM) MX MM) (hE : EBx (cut MM)) (hn : 0 < MM 1 28) (km : FrJ (fun k j => k = 5 ∨ (k = 1 ∧ (j = 0 ∨ j = 28))) MM MM') (m2 : MM' 1 28 = MM 1 28 - 1) (ms : ∀ j, 0 ≤ j → j < 38 → MM' 5 j = MM 15 (38 * (MM 1 28 - 1) + j)) : FOLS MM' := by
  have e5 : MM' 1 5 = MM 1 5 := km 1 5 (by omega)
  have c5 : cut MM 1 5 = MM 1 5 := cut15 MM
  have f15 : MM' 15 = MM 15 := funext fun j => km 15 j (by omega)
  have f31 : MM' 31 = MM 31 := funext fun j => km 31 j (by omega)
  refine ⟨?_, fun i p q => ?_, fun i p q w u => ?_⟩
  · exact (fol.cg ((h.2.1 (MM 1 28 - 1) (by omega) (by omega)).e c5) hE (S.2.2.2.2.1.2 (MM 1 28 - 1) (by omega) (by omega)).2 ms).e (by rw [e5, c5])
  · rw [f15]
    exact (h.2.1 i p (by omega)).e e5
  · rw [f31]
    exact (h.2.2 i p q (by rw [← km 29 i (by omega)]; exact w) (by rw [← km 30 i (by omega), ← km 1 6 (by omega)]; exact u)).e e5
theorem FOLS.keep {MX MM MM' : Mem} {p1 : Int} (h : FOLS MM) (S : STA (cut MM) MX MM) (hE : EBx (cut MM)) (cp : 0 ≤ p1 ∧ p1 ≤ 2) (km : FrJ (fun k j => (k = 31 ∧ 38 * p1 ≤ j ∧ j < 38 * p1 + 38) ∨ (k = 29 ∧ j = p1) ∨ (k = 30 ∧ j = p1) ∨ (k = 1 ∧ j = 0)) MM MM') (ms : ∀ j, 0 ≤ j → j < 38 → MM' 31 (38 * p1 + j) = MM 5 j) : FOLS MM' := by
  have e5 : MM' 1 5 = MM 1 5 := km 1 5 (by omega)
  have c5 : cut MM 1 5 = MM 1 5 := cut15 MM
  have f5 : MM' 5 = MM 5 := funext fun j => km 5 j (by omega)
  have f15 : MM' 15 = MM 15 := funext fun j => km 15 j (by omega)
  refine ⟨by rw [f5]; exact h.1.e e5, fun i p q => ?_, fun i p q w u => ?_⟩
  · rw [f15]
    exact (h.2.1 i p (by rw [← km 1 28 (by omega)]; exact q)).e e5
  · by_cases c : i = p1
    · rw [c]
      exact (fol.cg (h.1.e c5) hE S.2.2.2.1 ms).e (by rw [e5, c5])
    · rw [km 29 i (by omega)] at w
      rw [km 30 i (by omega), km 1 6 (by omega)] at u
      obtain ⟨k1, k2⟩ := S.2.2.2.2.2 i p q
      have W := ((k2 (fun z => w (k1.mp z))).2.2.1 u).2
      exact (fol.cg ((h.2.2 i p q w u).e c5) hE W (fun j a b => km 31 _ (by omega))).e (by rw [e5, c5])
theorem FOLS.again {MX MM MM' : Mem} {p1 : Int} (h : FOLS MM) (S : STA (cut MM) MX MM) (hE : EBx (cut MM)) (cp : 0 ≤ p1 ∧ p1 ≤ 2) (hk : MM 29 p1 ≠ 0) (hc : MM 30 p1 = MM 1 6) (km : FrJ (fun k j => k = 5 ∨ (k = 1 ∧ (j = 0 ∨ j = 28))) MM MM') (m2 : MM' 1 28 = 0) (ms : ∀ j, 0 ≤ j → j < 38 → MM' 5 j = MM 31 (38 * p1 + j)) : FOLS MM' := by
  have e5 : MM' 1 5 = MM 1 5 := km 1 5 (by omega)
  have c5 : cut MM 1 5 = MM 1 5 := cut15 MM
  have f31 : MM' 31 = MM 31 := funext fun j => km 31 j (by omega)
  refine ⟨?_, fun i p q => by omega, fun i p q w u => ?_⟩
  · obtain ⟨k1, k2⟩ := S.2.2.2.2.2 p1 cp.1 (by omega)
    have W := ((k2 (fun z => hk (k1.mp z))).2.2.1 hc).2
    exact (fol.cg ((h.2.2 p1 cp.1 (by omega) hk hc).e c5) hE W ms).e (by rw [e5, c5])
  · rw [f31]
    exact (h.2.2 i p q (by rw [← km 29 i (by omega)]; exact w) (by rw [← km 30 i (by omega), ← km 1 6 (by omega)]; exact u)).e e5
end
section
/-! WHAT WAS HEARD, alike on both sides -/
def CBv (k v : Int) : Prop := (k = 0 ∨ k = 2) ∧ 0 ≤ v ∧ v ≤ 8 ∨ k = 1 ∧ 1 ≤ v ∧ v ≤ 6 ∨ k = 3 ∧ (v = 0 ∨ v = 1)
theorem gX11_heardC {p0 p1 : Int} {M : Mem} {Q : Int → Mem → Prop} (hI : IX M) (hQ : ∀ (z : Int) (M' : Mem), IX M' → ((M 182 2 ≤ 7 ∧ ((p0 = 0 ∨ p0 = 2) ∧ 0 ≤ p1 ∧ p1 ≤ 8 ∨ p0 = 1 ∧ 1 ≤ p1 ∧ p1 ≤ 6 ∨ p0 = 3 ∧ (p1 = 0 ∨ p1 = 1))) ∧ z = M 182 2 + 1 ∧ M' 182 2 = M 182 2 + 1 ∧ M' 183 = up (M 183) (M 182 2) p0 ∧ M' 184 = up (M 184) (M 182 2) p1 ∨ ¬ (M 182 2 ≤ 7 ∧ ((p0 = 0 ∨ p0 = 2) ∧ 0 ≤ p1 ∧ p1 ≤ 8 ∨ p0 = 1 ∧ 1 ≤ p1 ∧ p1 ≤ 6 ∨ p0 = 3 ∧ (p1 = 0 ∨ p1 = 1))) ∧ z = -1 ∧ M' 182 2 = M 182 2 ∧ M' 183 = M 183 ∧ M' 184 = M 184) → Q z M') : qX11_heard p0 p1 M Q := by
  unfold qX11_heard qX0_add
  intro x1 e1 _
  have b1 : 0 ≤ x1 ∧ x1 ≤ 8 := by rw [e1]; exact bx_c182_2.mp (hI.bx _ _)
  refine ⟨fun c => ?_, fun c => ?_⟩
  · intro _ _
    exact ⟨fun _ => hQ _ _ hI (Or.inr ⟨by omega, rfl, rfl, rfl, rfl⟩), fun q => absurd rfl q⟩
  · refine gX0_canBe ?_
    intro x3 p3 _ _
    refine ⟨fun c2 => ?_, fun c2 => ?_⟩
    · intro x5 e5 _
      refine ⟨by omega, by omega, ?_⟩
      intro M8 h8 x9 e9 _
      have i8 : IX M8 := by rw [h8]; exact hI.up (by decide) (by simp [BX])
      have f9 : x9 = x1 := by rw [e9, h8, up2_n (by decide), e1]
      refine ⟨by omega, by omega, ?_⟩
      intro M12 h12 x13 e13 _
      have i12 : IX M12 := by rw [h12]; exact i8.up (by decide) (by simp [BX])
      have f13 : x13 = x1 := by rw [e13, h12, up2_n (by decide), ← e9, f9]
      refine ⟨⟨by omega, by omega⟩, ?_⟩
      intro M15 h15 _ _
      refine ⟨fun q => absurd q (by decide), fun _ => ?_⟩
      intro x16 e16 _
      have k15 : M15 182 2 = M 182 2 + 1 := by rw [h15, up2_s]; omega
      exact hQ _ _ (by rw [h15]; exact i12.up (by decide) (bx_c182_2.mpr ⟨by omega, by omega⟩)) (Or.inl ⟨by omega, by rw [e16, k15], k15, by
        rw [h15]
        funext j
        rw [up2_n (by decide), h12, up2_n (by decide), h8, up2_up, e5], by
        rw [h15]
        funext j
        rw [up2_n (by decide), h12, up2_up, f9, e1]
        congr 1
        rw [h8]
        funext i
        rw [up2_n (by decide)]⟩)
    · intro _ _
      exact ⟨fun _ => hQ _ _ hI (Or.inr ⟨by omega, rfl, rfl, rfl, rfl⟩), fun q => absurd rfl q⟩
theorem gX12_heardC {p0 p1 b : Int} {M : Mem} {Q : Int → Mem → Prop} (hI : IM b M) (hp : iR p1) (hQ : ∀ (z : Int) (M' : Mem), IM b M' → ((M 1 45 ≤ 7 ∧ ((p0 = 0 ∨ p0 = 2) ∧ 0 ≤ p1 ∧ p1 ≤ 8 ∨ p0 = 1 ∧ 1 ≤ p1 ∧ p1 ≤ 6 ∨ p0 = 3 ∧ (p1 = 0 ∨ p1 = 1))) ∧ z = M 1 45 + 1 ∧ M' 1 45 = M 1 45 + 1 ∧ M' 26 = up (M 26) (M 1 45) p0 ∧ M' 27 = up (M 27) (M 1 45) p1 ∨ ¬ (M 1 45 ≤ 7 ∧ ((p0 = 0 ∨ p0 = 2) ∧ 0 ≤ p1 ∧ p1 ≤ 8 ∨ p0 = 1 ∧ 1 ≤ p1 ∧ p1 ≤ 6 ∨ p0 = 3 ∧ (p1 = 0 ∨ p1 = 1))) ∧ z = -1 ∧ M' 1 45 = M 1 45 ∧ M' 26 = M 26 ∧ M' 27 = M 27) → Q z M') : qX12_heard p0 p1 M Q := by
  have b45 := bm_c1_45.mp (hI.bx 1 45)
  have hp2 : -2147483648 ≤ p1 ∧ p1 ≤ 2147483647 := hp
  unfold qX12_heard
  intro M1 h1
  have i1 : IM b M1 := by rw [h1]; exact hI.up (by omega) (by simp [BM])
  have g1 : M1 1 45 = M 1 45 := by rw [h1, up2_j (by decide)]
  have g26 : M1 26 = M 26 := by rw [h1]; funext j; rw [up2_n (by decide)]
  have g27 : M1 27 = M 27 := by rw [h1]; funext j; rw [up2_n (by decide)]
  have J51 : ∀ (hi lo : Int), (hi = 8 ∨ hi = 1 ∨ hi = 6) → (lo = 0 ∨ lo = 1) → ((lo ≤ p1 ∧ p1 ≤ hi) ∧ ((p0 = 0 ∨ p0 = 2) ∧ 0 ≤ p1 ∧ p1 ≤ 8 ∨ p0 = 1 ∧ 1 ≤ p1 ∧ p1 ≤ 6 ∨ p0 = 3 ∧ (p1 = 0 ∨ p1 = 1)) ∨ ¬ (lo ≤ p1 ∧ p1 ≤ hi) ∧ ¬ ((p0 = 0 ∨ p0 = 2) ∧ 0 ≤ p1 ∧ p1 ≤ 8 ∨ p0 = 1 ∧ 1 ≤ p1 ∧ p1 ≤ 6 ∨ p0 = 3 ∧ (p1 = 0 ∨ p1 = 1))) → qX12_heard_J51 p0 p1 Q hi lo p1 M1 := by
    intro hi lo h8 h0 hc
    unfold qX12_heard_J51
    refine ⟨⟨by omega, by omega⟩, ?_⟩
    refine sX12_flag (p0 := lo) i1 ?_
    intro x8 p8 _
    refine ⟨⟨by omega, by omega⟩, iR_lR hp, ?_⟩
    refine sX12_in (p0 := p1) (p2 := x8) (p4 := hi) i1 ?_
    intro x11 p11 _ _
    refine ⟨fun c => hQ _ _ i1 (Or.inr ⟨by omega, rfl, g1, g26, g27⟩), fun c => ?_⟩
    intro x13 e13 _
    refine ⟨fun c2 => ?_, fun c2 => hQ _ _ i1 (Or.inr ⟨by omega, rfl, g1, g26, g27⟩)⟩
    intro x15 e15 _
    refine ⟨by omega, by omega, ?_⟩
    intro M18 h18 x19 e19 _
    have i18 : IM b M18 := by rw [h18]; exact i1.up (by omega) (by simp [BM])
    have f19 : x19 = M 1 45 := by rw [e19, h18, up2_n (by decide), g1]
    refine ⟨by omega, by omega, ?_⟩
    intro M22 h22 x23 e23 _
    have i22 : IM b M22 := by rw [h22]; exact i18.up (by omega) (by simp [BM])
    have f23 : x23 = M 1 45 := by rw [e23, h22, up2_n (by decide), ← e19, f19]
    refine ⟨⟨by omega, by omega⟩, ?_⟩
    intro M25 h25 x26 e26 _
    have k25 : M25 1 45 = M 1 45 + 1 := by rw [h25, up2_s]; omega
    exact hQ _ _ (by rw [h25]; exact i22.up (by omega) (bm_c1_45.mpr ⟨by omega, by omega⟩)) (Or.inl ⟨by omega, by rw [e26, k25], k25, by
      rw [h25]
      funext j
      rw [up2_n (by decide), h22, up2_n (by decide), h18, up2_up, e15, g1, g26], by
      rw [h25]
      funext j
      rw [up2_n (by decide), h22, up2_up, f19]
      congr 1
      rw [h18]
      funext i
      rw [up2_n (by decide), g27]⟩)
  have J26 : ∀ hi : Int, (p0 = 1 ∧ hi = 6 ∨ p0 = 3 ∧ hi = 1 ∨ p0 ≠ 1 ∧ p0 ≠ 3 ∧ hi = 8) → qX12_heard_J26 p0 p1 Q hi M1 := by
    intro hi hh
    unfold qX12_heard_J26
    refine sX12_in (p0 := p0) (p2 := 0) (p4 := 3) i1 ?_
    intro x4 p4 _ _
    refine ⟨fun c => hQ _ _ i1 (Or.inr ⟨by omega, rfl, g1, g26, g27⟩), fun c => ⟨fun c2 => J51 _ _ (by omega) (Or.inl rfl) (by omega), fun c2 => J51 _ _ (by omega) (Or.inr rfl) (by omega)⟩⟩
  exact ⟨fun c => ⟨fun c2 => J26 _ (by omega), fun c2 => J26 _ (by omega)⟩, fun c => J26 _ (by omega)⟩
def HRD (MX MM : Mem) : Prop := ∀ i, 0 ≤ i → i < MX 182 2 → MX 183 i = MM 26 i ∧ MX 184 i = MM 27 i ∧ CBv (MX 183 i) (MX 184 i)
theorem HRD.nil {MX MM : Mem} (h : MX 182 2 = 0) : HRD MX MM := fun i p q => by omega
theorem HRD.fr {MX MM MX1 MM1 : Mem} (h : HRD MX MM) (e : MX1 182 2 = MX 182 2) (hh : ∀ j, MX1 183 j = MX 183 j ∧ MX1 184 j = MX 184 j ∧ MM1 26 j = MM 26 j ∧ MM1 27 j = MM 27 j) : HRD MX1 MM1 := by
  intro i p q
  obtain ⟨a, b, c, d⟩ := hh i
  rw [a, b, c, d]
  exact h i p (by omega)
theorem HRD.add {MX MM MX1 MM1 : Mem} {k v : Int} (h : HRD MX MM) (hb : CBv k v) (e : MX1 182 2 = MX 182 2 + 1) (ec : MX 182 2 = MM 1 45) (x3 : MX1 183 = up (MX 183) (MX 182 2) k) (x4 : MX1 184 = up (MX 184) (MX 182 2) v) (m3 : MM1 26 = up (MM 26) (MM 1 45) k) (m4 : MM1 27 = up (MM 27) (MM 1 45) v) : HRD MX1 MM1 := by
  intro i p q
  rw [x3, x4, m3, m4, ← ec]
  by_cases c : i = MX 182 2
  · rw [c, upS, upS, upS, upS]
    exact ⟨rfl, rfl, hb⟩
  · rw [up_j c, up_j c, up_j c, up_j c]
    exact h i p (by omega)
end
section
/-! THE RELATION over the whole state -/
theorem dgC_cg {f g : Int → Int} {t : Int} (h : ∀ j, 0 ≤ j → j < t → f j = g j) : ∀ (p : Nat) (a : Int), 0 ≤ a → dgC f t p a = dgC g t p a := by
  intro p
  induction p with
  | zero => intro a _; rfl
  | succ p ih =>
    intro a ha
    unfold dgC
    by_cases c : a < t
    · rw [h a ha c, ih (a + 1) (by omega)]
    · rw [if_neg (fun q => c q.1), if_neg (fun q => c q.1)]
theorem nuZ_cg {f g : Int → Int} {t : Int} (h : ∀ j, 0 ≤ j → j < t → f j = g j) (p : Nat) {a : Int} (ha : 0 ≤ a) : nuZ f t p a = nuZ g t p a := by
  have e := dgC_cg h p a ha
  have c := dgC_c (f := g) (t := t) p a
  unfold nuZ
  rw [e, nmV_cg (f := f) (g := g) (dgC g t p a) (fun i p q => h _ (by omega) (c.2.1 i p q).1)]
theorem rd1_cg {f g : Int → Int} {t gg H : Int} {r : Int → Int} {a : Int} (h : ∀ j, 0 ≤ j → j < t → f j = g j) (ha : 0 ≤ a) : rd1 f t gg H r a = rd1 g t gg H r a := by
  unfold rd1
  rw [nuZ_cg h 2 ha, dgC_cg h 2 a ha]
theorem rdH_cg {f g : Int → Int} {t gg : Int} (h : ∀ j, 0 ≤ j → j < t → f j = g j) : ∀ (n : Nat) (H : Int) (r : Int → Int) (a : Int), 0 ≤ a → a ≤ t → rdH f t gg n H r a = rdH g t gg n H r a := by
  intro n
  induction n with
  | zero => intro H r a _ _; rfl
  | succ n ih =>
    intro H r a ha ht
    have b := (rd1_b (f := g) (t := t) (g := gg) (H := H) (r := r) ⟨ha, ht⟩).1
    unfold rdH
    rw [rd1_cg h ha]
    by_cases c : (rd1 g t gg H r a).2 < t
    · rw [h _ b.1 c]
      by_cases c3 : g (rd1 g t gg H r a).2 = 59
      · have e := ih (H + 1) (adH r H (rd1 g t gg H r a).1) ((rd1 g t gg H r a).2 + 1) (by omega) (by omega)
        rw [e]
      · have n3 : ¬ ((rd1 g t gg H r a).2 < t ∧ g (rd1 g t gg H r a).2 = 59) := fun q => c3 q.2
        rw [if_neg n3, if_neg n3]
    · rw [if_neg (c := (rd1 g t gg H r a).2 < t ∧ f (rd1 g t gg H r a).2 = 59) (fun q => c q.1), if_neg (c := (rd1 g t gg H r a).2 < t ∧ g (rd1 g t gg H r a).2 = 59) (fun q => c q.1)]
theorem rd2_cg {f g : Int → Int} {t gg H m a : Int} (h : ∀ j, 0 ≤ j → j < t → f j = g j) (ha : 0 ≤ a) : rd2 f t gg H m a = rd2 g t gg H m a := by
  unfold rd2
  rw [nuZ_cg h 2 ha, dgC_cg h 2 a ha]
  by_cases c : a + dgC g t 2 a < t
  · rw [h _ (by omega) c]
  · rw [if_neg (c := a + dgC g t 2 a < t ∧ 97 ≤ f (a + dgC g t 2 a) ∧ f (a + dgC g t 2 a) < 97 + H) (fun q => c q.1), if_neg (c := a + dgC g t 2 a < t ∧ 97 ≤ g (a + dgC g t 2 a) ∧ g (a + dgC g t 2 a) < 97 + H) (fun q => c q.1)]
theorem rdM_cg {f g : Int → Int} {t gg H : Int} (h : ∀ j, 0 ≤ j → j < t → f j = g j) : ∀ (n : Nat) (m : Int) (r w : Int → Int) (a : Int), 0 ≤ a → a ≤ t → rdM f t gg H n m r w a = rdM g t gg H n m r w a := by
  intro n
  induction n with
  | zero => intro m r w a _ _; rfl
  | succ n ih =>
    intro m r w a ha ht
    have b := (rd2_b (f := g) (t := t) (g := gg) (H := H) (m := m) ⟨ha, ht⟩).1
    unfold rdM
    rw [rd2_cg h ha]
    by_cases c : (rd2 g t gg H m a).2.2 < t
    · rw [h _ b.1 c]
      by_cases c3 : g (rd2 g t gg H m a).2.2 = 59
      · have e := ih (m + 1) (adM r m (rd2 g t gg H m a).1) (up w m (rd2 g t gg H m a).2.1) ((rd2 g t gg H m a).2.2 + 1) (by omega) (by omega)
        rw [e]
      · have n3 : ¬ ((rd2 g t gg H m a).2.2 < t ∧ g (rd2 g t gg H m a).2.2 = 59) := fun q => c3 q.2
        rw [if_neg n3, if_neg n3]
    · rw [if_neg (c := (rd2 g t gg H m a).2.2 < t ∧ f (rd2 g t gg H m a).2.2 = 59) (fun q => c q.1), if_neg (c := (rd2 g t gg H m a).2.2 < t ∧ g (rd2 g t gg H m a).2.2 = 59) (fun q => c q.1)]
/-- both in their boxes; the texts alike, as much heard; the two states are one -/
def Rel (k : Nat) (MX MM : Mem) : Prop := IX MX ∧ IM (60000 * (k : Int)) MM ∧ MX 156 1 = MM 1 14 ∧ MX 182 2 = MM 1 45 ∧ (∀ j, 0 ≤ j → j < MX 156 1 → MX 157 j = MM 7 j) ∧ STA (cut MM) MX MM ∧ FOLS MM ∧ HRD MX MM
theorem Rel_skip {k : Nat} {MX MM : Mem} (h : Rel k MX MM) : Rel (k + 1) MX MM := ⟨h.1, h.2.1.mono (by omega), h.2.2⟩
theorem Rel.S {k : Nat} {MX MM : Mem} (h : Rel k MX MM) : STA (cut MM) MX MM := h.2.2.2.2.2.1
theorem Rel.F {k : Nat} {MX MM : Mem} (h : Rel k MX MM) : FOLS MM := h.2.2.2.2.2.2.1
theorem Rel.H {k : Nat} {MX MM : Mem} (h : Rel k MX MM) : HRD MX MM := h.2.2.2.2.2.2.2
theorem Rel.f {k : Nat} {MX MM : Mem} (h : Rel k MX MM) : fol (cut MM) (MM 5) := h.F.1.e (cut15 MM)
theorem Rel.E0 {k : Nat} {MX MM : Mem} (h : Rel k MX MM) : EBx (cut MM) := cut_EB h.2.1
theorem Rel.W {k : Nat} {MX MM : Mem} (h : Rel k MX MM) : WFC (cut MM 11) (cut MM 1 24) := cut_W h.2.1
theorem Rel.own {k : Nat} {MX MM : Mem} (h : Rel k MX MM) : ∀ m, 0 ≤ m → m < cut MM 1 5 → 0 ≤ cut MM 3 m ∧ cut MM 3 m < cut MM 1 4 := h.S.1.2.2.2.2.2.2.2.2
theorem Rel.r37 {k : Nat} {MX MM : Mem} (h : Rel k MX MM) (hk : k < 512) : MM 5 37 ≤ 1999990000 := by
  have := ((bm_n (Or.inl rfl)).mp (h.2.1.bx 5 37)).2.2.2 rfl
  omega
/-- a question: what it writes is none of the state -/
theorem Rel.q {k : Nat} {MX MM MX1 MM1 : Mem} {b : Int} (h : Rel k MX MM) (iX : IX MX1) (iM : IM b MM1) (hb : b ≤ 60000 * ((k : Int) + 1)) (x1 : MX1 156 1 = MX 156 1) (m1 : MM1 1 14 = MM 1 14) (x2 : MX1 182 2 = MX 182 2) (m2 : MM1 1 45 = MM 1 45) (x3 : ∀ j, MX1 157 j = MX 157 j) (m3 : ∀ j, MM1 7 j = MM 7 j) (hh : ∀ j, MX1 183 j = MX 183 j ∧ MX1 184 j = MX 184 j ∧ MM1 26 j = MM 26 j ∧ MM1 27 j = MM 27 j) (hx : ∀ (k : Nat) (j : Int), stX k j → MX1 k j = MX k j) (hm : ∀ (k : Nat) (j : Int), stM k j → MM1 k j = MM k j) : Rel (k + 1) MX1 MM1 := by
  have ec : cut MM1 = cut MM := cut_of (fun k j c => hm k j (Or.inl c))
  refine ⟨iX, iM.mono (by omega), by rw [x1, m1]; exact h.2.2.1, by rw [x2, m2]; exact h.2.2.2.1, fun j a q => ?_, ?_, h.F.fr (fun k j c => hm k j (by omega)), h.H.fr x2 hh⟩
  · rw [x3, m3]
    exact h.2.2.2.2.1 j a (by rw [x1] at q; exact q)
  · rw [ec]
    exact h.S.fr h.E0 h.1 hx hm
/-- a call that changes the state, not the text -/
theorem Rel.s {k : Nat} {MX MM MX1 MM1 : Mem} {b : Int} (h : Rel k MX MM) (iX : IX MX1) (iM : IM b MM1) (hb : b ≤ 60000 * ((k : Int) + 1)) (x1 : MX1 156 1 = MX 156 1) (m1 : MM1 1 14 = MM 1 14) (x2 : MX1 182 2 = MX 182 2) (m2 : MM1 1 45 = MM 1 45) (x3 : ∀ j, MX1 157 j = MX 157 j) (m3 : ∀ j, MM1 7 j = MM 7 j) (hh : ∀ j, MX1 183 j = MX 183 j ∧ MX1 184 j = MX 184 j ∧ MM1 26 j = MM 26 j ∧ MM1 27 j = MM 27 j) (ec : ∀ (k : Nat) (j : Int), cE k j → MM1 k j = MM k j) (hF : FOLS MM1) (hS : STA (cut MM) MX1 MM1) : Rel (k + 1) MX1 MM1 := by
  refine ⟨iX, iM.mono (by omega), by rw [x1, m1]; exact h.2.2.1, by rw [x2, m2]; exact h.2.2.2.1, fun j a q => ?_, ?_, hF, h.H.fr x2 hh⟩
  · rw [x3, m3]
    exact h.2.2.2.2.1 j a (by rw [x1] at q; exact q)
  · rw [cut_of ec]
    exact hS
/-- a call that reads the text -/
theorem Rel.t {k : Nat} {MX MM MX1 MM1 : Mem} {b : Int} (h : Rel k MX MM) (iX : IX MX1) (iM : IM b MM1) (hb : b ≤ 60000 * ((k : Int) + 1)) (x1 : MX1 156 1 = 0) (m1 : MM1 1 14 = 0) (x2 : MX1 182 2 = MX 182 2) (m2 : MM1 1 45 = MM 1 45) (hh : ∀ j, MX1 183 j = MX 183 j ∧ MX1 184 j = MX 184 j ∧ MM1 26 j = MM 26 j ∧ MM1 27 j = MM 27 j) (hF : FOLS MM1) (hS : STA (cut MM1) MX1 MM1) : Rel (k + 1) MX1 MM1 :=
  ⟨iX, iM.mono (by omega), by rw [x1, m1], by rw [x2, m2]; exact h.2.2.2.1, fun j a q => by omega, hS, hF, h.H.fr x2 hh⟩
theorem STA.c {E E' MX MM : Mem} (h : STA E MX MM) (e : E' = E) : STA E' MX MM := by rw [e]; exact h
-- another rule leaves the rule as it was
theorem LAW.ce {E E' M : Mem} {kl : Nat} (h : LAW E M kl) (e : E' 1 24 = E 1 24) (e11 : ∀ j, 0 ≤ j → j < E 1 24 → E' 11 j = E 11 j) : LAW E' M kl := by
  unfold LAW LWf at h ⊢
  rw [e]
  rcases h with ⟨h1, h2, h3⟩ | h
  · exact Or.inl ⟨h1, h2, fun i p q => by rw [e11 i p q]; exact h3 i p q⟩
  · exact Or.inr h
theorem keX11_law {M : Mem} {Q : Int → Mem → Prop} (hI : IX M) (hQ : ∀ (z : Int) (M' : Mem), IX M' → M' 155 16 = M 155 16 → (∀ (k : Nat) (j : Int), (M 155 16).toNat ≤ k → k ≤ (M 155 16).toNat + 2 → M' k j = M k j) → Q z M') : qX11_law M Q := by
  have l16 : (M 155 16).toNat = 187 ∧ (M 155 17).toNat = 192 ∨ (M 155 16).toNat = 192 ∧ (M 155 17).toNat = 187 := by
    rcases hI.2.1 with q | q <;> rw [q.1, q.2] <;> decide
  unfold qX11_law
  refine ⟨hI.l17, ?_⟩
  refine fmX5_read (sX5_read hI hI.l17 (Q := fun z M' => IX M' ∧ -1 ≤ z ∧ z ≤ 80) (fun z M' i p => ⟨i, p⟩)) ?_
  intro x2 M2 k2 h2
  obtain ⟨i2, p2⟩ := h2
  intro _
  unfold qX9_clear
  intro M3 h3
  have i3 : IX M3 := by rw [h3]; exact i2.up (by decide) (bx_c156_1.mpr (by decide))
  have K3 : ∀ (k : Nat) (j : Int), ((M 155 16).toNat ≤ k ∧ k ≤ (M 155 16).toNat + 2) ∨ k = 155 → M3 k j = M k j := by
    intro k j h
    rw [h3, up2_n (by omega)]
    exact k2 k j (by omega)
  refine ⟨fun c => ?_, fun c => ?_⟩
  · refine fmX6_copyFrom (sX6_copyFrom i3 (show isS 8 by decide) (show isS 1 by decide) (Q := fun M' => IX M') (fun M' i _ => i)) ?_
    intro M5 k5 i5
    have K5 : ∀ (k : Nat) (j : Int), ((M 155 16).toNat ≤ k ∧ k ≤ (M 155 16).toNat + 2) ∨ k = 155 → M5 k j = M k j := by
      intro k j h
      rw [k5 k j (by omega)]
      exact K3 k j h
    refine ⟨i5.l17, ?_⟩
    refine fmX11_rightOnesOfTrial (sX11_rightOnesOfTrial i5 i5.l17 (Q := fun _ M' => IX M') (fun _ _ i => i)) ?_
    intro x7 M7 k7 i7 _
    rw [K5 155 17 (Or.inr rfl)] at k7
    have K7 : ∀ (k : Nat) (j : Int), ((M 155 16).toNat ≤ k ∧ k ≤ (M 155 16).toNat + 2) ∨ k = 155 → M7 k j = M k j := by
      intro k j h
      rw [k7 k j (by omega)]
      exact K5 k j h
    refine sJ6_bitCount_0f7a4 (p0 := x7) i7 ?_
    intro x8 p8 _
    refine fmX6_copyFrom (sX6_copyFrom i7 (show isS 8 by decide) (show isS 1 by decide) (Q := fun M' => IX M') (fun M' i _ => i)) ?_
    intro M9 k9 i9
    have K9 : ∀ (k : Nat) (j : Int), ((M 155 16).toNat ≤ k ∧ k ≤ (M 155 16).toNat + 2) ∨ k = 155 → M9 k j = M k j := by
      intro k j h
      rw [k9 k j (by omega)]
      exact K7 k j h
    refine ⟨i9.l16, ?_⟩
    refine fmX11_rightOnesOfTrial (sX11_rightOnesOfTrial i9 i9.l16 (Q := fun _ M' => IX M') (fun _ _ i => i)) ?_
    intro x11 M11 k11 i11 _
    rw [K9 155 16 (Or.inr rfl)] at k11
    have K11 : ∀ (k : Nat) (j : Int), ((M 155 16).toNat ≤ k ∧ k ≤ (M 155 16).toNat + 2) ∨ k = 155 → M11 k j = M k j := by
      intro k j h
      rw [k11 k j (by omega)]
      exact K9 k j h
    refine sJ6_bitCount_0f7a4 (p0 := x11) i11 ?_
    intro x12 p12 _
    refine fmX4_tellTwo (sX4_tellTwo (p1 := x8) (p3 := x12) i11 (Q := fun M' => IX M') (fun _ h => h)) ?_
    intro M13 k13 i13
    refine ⟨⟨by omega, by omega⟩, hQ _ _ i13 ?_ (fun k j h1 h2 => ?_)⟩
    · rw [k13 155 16 (by omega)]
      exact K11 155 16 (Or.inr rfl)
    · rw [k13 k j (by omega)]
      exact K11 k j (Or.inl ⟨h1, h2⟩)
  · exact ⟨⟨by omega, by omega⟩, hQ _ _ i3 (K3 155 16 (Or.inr rfl)) (fun k j h1 h2 => K3 k j (Or.inl ⟨h1, h2⟩))⟩
theorem keX12_law {b : Int} {M : Mem} {Q : Int → Mem → Prop} (hI : IM b M) (hb : b + 400 ≤ 2000000000) (hQ : ∀ (z : Int) (M' : Mem), IM (b + 400) M' → M' 1 24 = M 1 24 → (∀ j, 0 ≤ j → j < M 1 24 → M' 11 j = M 11 j) → Q z M') : qX12_law M Q := by
  unfold qX12_law
  intro M1 h1
  have i1 : IM b M1 := by rw [h1]; exact hI.up (by omega) (by simp [BM])
  have g24 : M1 1 24 = M 1 24 := by rw [h1, up2_j (by decide)]
  have g11 : M1 11 = M 11 := by rw [h1, up2_n (by decide)]
  refine fmX12_readsRule (sX12_readsRule i1 (Q := fun z M' => IM b M' ∧ (-100 ≤ z ∧ z ≤ 0) ∧ (z = 0 → WFC (M' 12) (M' 1 25))) (fun z M' i p w => ⟨i, p, w⟩)) ?_
  intro x2 M2 f2 hh
  obtain ⟨h2, p2, w2⟩ := hh
  intro _
  refine ⟨fun c => ?_, fun c => ⟨⟨by omega, by omega⟩, hQ _ _ (h2.mono (by omega)) (by rw [f2 1 24 (by omega)]; exact g24) (fun j _ _ => by rw [f2 11 j (by omega), g11])⟩⟩
  have w := w2 (by omega)
  refine fmX12_copies (sX12_copies h2 (Q := fun M' => IM b M') (fun _ h => h)) ?_
  intro M4 f4 h4
  refine fmX12_rightThen (sX12_rightThen h4 (by omega) (Q := fun _ M' => IM (b + 200) M') (fun _ _ h => h)) ?_
  intro x5 M5 f5 h5 _
  have g5 : M5 1 24 = M 1 24 := by rw [f5 1 24 (by omega), f4 1 24 (by omega), f2 1 24 (by omega)]; exact g24
  have c5 : ∀ j, M5 11 j = M 11 j := fun j => by rw [f5 11 j (by omega), f4 11 j (by omega), f2 11 j (by omega), g11]
  refine sJ6_bitCountM h5 ?_
  intro x6 p6 _ x7 e7 _
  have b7 : 0 ≤ x7 ∧ x7 ≤ 80 := by rw [e7]; exact bm_c1_24.mp (h5.bx _ _)
  refine ⟨81, sX12_law_L42 (b := b + 200) (M0 := M5) ?_ _ _ _ h5 (fun j a q => by omega) FrJ.rf (by omega) (by omega)⟩
  intro M' i' j' f' x16 e16 _
  have b16 : 0 ≤ x16 ∧ x16 ≤ 80 := by rw [e16]; exact bm_c1_25.mp (i'.bx _ _)
  have e12 : M' 12 = M2 12 := funext fun j => by rw [f' 12 j (by omega), f5 12 j (by omega), f4 12 j (by omega)]
  have e25 : M' 1 25 = M2 1 25 := by rw [f' 1 25 (by omega), f5 1 25 (by omega), f4 1 25 (by omega)]
  refine sX12_laysCode i' b16 (by decide) (by rw [e12, e16, e25]; exact w) ?_
  intro M17 h17 f17
  refine fmX12_copies (sX12_copies h17 (Q := fun M' => IM (b + 200) M') (fun _ h => h)) ?_
  intro M18 f18 h18
  refine fmX12_rightThen (sX12_rightThen h18 (by omega) (Q := fun _ M' => IM (b + 200 + 200) M') (fun _ _ h => h)) ?_
  intro x19 M19 f19 h19 _
  refine sJ6_bitCountM h19 ?_
  intro x20 p20 _
  refine ⟨⟨by omega, by omega⟩, ?_⟩
  have c19 : ∀ j, 0 ≤ j → j < M5 1 24 → M19 28 j = M5 11 j := by
    intro j a q
    rw [f19 28 j (by omega), f18 28 j (by omega), f17 28 j (by omega)]
    exact j' j a q
  have w28 : WFC (M19 28) x7 := by
    have hw := h5.2
    rw [← e7] at hw
    exact hw.cg (fun j a q => c19 j a (by omega))
  refine gX12_laysCode h19 b7 (by decide) w28 ?_
  intro M22 h22 _ n22 c22 M23 h23
  have i23 : IM (b + 200 + 200) M23 := by rw [h23]; exact h22.up (by omega) (bm_c1_1.mpr (by decide))
  have k23 : M23 1 1 = 0 := by rw [h23, up2_s]
  refine fmX12_enters (sX12_enters (p1 := x20) i23 (by omega) (Q := fun M' => IM (b + 200 + 200) M' ∧ M' 1 1 = M23 1 1 + 1) (fun M' i g => ⟨i, g⟩)) ?_
  intro M24 f24 hh
  obtain ⟨h24, g24'⟩ := hh
  refine ⟨⟨by omega, by omega⟩, ?_⟩
  refine fmX12_enters (sX12_enters h24 (by omega) (Q := fun M' => IM (b + 200 + 200) M') (fun M' i g => i)) ?_
  intro M26 f26 h26
  refine ⟨⟨by omega, by omega⟩, hQ _ _ (h26.mono (by omega)) ?_ (fun j a q => ?_)⟩
  · rw [f26 1 24 (by omega), f24 1 24 (by omega), h23, up2_j (by decide), n22, e7]
    exact g5
  · rw [f26 11 j (by omega), f24 11 j (by omega), h23, up2_n (by decide), c22 j a (by omega), c19 j a (by omega)]
    exact c5 j
end
