/-! THE RULE'S TEXT: what the class reads, as a pure row of states -/
/-- a number of three digits at most at a -/
def nm3 (f : Int → Int) (t a : Int) : Int × Int := if ¬ (a < t ∧ 48 ≤ f a ∧ f a ≤ 57) then (-1, a) else if ¬ (a + 1 < t ∧ 48 ≤ f (a + 1) ∧ f (a + 1) ≤ 57) then (nmV f a 1, a + 1) else if ¬ (a + 2 < t ∧ 48 ≤ f (a + 2) ∧ f (a + 2) ≤ 57) then (nmV f a 2, a + 2) else (nmV f a 3, a + 3)
theorem nm3_N (f : Int → Int) (t a : Int) : NUM f a t 3 (nm3 f t a).1 (nm3 f t a).2 := by
  unfold nm3
  by_cases c1 : a < t ∧ 48 ≤ f a ∧ f a ≤ 57
  · rw [if_neg (fun q => q c1)]
    by_cases c2 : a + 1 < t ∧ 48 ≤ f (a + 1) ∧ f (a + 1) ≤ 57
    · rw [if_neg (fun q => q c2)]
      by_cases c3 : a + 2 < t ∧ 48 ≤ f (a + 2) ∧ f (a + 2) ≤ 57
      · rw [if_neg (fun q => q c3)]
        refine Or.inr ⟨3, by decide, rfl, by omega, fun i p q => ?_, Or.inl rfl, rfl⟩
        have : i = 0 ∨ i = 1 ∨ i = 2 := by omega
        rcases this with rfl | rfl | rfl
        · rw [show a + 0 = a from by omega]; exact c1.2
        · exact c2.2
        · exact c3.2
      · rw [if_pos c3]
        refine Or.inr ⟨2, by decide, rfl, by omega, fun i p q => ?_, Or.inr ?_, rfl⟩
        · have : i = 0 ∨ i = 1 := by omega
          rcases this with rfl | rfl
          · rw [show a + 0 = a from by omega]; exact c1.2
          · exact c2.2
        · by_cases ct : t ≤ a + 2
          · exact Or.inl ct
          · exact Or.inr (fun w => c3 ⟨by omega, w.1, w.2⟩)
    · rw [if_pos c2]
      refine Or.inr ⟨1, by decide, rfl, by omega, fun i p q => ?_, Or.inr ?_, rfl⟩
      · rw [show a + i = a from by omega]; exact c1.2
      · by_cases ct : t ≤ a + 1
        · exact Or.inl ct
        · exact Or.inr (fun w => c2 ⟨by omega, w.1, w.2⟩)
  · rw [if_pos c1]
    exact Or.inl ⟨rfl, rfl, fun w => c1 ⟨w.1, w.2.1, w.2.2⟩⟩
theorem nm3_q {f g : Int → Int} {t a z a' : Int} (h : NUM g a t 3 z a') (hf : ∀ j, a ≤ j → j < t → g j = f j) : z = (nm3 f t a).1 ∧ a' = (nm3 f t a).2 := h.uq (nm3_N f t a) hf
theorem nm3_n {f : Int → Int} {t a : Int} (h : ¬ (a < t ∧ 48 ≤ f a ∧ f a ≤ 57)) : (nm3 f t a).1 = -1 ∧ (nm3 f t a).2 = a := by
  unfold nm3
  rw [if_pos h]
  exact ⟨rfl, rfl⟩
theorem nm3_p {f : Int → Int} {t a : Int} (h : a < t ∧ 48 ≤ f a ∧ f a ≤ 57) : 0 ≤ (nm3 f t a).1 := by
  rcases nm3_N f t a with ⟨_, _, w⟩ | ⟨k, hk, _, _, w, _, e⟩
  · exact absurd ⟨h.1, h.2.1, h.2.2⟩ w
  · rw [e]
    exact (nmV_b k.toNat (fun i p q => w i p (by omega))).1
/-- how close a sign binds; what the sign on top of those that wait binds -/
def bnd (c : Int) : Int := if c = 42 then 3 else if c = 43 then 2 else if c = 45 then 2 else if c = 47 then 3 else if c = 60 then 1 else if c = 61 then 1 else if c = 62 then 1 else if c = 302 then 4 else 0
def lbd : List Int → Int
  | [] => 0
  | c :: _ => bnd c
/-- those on top that bind as close or closer come into the law -/
def rls (b : Int) : List Int → List (Int × Int) → List Int × List (Int × Int)
  | [], O => ([], O)
  | c :: W, O => if bnd c < b then (c :: W, O) else rls b W ((c, 0) :: O)
def rel : List Int → List (Int × Int) → List (Int × Int)
  | [], O => O
  | c :: P, O => rel P ((c, 0) :: O)
def AL (b : Int) : List Int → Prop
  | [] => True
  | c :: P => b ≤ bnd c ∧ AL b P
theorem AL.mono {b b' : Int} : ∀ {P : List Int}, AL b P → b' ≤ b → AL b' P
  | [], _, _ => trivial
  | _ :: _, h, q => ⟨by have := h.1; omega, h.2.mono q⟩
theorem AL.app {b c : Int} : ∀ {P : List Int}, AL b P → b ≤ bnd c → AL b (P ++ [c])
  | [], _, q => ⟨q, trivial⟩
  | _ :: _, h, q => ⟨h.1, h.2.app q⟩
theorem rel_app (c : Int) : ∀ (P : List Int) (O : List (Int × Int)), rel (P ++ [c]) O = (c, 0) :: rel P O
  | [], _ => rfl
  | _ :: P, O => rel_app c P _
theorem ap1 (P : List Int) (c : Int) (W : List Int) : P ++ c :: W = (P ++ [c]) ++ W := by rw [List.append_assoc]; rfl
theorem rls_t {b : Int} {W : List Int} {O : List (Int × Int)} (h : lbd W < b) : rls b W O = (W, O) := by
  cases W with
  | nil => rfl
  | cons c W =>
    show (if bnd c < b then (c :: W, O) else rls b W ((c, 0) :: O)) = _
    rw [if_pos (show bnd c < b from h)]
theorem rls_a {b : Int} {W : List Int} : ∀ {P : List Int} {O : List (Int × Int)}, AL b P → lbd W < b → rls b (P ++ W) O = (W, rel P O)
  | [], _, _, h => rls_t h
  | c :: P, O, a, h => by
    show (if bnd c < b then (c :: (P ++ W), O) else rls b (P ++ W) ((c, 0) :: O)) = _
    rw [if_neg (by have := a.1; omega)]
    exact rls_a a.2 h
theorem rls_n {b : Int} : ∀ (W : List Int) (O : List (Int × Int)), ((rls b W O).1.length + (rls b W O).2.length = W.length + O.length) ∧ lbd (rls b W O).1 < b ∨ (rls b W O).1 = [] ∧ (rls b W O).2.length = W.length + O.length
  | [], O => Or.inr ⟨rfl, by show O.length = 0 + O.length; omega⟩
  | c :: W, O => by
    show ((if bnd c < b then (c :: W, O) else rls b W ((c, 0) :: O)).1.length + (if bnd c < b then (c :: W, O) else rls b W ((c, 0) :: O)).2.length = W.length + 1 + O.length) ∧ lbd (if bnd c < b then (c :: W, O) else rls b W ((c, 0) :: O)).1 < b ∨ (if bnd c < b then (c :: W, O) else rls b W ((c, 0) :: O)).1 = [] ∧ (if bnd c < b then (c :: W, O) else rls b W ((c, 0) :: O)).2.length = W.length + 1 + O.length
    by_cases d : bnd c < b
    · rw [if_pos d]
      exact Or.inl ⟨rfl, d⟩
    · rw [if_neg d]
      have h := rls_n (b := b) W ((c, 0) :: O)
      have e : ((c, 0) :: O).length = O.length + 1 := rfl
      rw [e] at h
      rcases h with h | h
      · exact Or.inl ⟨by omega, h.2⟩
      · exact Or.inr ⟨h.1, by omega⟩
theorem rls_len (b : Int) (W : List Int) (O : List (Int × Int)) : (rls b W O).1.length + (rls b W O).2.length = W.length + O.length := by
  rcases rls_n (b := b) W O with h | h
  · exact h.1
  · rw [h.1, h.2]
    exact Nat.zero_add _
theorem tl_len (W : List Int) : W.tail.length ≤ W.length := by
  cases W with
  | nil => exact Nat.le_refl _
  | cons c W => exact Nat.le_succ _
/-- a state of reading: whether a thing is wanted, depth, what waits, the law so far, the place -/
abbrev PSt : Type := Int × Int × List Int × List (Int × Int) × Int
def pst (f : Int → Int) (t : Int) : PSt → Option PSt
  | (w, dp, W, O, a) => if w = 1 then (if 0 ≤ (nm3 f t a).1 then some (0, dp, W, (300, (nm3 f t a).1) :: O, (nm3 f t a).2) else if f a = 45 then some (1, dp, 302 :: W, O, a + 1) else if f a = 40 ∧ dp < 4 then some (1, dp + 1, 40 :: W, O, a + 1) else if 0 ≤ ixS (bS 0) (f a) then some (0, dp, W, (301, ixS (bS 0) (f a)) :: O, a + 1) else none) else (if f a = 41 ∧ 0 < dp then some (0, dp - 1, (rls 1 W O).1.tail, (rls 1 W O).2, a + 1) else if bnd (f a) = 1 then (if lbd (rls 2 W O).1 = 1 then none else some (1, dp, f a :: (rls 2 W O).1, (rls 2 W O).2, a + 1)) else if 1 < bnd (f a) then some (1, dp, f a :: (rls (bnd (f a)) W O).1, (rls (bnd (f a)) W O).2, a + 1) else none)
theorem pst_1 {f : Int → Int} {t dp a : Int} {W : List Int} {O : List (Int × Int)} (h : 0 ≤ (nm3 f t a).1) : pst f t (1, dp, W, O, a) = some (0, dp, W, (300, (nm3 f t a).1) :: O, (nm3 f t a).2) := by
  rw [pst, if_pos rfl, if_pos h]
theorem pst_2 {f : Int → Int} {t dp a : Int} {W : List Int} {O : List (Int × Int)} (h : f a = 45) : pst f t (1, dp, W, O, a) = some (1, dp, 302 :: W, O, a + 1) := by
  rw [pst, if_pos rfl, if_neg (by rw [(nm3_n (f := f) (t := t) (a := a) (by omega)).1]; decide), if_pos h]
theorem pst_3 {f : Int → Int} {t dp a : Int} {W : List Int} {O : List (Int × Int)} (h : f a = 40) (hd : dp < 4) : pst f t (1, dp, W, O, a) = some (1, dp + 1, 40 :: W, O, a + 1) := by
  rw [pst, if_pos rfl, if_neg (by rw [(nm3_n (f := f) (t := t) (a := a) (by omega)).1]; decide), if_neg (by omega), if_pos ⟨h, hd⟩]
theorem pst_4 {f : Int → Int} {t dp a : Int} {W : List Int} {O : List (Int × Int)} (hn : (nm3 f t a).1 < 0) (h1 : f a ≠ 45) (h2 : ¬ (f a = 40 ∧ dp < 4)) (h : 0 ≤ ixS (bS 0) (f a)) : pst f t (1, dp, W, O, a) = some (0, dp, W, (301, ixS (bS 0) (f a)) :: O, a + 1) := by
  rw [pst, if_pos rfl, if_neg (by omega), if_neg h1, if_neg h2, if_pos h]
theorem pst_5 {f : Int → Int} {t dp a : Int} {W : List Int} {O : List (Int × Int)} (hn : (nm3 f t a).1 < 0) (h1 : f a ≠ 45) (h2 : ¬ (f a = 40 ∧ dp < 4)) (h : ixS (bS 0) (f a) < 0) : pst f t (1, dp, W, O, a) = none := by
  rw [pst, if_pos rfl, if_neg (by omega), if_neg h1, if_neg h2, if_neg (by omega)]
theorem pst_6 {f : Int → Int} {t w dp a : Int} {W : List Int} {O : List (Int × Int)} (hw : w ≠ 1) (h : f a = 41) (hd : 0 < dp) : pst f t (w, dp, W, O, a) = some (0, dp - 1, (rls 1 W O).1.tail, (rls 1 W O).2, a + 1) := by
  rw [pst, if_neg hw, if_pos ⟨h, hd⟩]
theorem pst_7 {f : Int → Int} {t w dp a : Int} {W : List Int} {O : List (Int × Int)} (hw : w ≠ 1) (h : bnd (f a) = 1) (hl : lbd (rls 2 W O).1 = 1) : pst f t (w, dp, W, O, a) = none := by
  have h41 : ¬ (f a = 41 ∧ 0 < dp) := fun q => by rw [q.1] at h; exact absurd h (by decide)
  rw [pst, if_neg hw, if_neg h41, if_pos h, if_pos hl]
theorem pst_8 {f : Int → Int} {t w dp a : Int} {W : List Int} {O : List (Int × Int)} (hw : w ≠ 1) (h : bnd (f a) = 1) (hl : lbd (rls 2 W O).1 ≠ 1) : pst f t (w, dp, W, O, a) = some (1, dp, f a :: (rls 2 W O).1, (rls 2 W O).2, a + 1) := by
  have h41 : ¬ (f a = 41 ∧ 0 < dp) := fun q => by rw [q.1] at h; exact absurd h (by decide)
  rw [pst, if_neg hw, if_neg h41, if_pos h, if_neg hl]
theorem pst_9 {f : Int → Int} {t w dp a : Int} {W : List Int} {O : List (Int × Int)} (hw : w ≠ 1) (h : 1 < bnd (f a)) : pst f t (w, dp, W, O, a) = some (1, dp, f a :: (rls (bnd (f a)) W O).1, (rls (bnd (f a)) W O).2, a + 1) := by
  have h41 : ¬ (f a = 41 ∧ 0 < dp) := fun q => by rw [q.1] at h; exact absurd h (by decide)
  rw [pst, if_neg hw, if_neg h41, if_neg (by omega), if_pos h]
theorem pst_0 {f : Int → Int} {t w dp a : Int} {W : List Int} {O : List (Int × Int)} (hw : w ≠ 1) (h41 : ¬ (f a = 41 ∧ 0 < dp)) (h : bnd (f a) < 1) : pst f t (w, dp, W, O, a) = none := by
  rw [pst, if_neg hw, if_neg h41, if_neg (by omega), if_neg (by omega)]
/-- how far a step goes -/
theorem pst_b {f : Int → Int} {t w dp a : Int} {W : List Int} {O : List (Int × Int)} {S1 : PSt} (ha : a < t) (h : pst f t (w, dp, W, O, a) = some S1) : a + 1 ≤ S1.2.2.2.2 ∧ S1.2.2.2.2 ≤ t ∧ (S1.2.2.1.length : Int) + S1.2.2.2.1.length ≤ W.length + O.length + 1 := by
  by_cases cw : w = 1
  · subst cw
    by_cases c1 : 0 ≤ (nm3 f t a).1
    · rw [pst_1 c1] at h
      have e := Option.some.inj h
      subst e
      have b := (nm3_N f t a).b (by decide)
      refine ⟨?_, ?_, ?_⟩
      · show a + 1 ≤ (nm3 f t a).2
        exact b.2.2.2.2.2.2.1 c1
      · show (nm3 f t a).2 ≤ t
        exact b.2.2.2.2.2.1 (by omega)
      · show (W.length : Int) + ((O.length + 1 : Nat) : Int) ≤ _
        omega
    · by_cases c2 : f a = 45
      · rw [pst_2 c2] at h
        have e := Option.some.inj h
        subst e
        refine ⟨Int.le_refl _, ?_, ?_⟩
        · show a + 1 ≤ t
          omega
        · show ((W.length + 1 : Nat) : Int) + O.length ≤ _
          omega
      · by_cases c3 : f a = 40 ∧ dp < 4
        · rw [pst_3 c3.1 c3.2] at h
          have e := Option.some.inj h
          subst e
          refine ⟨Int.le_refl _, ?_, ?_⟩
          · show a + 1 ≤ t
            omega
          · show ((W.length + 1 : Nat) : Int) + O.length ≤ _
            omega
        · by_cases c4 : 0 ≤ ixS (bS 0) (f a)
          · rw [pst_4 (by omega) c2 c3 c4] at h
            have e := Option.some.inj h
            subst e
            refine ⟨Int.le_refl _, ?_, ?_⟩
            · show a + 1 ≤ t
              omega
            · show (W.length : Int) + ((O.length + 1 : Nat) : Int) ≤ _
              omega
          · rw [pst_5 (by omega) c2 c3 (by omega)] at h
            cases h
  · by_cases c1 : f a = 41 ∧ 0 < dp
    · rw [pst_6 cw c1.1 c1.2] at h
      have e := Option.some.inj h
      subst e
      have l := rls_len 1 W O
      have l2 := tl_len (rls 1 W O).1
      refine ⟨Int.le_refl _, ?_, ?_⟩
      · show a + 1 ≤ t
        omega
      · show ((rls 1 W O).1.tail.length : Int) + (rls 1 W O).2.length ≤ _
        omega
    · by_cases c2 : bnd (f a) = 1
      · by_cases c3 : lbd (rls 2 W O).1 = 1
        · rw [pst_7 cw c2 c3] at h
          cases h
        · rw [pst_8 cw c2 c3] at h
          have e := Option.some.inj h
          subst e
          have l := rls_len 2 W O
          refine ⟨Int.le_refl _, ?_, ?_⟩
          · show a + 1 ≤ t
            omega
          · show (((rls 2 W O).1.length + 1 : Nat) : Int) + (rls 2 W O).2.length ≤ _
            omega
      · by_cases c3 : 1 < bnd (f a)
        · rw [pst_9 cw c3] at h
          have e := Option.some.inj h
          subst e
          have l := rls_len (bnd (f a)) W O
          refine ⟨Int.le_refl _, ?_, ?_⟩
          · show a + 1 ≤ t
            omega
          · show (((rls (bnd (f a)) W O).1.length + 1 : Nat) : Int) + (rls (bnd (f a)) W O).2.length ≤ _
            omega
        · rw [pst_0 cw c1 (by omega)] at h
          cases h
/-- n steps, as far as they go -/
def pru (f : Int → Int) (t : Int) : Nat → PSt → PSt
  | 0, S => S
  | n + 1, S => if S.2.2.2.2 < t then (match pst f t S with | some S1 => pru f t n S1 | none => S) else S
def PR (f : Int → Int) (t : Int) : Nat → PSt → PSt → Prop
  | 0, S, S' => S = S'
  | n + 1, S, S' => S.2.2.2.2 < t ∧ ∃ S1, pst f t S = some S1 ∧ PR f t n S1 S'
theorem PR.tr {f : Int → Int} {t : Int} : ∀ {n m : Nat} {S S1 S2 : PSt}, PR f t n S S1 → PR f t m S1 S2 → PR f t (n + m) S S2
  | 0, m, S, S1, S2, h, h2 => by
    have e : S = S1 := h
    rw [e, Nat.zero_add]
    exact h2
  | n + 1, m, S, S1, S2, h, h2 => by
    obtain ⟨a, T, b, c⟩ := h
    rw [Nat.succ_add]
    exact ⟨a, T, b, c.tr h2⟩
theorem PR.one {f : Int → Int} {t w dp a : Int} {W : List Int} {O : List (Int × Int)} {S1 : PSt} (ha : a < t) (h : pst f t (w, dp, W, O, a) = some S1) : PR f t 1 (w, dp, W, O, a) S1 := ⟨ha, S1, h, rfl⟩
theorem pru_s {f : Int → Int} {t : Int} {n : Nat} {S : PSt} (h : t ≤ S.2.2.2.2 ∨ pst f t S = none) : pru f t n S = S := by
  cases n with
  | zero => rfl
  | succ n =>
    unfold pru
    by_cases c : S.2.2.2.2 < t
    · rw [if_pos c]
      rcases h with h | h
      · omega
      · rw [h]
    · rw [if_neg c]
theorem pru_n {f : Int → Int} {t : Int} {n : Nat} {S S1 : PSt} (h : S.2.2.2.2 < t) (h1 : pst f t S = some S1) : pru f t (n + 1) S = pru f t n S1 := by
  show (if S.2.2.2.2 < t then (match pst f t S with | some S1 => pru f t n S1 | none => S) else S) = _
  rw [if_pos h, h1]
theorem PR.pru {f : Int → Int} {t : Int} : ∀ {m n : Nat} {S S' : PSt}, PR f t m S S' → (t ≤ S'.2.2.2.2 ∨ pst f t S' = none) → t - S.2.2.2.2 ≤ n → pru f t n S = S'
  | 0, n, S, S', h, q, _ => by
    have e : S = S' := h
    rw [e]
    exact pru_s q
  | m + 1, n, (w, dp, W, O, x), S', h, q, hn => by
    obtain ⟨a, T, b, c⟩ := h
    have a' : x < t := a
    have hn' : t - x ≤ n := hn
    have hb := pst_b (S1 := T) a' b
    cases n with
    | zero => omega
    | succ n =>
      rw [pru_n a b]
      exact c.pru q (by omega)
