/-! THE STEP, PURE: on a row of 38 numbers (cells 0 .., ranks 6 .., arrived 12, places 13 .., followed 21 .., graves 29 .., step 37) -/
theorem upS (f : Int → Int) (j v : Int) : up f j v j = v := by unfold up; rw [if_pos rfl]
theorem up_j {f : Int → Int} {j v i : Int} (h : i ≠ j) : up f j v i = f i := by unfold up; rw [if_neg h]
theorem up2_up (M : Mem) (k : Nat) (j v : Int) : up2 M k j v k = up (M k) j v := by unfold up2; rw [if_pos rfl]
def ab (x : Int) : Int := if 0 ≤ x then x else -x
theorem ab_e {x y : Int} (h1 : 0 ≤ x → y = x) (h2 : x < 0 → y = -x) : y = ab x := by
  unfold ab
  by_cases c : 0 ≤ x
  · rw [if_pos c]; exact h1 c
  · rw [if_neg c]; exact h2 (by omega)
theorem ab_b (x : Int) : 0 ≤ ab x ∧ (ab x = x ∨ ab x = -x) ∧ (0 ≤ x → ab x = x) ∧ (x < 0 → ab x = -x) := by
  unfold ab
  split <;> omega
/-- the last one of the first n that is on v -/
def onF (c : Int → Int) : Nat → Int → Int
  | 0, _ => -1
  | n + 1, v => if c n = v then (n : Int) else onF c n v
theorem onF_s {c : Int → Int} {i v : Int} (h : 0 ≤ i) : onF c (i + 1).toNat v = if c i = v then i else onF c i.toNat v := by
  rw [show (i + 1).toNat = i.toNat + 1 from by omega]
  show (if c (i.toNat : Nat) = v then ((i.toNat : Nat) : Int) else onF c i.toNat v) = _
  rw [show ((i.toNat : Nat) : Int) = i from by omega]
theorem onF_b (c : Int → Int) (n : Nat) (v : Int) : -1 ≤ onF c n v ∧ onF c n v < n := by
  induction n with
  | zero => exact ⟨by show (-1 : Int) ≤ -1; decide, by show (-1 : Int) < 0; decide⟩
  | succ n ih =>
    unfold onF
    split <;> omega
theorem onF_c {c : Int → Int} {n : Nat} {v : Int} (h : 0 ≤ onF c n v) : c (onF c n v) = v := by
  induction n with
  | zero => exact absurd h (by show ¬ (0 : Int) ≤ -1; decide)
  | succ n ih =>
    unfold onF at h ⊢
    by_cases e : c n = v
    · rw [if_pos e]; exact e
    · rw [if_neg e] at h ⊢; exact ih h
theorem onF_n {c : Int → Int} {n : Nat} {v : Int} (h : onF c n v < 0) : ∀ i : Int, 0 ≤ i → i < n → c i ≠ v := by
  induction n with
  | zero => intro i a q; omega
  | succ n ih =>
    intro i a q
    unfold onF at h
    by_cases e : c n = v
    · rw [if_pos e] at h; omega
    · rw [if_neg e] at h
      by_cases ci : i = n
      · rw [ci]; exact e
      · exact ih h i a (by omega)
theorem onF_z {c : Int → Int} {n : Nat} {v : Int} (h : ∀ i : Int, 0 ≤ i → i < n → c i ≠ v) : onF c n v = -1 := by
  induction n with
  | zero => rfl
  | succ n ih =>
    unfold onF
    rw [if_neg (h n (by omega) (by omega))]
    exact ih (fun i a q => h i a (by omega))
theorem onF_cg {c d : Int → Int} {n : Nat} {v : Int} (h : ∀ i : Int, 0 ≤ i → i < n → (c i = v ↔ d i = v)) : onF c n v = onF d n v := by
  induction n with
  | zero => rfl
  | succ n ih =>
    unfold onF
    have e := h n (by omega) (by omega)
    rw [ih (fun i a q => h i a (by omega))]
    by_cases q : c n = v
    · rw [if_pos q, if_pos (e.mp q)]
    · rw [if_neg q, if_neg (fun w => q (e.mpr w))]
/-- no two on one -/
def DST (c : Int → Int) (n : Int) : Prop := ∀ i j, 0 ≤ i → i < n → 0 ≤ j → j < n → c i = c j → 0 ≤ c i → i = j
theorem onF_u {c : Int → Int} {n : Nat} {v i : Int} (hd : DST c n) (h0 : 0 ≤ i) (h1 : i < n) (hv : c i = v) (hp : 0 ≤ v) : onF c n v = i := by
  have b := onF_b c n v
  by_cases h : 0 ≤ onF c n v
  · have e := onF_c h
    exact hd _ _ h b.2 h0 h1 (by rw [e, hv]) (by omega)
  · exact absurd hv (onF_n (by omega) i h0 h1)
def frF (c : Int → Int) (H : Nat) (g v : Int) : Nat → Int → Int
  | 0, m => m
  | n + 1, m => if g ≤ v + m then m else if v + m + 1 = g then frF c H g v n (m + 1) else if 0 ≤ onF c H (v + m + 1) then m else frF c H g v n (m + 1)
def nearF (c : Int → Int) (v : Int) : Nat → Int
  | 0 => -1
  | n + 1 => if 0 ≤ c n ∧ (nearF c v n < 0 ∨ ab (c n - v) < ab (c (nearF c v n) - v) ∨ (ab (c n - v) = ab (c (nearF c v n) - v) ∧ c (nearF c v n) < c n)) then (n : Int) else nearF c v n
theorem nearF_s {c : Int → Int} {v i : Int} (h : 0 ≤ i) : nearF c v (i + 1).toNat = if 0 ≤ c i ∧ (nearF c v i.toNat < 0 ∨ ab (c i - v) < ab (c (nearF c v i.toNat) - v) ∨ (ab (c i - v) = ab (c (nearF c v i.toNat) - v) ∧ c (nearF c v i.toNat) < c i)) then i else nearF c v i.toNat := by
  rw [show (i + 1).toNat = i.toNat + 1 from by omega]
  show (if 0 ≤ c (i.toNat : Nat) ∧ (nearF c v i.toNat < 0 ∨ ab (c (i.toNat : Nat) - v) < ab (c (nearF c v i.toNat) - v) ∨ (ab (c (i.toNat : Nat) - v) = ab (c (nearF c v i.toNat) - v) ∧ c (nearF c v i.toNat) < c (i.toNat : Nat))) then ((i.toNat : Nat) : Int) else nearF c v i.toNat) = _
  rw [show ((i.toNat : Nat) : Int) = i from by omega]
theorem nearF_b (c : Int → Int) (v : Int) (n : Nat) : -1 ≤ nearF c v n ∧ nearF c v n < n ∧ (0 ≤ nearF c v n → 0 ≤ c (nearF c v n)) := by
  induction n with
  | zero => exact ⟨by show (-1 : Int) ≤ -1; decide, by show (-1 : Int) < 0; decide, fun h => absurd h (by show ¬ (0 : Int) ≤ -1; decide)⟩
  | succ n ih =>
    unfold nearF
    split
    · rename_i h
      exact ⟨by omega, by omega, fun _ => h.1⟩
    · exact ⟨ih.1, by omega, ih.2.2⟩
def bitF (f : Int → Int) (x : Int) : Nat → Int
  | 0 => 0
  | n + 1 => if f n = x then oI (bitF f x n) (slI 1 n) else oI (bitF f x n) 0
theorem bitF_s {f : Int → Int} {x i : Int} (h : 0 ≤ i) : bitF f x (i + 1).toNat = if f i = x then oI (bitF f x i.toNat) (slI 1 i) else oI (bitF f x i.toNat) 0 := by
  rw [show (i + 1).toNat = i.toNat + 1 from by omega]
  show (if f (i.toNat : Nat) = x then oI (bitF f x i.toNat) (slI 1 (i.toNat : Nat)) else oI (bitF f x i.toNat) 0) = _
  rw [show ((i.toNat : Nat) : Int) = i from by omega]
theorem bitF_R (f : Int → Int) (x : Int) (n : Nat) : iR (bitF f x n) := by
  cases n with
  | zero => exact ⟨by show -2147483648 ≤ (0 : Int); decide, by show (0 : Int) ≤ 2147483647; decide⟩
  | succ n =>
    unfold bitF
    split
    · exact oI_R _ _
    · exact oI_R _ _
theorem bitF_cg {f g : Int → Int} {x : Int} {n : Nat} (h : ∀ i : Int, 0 ≤ i → i < n → f i = g i) : bitF f x n = bitF g x n := by
  induction n with
  | zero => rfl
  | succ n ih =>
    unfold bitF
    rw [ih (fun i a q => h i a (by omega)), h n (by omega) (by omega)]
def bc2 (p x2 : Int) : Int := aI (p - x2) 858993459 + aI (usI (p - x2) 2) 858993459
def bc7 (s : Int) : Int := aI (s + usI s 4) 252645135
def bcF (p : Int) : Int := aI ((bc7 (bc2 p (aI (usI p 1) 1431655765)) + usI (bc7 (bc2 p (aI (usI p 1) 1431655765))) 8) + usI (bc7 (bc2 p (aI (usI p 1) 1431655765)) + usI (bc7 (bc2 p (aI (usI p 1) 1431655765))) 8) 16) 63
theorem gJ6_bitCount {p0 : Int} {M : Mem} {Q : Int → Mem → Prop} (hQ : Q (bcF p0) M) : qJ6_bitCount_0f7a4 p0 M Q := by
  unfold qJ6_bitCount_0f7a4
  intro x1 e1 _ x2 e2 _ x3 e3 _ x4 e4 _ x5 e5 _ x6 e6 _ x7 e7 _ x8 e8 _ x9 e9 _ x10 e10 _
  have e : x10 = bcF p0 := by
    subst e1; subst e2; subst e3; subst e4; subst e5; subst e6; subst e7; subst e8; subst e9
    rw [e10]
    rfl
  rw [e]
  exact hQ
-- the rule
def wkF (o a b : Int) : Int := if o = 0 then (if a < b then 1 else 0) else if o = 1 then (if b < a then 1 else 0) else if o = 2 then (if a = b then 1 else 0) else if o = 3 then w32 (a + b) else if o = 4 then w32 (a - b) else if o = 5 then w32 (a * b) else (if b = 0 then 0 else dvI a b)
def evS (f e : Int → Int) : Nat → Int → Int
  | 0 => fun _ => 0
  | n + 1 => if f n = 3000 then up (evS f e n) (dpc f n - 1) (w32 (-(evS f e n (dpc f n - 1)))) else if 2000 ≤ f n then up (evS f e n) (dpc f n - 2) (wkF (f n - 2000) (evS f e n (dpc f n - 2)) (evS f e n (dpc f n - 1))) else up (evS f e n) (dpc f n) (if 1000 ≤ f n then e (f n - 1000) else f n)
abbrev cE (k : Nat) (j : Int) : Prop := (k = 1 ∧ (j = 3 ∨ j = 4 ∨ j = 5 ∨ j = 7 ∨ j = 24)) ∨ k = 2 ∨ k = 3 ∨ k = 4 ∨ k = 11
theorem cE13 : cE 1 3 := by decide
theorem cE14 : cE 1 4 := by decide
theorem cE15 : cE 1 5 := by decide
theorem cE17 : cE 1 7 := by decide
theorem cE124 : cE 1 24 := by decide
theorem cE2 (j : Int) : cE 2 j := Or.inr (Or.inl rfl)
theorem cE3 (j : Int) : cE 3 j := Or.inr (Or.inr (Or.inl rfl))
theorem cE4 (j : Int) : cE 4 j := Or.inr (Or.inr (Or.inr (Or.inl rfl)))
theorem cE11 (j : Int) : cE 11 j := Or.inr (Or.inr (Or.inr (Or.inr rfl)))
/-- what no step changes is as in E -/
def CE (E M : Mem) : Prop := ∀ k j, cE k j → M k j = E k j
theorem CE.up {E M : Mem} (h : CE E M) {k : Nat} {j v : Int} (hk : ¬ cE k j) : CE E (up2 M k j v) := by
  intro k' j' hc
  rw [up2_a]
  by_cases c : k' = k
  · by_cases c2 : j' = j
    · exact absurd (by rw [← c, ← c2]; exact hc) hk
    · rw [if_pos c, if_neg c2]; exact h k' j' hc
  · rw [if_neg c]; exact h k' j' hc
theorem CE.fr {E M M' : Mem} {P : Nat → Int → Prop} (h : CE E M) (f : FrJ P M M') (hP : ∀ k j, cE k j → ¬ P k j) : CE E M' := fun k j hc => (f k j (hP k j hc)).trans (h k j hc)
abbrev eH (E : Mem) : Nat := (E 1 4).toNat
abbrev eO (E : Mem) : Nat := (E 1 5).toNat
abbrev eG (E : Mem) : Int := E 1 3 - 1
def envF (E : Mem) (r : Int → Int) (h j : Int) : Int := if j = 0 then r h else if j = 1 then frF r (eH E) (eG E) (r h) 31 0 else if j = 2 then (if E 2 (r h) = 0 then 0 else 1) else if j = 3 then E 4 (rmI (r 37) (E 1 7)) else if j = 4 then rmI (r 37) 10 else if j = 5 then h else bcF (bitF (fun m => r (21 + m)) h (eO E))
def ruF (E : Mem) (e : Int → Int) : Int := if E 1 24 = 0 then w32 (1 + (if e 1 ≤ 2 then 0 else 1)) else evS (E 11) e (E 1 24).toNat 0
def paF (E : Mem) (r : Int → Int) (h : Int) : Int := max 0 (min 3 (ruF E (envF E r h)))
-- where a hearse goes
def okF (E : Mem) (r : Int → Int) (f z : Int) : Prop := (z = eG E ∨ onF r (eH E) z < 0) ∧ ((∀ x, f < x → x < z → onF r (eH E) x < 0) ∨ ∀ x, f ≤ x → x ≤ z → E 2 x = 0)
noncomputable def gdF (ok : Int → Prop) (f : Int) : Nat → Int
  | 0 => f
  | k + 1 => @ite Int (ok (f + (k + 1))) (Classical.propDecidable _) (f + (k + 1)) (gdF ok f k)
theorem gdF_c (ok : Int → Prop) (f : Int) (k : Nat) : (f ≤ gdF ok f k ∧ gdF ok f k ≤ f + k) ∧ (gdF ok f k = f ∨ ok (gdF ok f k)) ∧ ∀ x, gdF ok f k < x → x ≤ f + k → ¬ ok x := by
  induction k with
  | zero => exact ⟨⟨Int.le_refl _, by show f ≤ f + 0; omega⟩, Or.inl rfl, fun x a q => by
      have : gdF ok f 0 = f := rfl
      omega⟩
  | succ k ih =>
    unfold gdF
    by_cases h : ok (f + (k + 1))
    · rw [if_pos h]
      exact ⟨by omega, Or.inr h, fun x a q => by omega⟩
    · rw [if_neg h]
      refine ⟨by omega, ih.2.1, fun x a q => ?_⟩
      by_cases cx : x = f + (k + 1)
      · rw [cx]; exact h
      · exact ih.2.2 x a (by omega)
theorem gdF_u {ok : Int → Prop} {f z : Int} {k : Nat} (h : (f ≤ z ∧ z ≤ f + k) ∧ (z = f ∨ ok z) ∧ ∀ x, z < x → x ≤ f + k → ¬ ok x) : gdF ok f k = z := by
  have g := gdF_c ok f k
  rcases Int.lt_trichotomy (gdF ok f k) z with w | w | w
  · exfalso
    rcases h.2.1 with q | q
    · omega
    · exact g.2.2 z w h.1.2 q
  · exact w
  · exfalso
    rcases g.2.1 with q | q
    · omega
    · exact h.2.2 _ w g.1.2 q
noncomputable def goF (E : Mem) (r : Int → Int) (h p : Int) : Int := gdF (okF E r (r h)) (r h) (min (eG E) (r h + p) - r h).toNat
noncomputable def mhF (E : Mem) (r : Int → Int) (h : Int) : Int → Int := if goF E r h (paF E r h) = r h then r else if goF E r h (paF E r h) = eG E then up (up (up r 12 (w32 (r 12 + 1))) (6 + h) (w32 (r 12 + 1))) h (-1) else up r h (goF E r h (paF E r h))
-- where a mourner goes
abbrev chF (E : Mem) (r : Int → Int) (m : Int) : Prop := 0 ≤ nearF r (r (13 + m)) (eH E) ∧ (r (21 + m) < 0 ∨ ab (r (nearF r (r (13 + m)) (eH E)) - r (13 + m)) < ab (r (r (21 + m)) - r (13 + m)))
def goM (r : Int → Int) (m f : Int) : Int := if r f ≤ r (13 + m) then max (r f) (r (13 + m) - 2) else min (r f) (r (13 + m) + 2)
def mmF (E : Mem) (r : Int → Int) (m : Int) : Int → Int := if 0 ≤ r (21 + m) ∧ r (r (21 + m)) < 0 then up r (29 + m) (r (21 + m)) else if chF E r m then up (up r (21 + m) (nearF r (r (13 + m)) (eH E))) (13 + m) (goM r m (nearF r (r (13 + m)) (eH E))) else if r (21 + m) < 0 then r else up r (13 + m) (goM r m (r (21 + m)))
-- a step
def lnL (r : Int → Int) (H : Nat) : Nat → List Int
  | 0 => []
  | c + 1 => if 0 ≤ onF r H c then onF r H c :: lnL r H c else lnL r H c
noncomputable def hsF (E : Mem) : List Int → (Int → Int) → Int → Int
  | [], r => r
  | h :: t, r => hsF E t (mhF E r h)
def msF (E : Mem) : Nat → (Int → Int) → Int → Int
  | 0, r => r
  | n + 1, r => if 0 ≤ msF E n r (29 + n) then msF E n r else mmF E (msF E n r) n
noncomputable def stF (E : Mem) (r : Int → Int) : Int → Int := up (msF E (eO E) (hsF E (lnL r (eH E) (eG E).toNat) r)) 37 (msF E (eO E) (hsF E (lnL r (eH E) (eG E).toNat) r) 37 + 1)
