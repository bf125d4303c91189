/-! THE STEP of the class: it makes of a scene what the reference makes of its row -/
theorem b_1 (i : Nat) : bt 1 i = decide (i = 0) := by
  rcases Nat.lt_or_ge i 32 with h | h
  · exact (by decide +kernel : ∀ i, i < 32 → bt 1 i = decide (i = 0)) i h
  · rw [b_big h, decide_eq_false (by omega)]
theorem iI_nI (n : Nat) : iI (n : Int) = nI n := rfl
theorem iI_nI' {x : Int} (h : 0 ≤ x) : iI x = nI x.toNat := by
  have e : ((x.toNat : Nat) : Int) = x := by omega
  have h2 := iI_nI x.toNat
  rw [e] at h2
  exact h2
theorem bt_aI (a b : Int) (i : Nat) : bt (iI (aI a b)) i = (bt (iI a) i && bt (iI b) i) := by
  unfold aI
  rw [iI_toI, b_and]
theorem bt_oI (a b : Int) (i : Nat) : bt (iI (oI a b)) i = (bt (iI a) i || bt (iI b) i) := by
  unfold oI
  rw [iI_toI, b_or]
theorem bt_sl1 {y : Int} (h : 0 ≤ y ∧ y ≤ 30) {i : Nat} (hi : i < 32) : bt (iI (slI 1 y)) i = decide ((i : Int) = y) := by
  unfold slI
  rw [iI_toI, iI_nI' h.1, b_shl y.toNat (by omega) _ hi, show iI 1 = (1 : Int32) from rfl, b_1]
  by_cases c : (i : Int) = y
  · have h1 : y.toNat ≤ i := by omega
    have h2 : i - y.toNat = 0 := by omega
    simp [c, h1, h2]
  · by_cases h1 : y.toNat ≤ i
    · have h2 : ¬ i - y.toNat = 0 := by omega
      simp [c, h2]
    · simp [c, h1]
theorem aI_z {a b : Int} : aI a b = 0 ↔ ∀ i : Nat, i < 32 → ¬ (bt (iI a) i = true ∧ bt (iI b) i = true) := by
  refine ⟨fun h i hi q => ?_, fun h => ?_⟩
  · have e := bt_aI a b i
    rw [h, q.1, q.2, show iI 0 = (0 : Int32) from rfl, b_0] at e
    exact absurd e (by decide)
  · have e : iI a &&& iI b = 0 := by
      refine b_ext (fun i hi => ?_)
      rw [b_and, b_0]
      have := h i hi
      cases h1 : bt (iI a) i <;> cases h2 : bt (iI b) i <;> simp_all
    unfold aI
    rw [e]
    rfl
theorem bit1 {t k : Int} (h : 0 ≤ k ∧ k ≤ 30) : aI (srI t k) 1 = if bt (iI t) k.toNat = true then 1 else 0 := by
  have e0 : bt (iI (srI t k)) 0 = bt (iI t) k.toNat := by
    unfold srI
    rw [iI_toI, iI_nI' h.1, b_sshr k.toNat (by omega) _ (by omega), if_pos (by omega)]
    rfl
  have e : iI (srI t k) &&& iI 1 = if bt (iI t) k.toNat = true then 1 else 0 := by
    refine b_ext (fun i hi => ?_)
    rw [b_and, show iI 1 = (1 : Int32) from rfl, b_1]
    by_cases ci : i = 0
    · subst ci
      rw [e0]
      by_cases c : bt (iI t) k.toNat = true
      · rw [if_pos c, c, b_1]
        decide
      · rw [if_neg c, b_0]
        simp [c]
    · by_cases c : bt (iI t) k.toNat = true
      · rw [if_pos c, b_1]
        simp [ci]
      · rw [if_neg c, b_0]
        simp [ci]
  unfold aI
  rw [e]
  split <;> rfl
/-- what stands of the street and of a law as in E: rows of the class in M, of the reference in E -/
def kcF (k v : Int) : Int := if k = 300 then v else if k = 301 then 1000 + v else if k = 302 then 3000 else if k = 60 then 2000 else if k = 62 then 2001 else if k = 61 then 2002 else if k = 43 then 2003 else if k = 45 then 2004 else if k = 42 then 2005 else 2006
def kOK (k v : Int) : Prop := k = 300 ∧ 0 ≤ v ∧ v ≤ 999 ∨ k = 301 ∧ 0 ≤ v ∧ v ≤ 6 ∨ k = 302 ∨ k = 60 ∨ k = 62 ∨ k = 61 ∨ k = 43 ∨ k = 45 ∨ k = 42 ∨ k = 47
def plF (i : Int) : Int := if i = 0 then 1 else if i = 1 then 1001 else if i = 2 then 2 else if i = 3 then 2001 else 2003
/-- the law at kl is the code f of n rows -/
def LWf (M : Mem) (kl : Nat) (f : Int → Int) (n : Int) : Prop := M kl 4 = n ∧ ∀ i, 0 ≤ i → i < n → kcF (M (kl + 1) i) (M (kl + 2) i) = f i ∧ kOK (M (kl + 1) i) (M (kl + 2) i) ∧ (M (kl + 1) i = 301 → bt (iI (M kl 5)) (M (kl + 2) i).toNat = true)
def LAW (E M : Mem) (kl : Nat) : Prop := (1 ≤ E 1 24 ∧ LWf M kl (E 11) (E 1 24)) ∨ (E 1 24 = 0 ∧ LWf M kl plF 5)
def STR (E M : Mem) : Prop := M 158 1 = E 1 3 ∧ (4 ≤ E 1 3 ∧ E 1 3 ≤ 30) ∧ (∀ c : Nat, (c : Int) < E 1 3 → (bt (iI (M 158 2)) c = true ↔ E 2 c ≠ 0)) ∧ M 158 3 = E 1 7 ∧ (1 ≤ E 1 7 ∧ E 1 7 ≤ 20) ∧ (∀ j, 0 ≤ j → j < E 1 7 → M 159 j = E 4 j) ∧ (0 ≤ E 1 4 ∧ E 1 4 ≤ 6) ∧ (0 ≤ E 1 5 ∧ E 1 5 ≤ 8) ∧ (∀ m, 0 ≤ m → m < E 1 5 → 0 ≤ E 3 m ∧ E 3 m < E 1 4)
/-- how many have arrived; how many have ended -/
def arF (r : Int → Int) : Nat → Int
  | 0 => 0
  | n + 1 => arF r n + (if r n < 0 then 1 else 0)
def egF (r : Int → Int) : Nat → Int
  | 0 => 0
  | n + 1 => egF r n + (if r (29 + n) = -1 then 0 else 1)
theorem arF_b (r : Int → Int) (n : Nat) : 0 ≤ arF r n ∧ arF r n ≤ n := by
  induction n with
  | zero => exact ⟨Int.le_refl _, Int.le_refl _⟩
  | succ n ih =>
    unfold arF
    split <;> omega
theorem egF_b (r : Int → Int) (n : Nat) : 0 ≤ egF r n ∧ egF r n ≤ n := by
  induction n with
  | zero => exact ⟨Int.le_refl _, Int.le_refl _⟩
  | succ n ih =>
    unfold egF
    split <;> omega
theorem arF_cg {r r' : Int → Int} {n : Nat} (h : ∀ i : Int, 0 ≤ i → i < n → (r i < 0 ↔ r' i < 0)) : arF r n = arF r' n := by
  induction n with
  | zero => rfl
  | succ n ih =>
    have e := h n (by omega) (by omega)
    unfold arF
    rw [ih (fun i a q => h i a (by omega))]
    by_cases c : r n < 0
    · rw [if_pos c, if_pos (e.mp c)]
    · rw [if_neg c, if_neg (fun q => c (e.mpr q))]
theorem egF_cg {r r' : Int → Int} {n : Nat} (h : ∀ i : Int, 0 ≤ i → i < n → r (29 + i) = r' (29 + i)) : egF r n = egF r' n := by
  induction n with
  | zero => rfl
  | succ n ih =>
    unfold egF
    rw [ih (fun i a q => h i a (by omega)), h n (by omega) (by omega)]
theorem arF_p {r r' : Int → Int} {n : Nat} {h : Int} (h0 : 0 ≤ h) (h1 : h < n) (hr : 0 ≤ r h) (hr' : r' h < 0) (ho : ∀ i : Int, 0 ≤ i → i < n → i ≠ h → r' i = r i) : arF r' n = arF r n + 1 := by
  induction n with
  | zero => omega
  | succ n ih =>
    unfold arF
    by_cases c : h = n
    · rw [← c, if_pos hr', if_neg (by omega), arF_cg (r := r') (r' := r) (fun i a q => by rw [ho i a (by omega) (by omega)])]
      omega
    · rw [ih (by omega) (fun i a q w => ho i a (by omega) w), ho n (by omega) (by omega) (fun w => c w.symm)]
      omega
theorem egF_p {r r' : Int → Int} {n : Nat} {h : Int} (h0 : 0 ≤ h) (h1 : h < n) (hr : r (29 + h) = -1) (hr' : r' (29 + h) ≠ -1) (ho : ∀ i : Int, 0 ≤ i → i < n → i ≠ h → r' (29 + i) = r (29 + i)) : egF r' n = egF r n + 1 := by
  induction n with
  | zero => omega
  | succ n ih =>
    unfold egF
    by_cases c : h = n
    · rw [← c, if_neg hr', if_pos hr, egF_cg (r := r') (r' := r) (fun i a q => by rw [ho i a (by omega) (by omega)])]
      omega
    · rw [ih (by omega) (fun i a q w => ho i a (by omega) w), ho n (by omega) (by omega) (fun w => c w.symm)]
      omega
/-- the scene at k0 is the row r -/
def SC (E M : Mem) (k0 : Nat) (r : Int → Int) : Prop := M k0 6 = E 1 4 ∧ M k0 7 = E 1 5 ∧ (∀ j, 0 ≤ j → j < 6 → M (k0 + 1) j = r j) ∧ (∀ j, 0 ≤ j → j < 6 → M (k0 + 2) j = r (6 + j)) ∧ M k0 8 = r 12 ∧ (∀ m, 0 ≤ m → m < 8 → M (k0 + 3) m = r (13 + m)) ∧ (∀ m, 0 ≤ m → m < 8 → M (k0 + 4) m = E 3 m) ∧ (∀ m, 0 ≤ m → m < 8 → M (k0 + 5) m = r (21 + m)) ∧ (∀ m, 0 ≤ m → m < 8 → M (k0 + 6) m = r (29 + m)) ∧ M k0 10 = r 37 ∧ M k0 9 = egF r (eO E)
/-- a row that can be -/
def WR (E : Mem) (r : Int → Int) : Prop := DST r (E 1 4) ∧ (∀ h, 0 ≤ h → h < E 1 4 → (r h = -1 ∧ 1 ≤ r (6 + h)) ∨ (0 ≤ r h ∧ r h < eG E ∧ r (6 + h) = 0)) ∧ (∀ m, 0 ≤ m → m < E 1 5 → (-1 ≤ r (21 + m) ∧ r (21 + m) < E 1 4) ∧ (0 ≤ r (13 + m) ∧ r (13 + m) < eG E) ∧ (-1 ≤ r (29 + m) ∧ r (29 + m) < E 1 4)) ∧ r 12 = arF r (eH E) ∧ 0 ≤ r 37
theorem STR.h {E M : Mem} (h : STR E M) : ((eH E : Nat) : Int) = E 1 4 := by
  have := h.2.2.2.2.2.2.1
  show (((E 1 4).toNat : Nat) : Int) = E 1 4
  omega
theorem STR.o {E M : Mem} (h : STR E M) : ((eO E : Nat) : Int) = E 1 5 := by
  have := h.2.2.2.2.2.2.2.1
  show (((E 1 5).toNat : Nat) : Int) = E 1 5
  omega
theorem STR.g {E M : Mem} (h : STR E M) : M 158 1 - 1 = eG E ∧ 3 ≤ eG E ∧ eG E ≤ 29 := by
  have h1 := h.1
  have h2 := h.2.1
  show M 158 1 - 1 = E 1 3 - 1 ∧ 3 ≤ E 1 3 - 1 ∧ E 1 3 - 1 ≤ 29
  omega
theorem STR.fr {E M M' : Mem} (h : STR E M) (h1 : M' 158 1 = M 158 1) (h2 : M' 158 2 = M 158 2) (h3 : M' 158 3 = M 158 3) (h4 : ∀ j, M' 159 j = M 159 j) : STR E M' := by
  unfold STR
  rw [h1, h2, h3]
  exact ⟨h.1, h.2.1, h.2.2.1, h.2.2.2.1, h.2.2.2.2.1, fun j a q => by rw [h4]; exact h.2.2.2.2.2.1 j a q, h.2.2.2.2.2.2⟩
theorem LWf.fr {M M' : Mem} {kl : Nat} {f : Int → Int} {n : Int} (h : LWf M kl f n) (h4 : M' kl 4 = M kl 4) (h5 : M' kl 5 = M kl 5) (h1 : ∀ j, M' (kl + 1) j = M (kl + 1) j) (h2 : ∀ j, M' (kl + 2) j = M (kl + 2) j) : LWf M' kl f n := by
  refine ⟨by rw [h4]; exact h.1, fun i a q => ?_⟩
  rw [h1, h2, h5]
  exact h.2 i a q
theorem LAW.fr {E M M' : Mem} {kl : Nat} (h : LAW E M kl) (h4 : M' kl 4 = M kl 4) (h5 : M' kl 5 = M kl 5) (h1 : ∀ j, M' (kl + 1) j = M (kl + 1) j) (h2 : ∀ j, M' (kl + 2) j = M (kl + 2) j) : LAW E M' kl := by
  rcases h with h | h
  · exact Or.inl ⟨h.1, h.2.fr h4 h5 h1 h2⟩
  · exact Or.inr ⟨h.1, h.2.fr h4 h5 h1 h2⟩
theorem SC.fr {E M M' : Mem} {k0 : Nat} {r : Int → Int} (h : SC E M k0 r) (hf : ∀ (i : Nat) (j : Int), i ≤ 6 → M' (k0 + i) j = M (k0 + i) j) : SC E M' k0 r := by
  have e0 : ∀ j, M' k0 j = M k0 j := fun j => hf 0 j (by omega)
  obtain ⟨a1, a2, a3, a4, a5, a6, a7, a8, a9, a10, a11⟩ := h
  refine ⟨by rw [e0]; exact a1, by rw [e0]; exact a2, fun j a q => ?_, fun j a q => ?_, by rw [e0]; exact a5, fun j a q => ?_, fun j a q => ?_, fun j a q => ?_, fun j a q => ?_, by rw [e0]; exact a10, by rw [e0]; exact a11⟩
  · rw [hf 1 j (by omega)]; exact a3 j a q
  · rw [hf 2 j (by omega)]; exact a4 j a q
  · rw [hf 3 j (by omega)]; exact a6 j a q
  · rw [hf 4 j (by omega)]; exact a7 j a q
  · rw [hf 5 j (by omega)]; exact a8 j a q
  · rw [hf 6 j (by omega)]; exact a9 j a q
theorem gX8_gate {M E : Mem} {Q : Int → Mem → Prop} (hI : IX M) (hS : STR E M) (hQ : Q (eG E) M) : qX8_gate M Q := by
  refine sX8_gate hI ?_
  intro z hz
  rw [show z = eG E from by have := hS.g; omega]
  exact hQ
theorem gX6_hasArrived {k0 : Nat} {p1 : Int} {M : Mem} {Q : Int → Mem → Prop} (hp : 0 ≤ p1 ∧ p1 ≤ 5) (hQ : ∀ z : Int, (z = 1 ∧ 0 < M (k0 + 2) p1 ∨ z = 0 ∧ M (k0 + 2) p1 ≤ 0) → Q z M) : qX6_hasArrived k0 p1 M Q := by
  unfold qX6_hasArrived
  refine ⟨by omega, by omega, ?_⟩
  intro x3 e3 _
  exact ⟨fun c => hQ _ (Or.inr ⟨rfl, by omega⟩), fun c => hQ _ (Or.inl ⟨rfl, by omega⟩)⟩
theorem gX6_hasEnded {k0 : Nat} {p1 : Int} {M : Mem} {Q : Int → Mem → Prop} (hp : 0 ≤ p1 ∧ p1 ≤ 7) (hQ : ∀ z : Int, (z = 1 ∧ M (k0 + 6) p1 ≠ -1 ∨ z = 0 ∧ M (k0 + 6) p1 = -1) → Q z M) : qX6_hasEnded k0 p1 M Q := by
  unfold qX6_hasEnded
  refine ⟨by omega, by omega, ?_⟩
  intro x3 e3 _
  exact ⟨fun c => hQ _ (Or.inr ⟨rfl, by omega⟩), fun c => hQ _ (Or.inl ⟨rfl, by omega⟩)⟩
-- the nearest
theorem gX6_nearestTo_L8 {k0 : Nat} {p1 : Int} {Q : Int → Mem → Prop} {M E : Mem} {r : Int → Int} (hI : IX M) (hk0 : isS k0) (hS : STR E M) (hC : SC E M k0 r) (hW : WR E r) (hp : 0 ≤ p1 ∧ p1 ≤ 29) (hQ : Q (nearF r p1 (eH E)) M) : ∀ (n : Nat) (v2 v3 v4 : Int), v2 = nearF r p1 v4.toNat → (v2 = -1 ∧ v3 = 30 ∨ 0 ≤ v2 ∧ v3 = ab (r v2 - p1)) → (0 ≤ v4 ∧ v4 ≤ E 1 4) → E 1 4 - v4 < (n : Int) → qX6_nearestTo_L8 k0 p1 Q n v2 v3 v4 M := by
  intro n
  induction n with
  | zero => intro v2 v3 v4 h2 h3 hv hm; exact absurd hm (by omega)
  | succ n ih =>
    intro v2 v3 v4 h2 h3 hv hm
    have bH := hS.h
    have b4 := hS.2.2.2.2.2.2.1
    have bn := nearF_b r p1 v4.toNat
    have hs := nearF_s (c := r) (v := p1) hv.1
    rw [← h2] at bn hs
    have bg := hS.g
    rw [qX6_nearestTo_L8]
    intro x1 e1 _
    have f1 : x1 = E 1 4 := by rw [e1]; exact hC.1
    refine ⟨⟨by omega, by omega⟩, ⟨fun c => ⟨⟨by omega, by omega⟩, ?_⟩, fun c => ⟨by omega, by omega, ?_⟩⟩⟩
    · rw [h2, show v4.toNat = eH E from by omega]
      exact hQ
    · intro x7 e7 _
      have f7 : x7 = r v4 := by rw [e7]; exact hC.2.2.1 v4 (by omega) (by omega)
      have w7 := hW.2.1 v4 hv.1 (by omega)
      refine ⟨⟨by omega, by omega⟩, ?_⟩
      intro x9 p9 n9
      have a9 := ab_e p9 n9
      have b9 := ab_b (x7 - p1)
      have hb3 : 0 ≤ v3 ∧ v3 ≤ 60 := by
        rcases h3 with h | h
        · omega
        · have w2 := hW.2.1 v2 h.1 (by omega)
          have := ab_b (r v2 - p1)
          omega
      have YES : 0 ≤ r v4 → (v2 < 0 ∨ ab (r v4 - p1) < ab (r v2 - p1) ∨ (ab (r v4 - p1) = ab (r v2 - p1) ∧ r v2 < r v4)) → qX6_nearestTo_L8 k0 p1 Q n v4 x9 (v4 + 1) M := fun w0 w => ih _ _ _ (by rw [hs, if_pos ⟨w0, w⟩]) (Or.inr ⟨hv.1, by rw [a9, f7]⟩) (by omega) (by omega)
      have NO : ¬ (0 ≤ r v4 ∧ (v2 < 0 ∨ ab (r v4 - p1) < ab (r v2 - p1) ∨ (ab (r v4 - p1) = ab (r v2 - p1) ∧ r v2 < r v4))) → qX6_nearestTo_L8 k0 p1 Q n v2 v3 (v4 + 1) M := fun w => ih _ _ _ (by rw [hs, if_neg w]) h3 (by omega) (by omega)
      have hd : 0 ≤ v2 → 0 ≤ r v4 → r v4 ≠ r v2 := fun u w q => by
        have := hW.1 v4 v2 hv.1 (by omega) u (by omega) q w
        omega
      rw [f7] at a9 b9
      rw [← a9] at YES NO
      have J59 : ∀ t0 : Int, ((t0 = 1 ∧ (v2 < 0 ∨ x9 < ab (r v2 - p1) ∨ (x9 = ab (r v2 - p1) ∧ r v2 < r v4) ∨ r v4 < 0)) ∨ (t0 = 0 ∧ (0 ≤ r v4 → ¬ (v2 < 0 ∨ x9 < ab (r v2 - p1) ∨ (x9 = ab (r v2 - p1) ∧ r v2 < r v4))))) → qX6_nearestTo_J59 k0 p1 (qX6_nearestTo_L8 k0 p1 Q n) Q v2 v3 v4 x9 t0 M := by
        intro t0 ht
        unfold qX6_nearestTo_J59
        refine ⟨by rcases ht with h | h <;> exact ⟨by omega, by omega⟩, ⟨fun c2 => ?_, fun c2 => ⟨by omega, by omega, ?_⟩⟩⟩
        · rcases ht with h | h
          · omega
          · exact NO (fun w => h.2 w.1 w.2)
        · intro x17 e17 _
          have f17 : x17 = r v4 := by rw [e17]; exact hC.2.2.1 v4 (by omega) (by omega)
          rcases ht with h | h
          · exact ⟨fun c3 => NO (fun w => by omega), fun c3 => YES (by omega) (by omega)⟩
          · exact absurd h.1 c2
      refine ⟨⟨by omega, by omega⟩, ⟨by omega, by omega⟩, ⟨fun c2 => ?_, fun c2 => ⟨fun c3 => ?_, fun c3 => ?_⟩⟩⟩
      · unfold qX6_nearestTo_J54
        refine J59 _ (Or.inl ⟨rfl, ?_⟩)
        rcases h3 with h | h
        · exact Or.inl (by omega)
        · exact Or.inr (Or.inl (by omega))
      · unfold qX6_nearestTo_J58
        refine J59 _ (Or.inr ⟨rfl, fun w0 => ?_⟩)
        rcases h3 with h | h
        · omega
        · omega
      · intro x20 e20 _
        have f20 : x20 = r v4 := by rw [e20]; exact hC.2.2.1 v4 (by omega) (by omega)
        refine ⟨fun c4 => ?_, fun c4 => ?_⟩
        · unfold qX6_nearestTo_J58
          refine J59 _ (Or.inr ⟨rfl, fun w0 => ?_⟩)
          rcases h3 with h | h
          · omega
          · have := hd h.1 w0
            have b2 := ab_b (r v2 - p1)
            omega
        · unfold qX6_nearestTo_J54
          refine J59 _ (Or.inl ⟨rfl, ?_⟩)
          rcases h3 with h | h
          · exact Or.inl (by omega)
          · have b2 := ab_b (r v2 - p1)
            have := hd h.1 (by omega)
            omega
theorem gX6_nearestTo {k0 : Nat} {p1 : Int} {Q : Int → Mem → Prop} {M E : Mem} {r : Int → Int} (hI : IX M) (hk0 : isS k0) (hS : STR E M) (hC : SC E M k0 r) (hW : WR E r) (hp : 0 ≤ p1 ∧ p1 ≤ 29) (hQ : Q (nearF r p1 (eH E)) M) : qX6_nearestTo k0 p1 M Q := by
  have b4 := hS.2.2.2.2.2.2.1
  unfold qX6_nearestTo
  exact ⟨7, gX6_nearestTo_L8 hI hk0 hS hC hW hp hQ _ _ _ _ rfl (Or.inl ⟨rfl, rfl⟩) (by omega) (by omega)⟩
