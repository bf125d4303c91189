/-! SHAPES: the two worlds -/
def wl (N : Nat) (ct : (Nat → Nat) → Nat → (Int → Int) → va_E) (ad : Nat → Nat) (M : Mem) : va_W := (List.range N).map (fun k => (ad k, ct ad k (M k)))
theorem wl_get {N : Nat} {ct : (Nat → Nat) → Nat → (Int → Int) → va_E} {ad : Nat → Nat} {M : Mem} {k : Nat} (h : k < N) {e : va_E} (he : ct ad k (M k) = e) : (wl N ct ad M)[k]? = some (ad k, e) := by
  subst he
  simp [wl, h]
theorem wl_set {N : Nat} {ct : (Nat → Nat) → Nat → (Int → Int) → va_E} {ad : Nat → Nat} {M : Mem} {k : Nat} {r : Int → Int} {e : va_E} (he : ct ad k r = e) : (wl N ct ad M).set k (ad k, e) = wl N ct ad (fun i => if i = k then r else M i) := by
  subst he
  apply List.ext_getElem?
  intro i
  unfold wl
  rw [List.getElem?_set]
  simp only [List.length_map, List.length_range, List.getElem?_map]
  by_cases hi : i < N
  · by_cases hk : k = i
    · subst hk
      simp [hi]
    · have hk2 : ¬ i = k := fun h => hk h.symm
      simp [hi, hk, hk2]
  · by_cases hk : k = i
    · subst hk
      simp [hi]
    · simp [hi, hk]
theorem wl_up {N : Nat} {ct : (Nat → Nat) → Nat → (Int → Int) → va_E} {ad : Nat → Nat} {M : Mem} {k : Nat} {j v : Int} {e : va_E} (he : ct ad k (up (M k) j v) = e) : (wl N ct ad M).set k (ad k, e) = wl N ct ad (up2 M k j v) := wl_set he
theorem wl_cp {N : Nat} {ct : (Nat → Nat) → Nat → (Int → Int) → va_E} {ad : Nat → Nat} {M : Mem} {a b : Nat} {n : Int} {e : va_E} (he : ct ad b (cpy (M a) (M b) n) = e) : (wl N ct ad M).set b (ad b, e) = wl N ct ad (cp2 M a b n) := wl_set he
theorem wl_len {N : Nat} {ct : (Nat → Nat) → Nat → (Int → Int) → va_E} {ad : Nat → Nat} {M : Mem} : (wl N ct ad M).length = N := by simp [wl]
abbrev FS (ad : Nat → Nat) (k : Nat) (r : Int → Int) : List Value := [.ref (ad (k + 1)), .ref (ad (k + 2)), .ref (ad (k + 3)), .ref (ad (k + 4)), .ref (ad (k + 5)), .ref (ad (k + 6)), .int (iI (r 6)), .int (iI (r 7)), .int (iI (r 8)), .int (iI (r 9)), .int (iI (r 10))]
abbrev FL (ad : Nat → Nat) (k : Nat) (r : Int → Int) : List Value := [.ref (ad (k + 1)), .ref (ad (k + 2)), .ref (ad (k + 3)), .ref (ad (k + 4)), .int (iI (r 4)), .int (iI (r 5))]
abbrev FX155 (ad : Nat → Nat) (r : Int → Int) : List Value := [.ref (ad 156), .ref (ad 158), .ref (ad 1), .ref (ad 8), .ref (ad 15), .ref (ad 22), .ref (ad 160), .ref (ad 163), .ref (ad 165), .ref (ad 166), .ref (ad 167), .ref (ad 168), .ref (ad 179), .ref (ad 182), .ref (ad 185), .int (iI (r 15)), .ref (ad (r 16).toNat), .ref (ad (r 17).toNat)]
abbrev FX156 (ad : Nat → Nat) (r : Int → Int) : List Value := [.ref (ad 157), .int (iI (r 1)), .int (iI (r 2)), .int (iI (r 3))]
abbrev FX158 (ad : Nat → Nat) (r : Int → Int) : List Value := [.ref (ad 159), .int (iI (r 1)), .int (iI (r 2)), .int (iI (r 3))]
abbrev FX160 (ad : Nat → Nat) (r : Int → Int) : List Value := [.ref (ad 158), .ref (ad 161), .ref (ad 162), .int (iI (r 3)), .int (iI (r 4)), .int (iI (r 5))]
abbrev FX163 (ad : Nat → Nat) (r : Int → Int) : List Value := [.ref (ad 164), .int (iI (r 1)), .int (iI (r 2))]
abbrev FX167 (ad : Nat → Nat) (r : Int → Int) : List Value := [.ref (ad 0), .int (iI (r 1))]
abbrev FX168 (ad : Nat → Nat) (r : Int → Int) : List Value := [.ref (ad 169), .int (iI (r 1))]
abbrev FX179 (ad : Nat → Nat) (r : Int → Int) : List Value := [.ref (ad 180), .ref (ad 181), .int (iI (r 2))]
abbrev FX182 (ad : Nat → Nat) (r : Int → Int) : List Value := [.ref (ad 183), .ref (ad 184), .int (iI (r 2))]
abbrev FX185 (ad : Nat → Nat) (r : Int → Int) : List Value := [.ref (ad 186), .int (iI (r 1)), .int (iI (r 2)), .int (iI (r 3))]
abbrev FM1 (ad : Nat → Nat) (r : Int → Int) : List Value := [.int (iI (r 0)), .int (iI (r 1)), .ref (ad 0), .int (iI (r 3)), .int (iI (r 4)), .int (iI (r 5)), .int (iI (r 6)), .int (iI (r 7)), .ref (ad 2), .ref (ad 3), .ref (ad 4), .ref (ad 5), .ref (ad 6), .ref (ad 7), .int (iI (r 14)), .int (iI (r 15)), .int (iI (r 16)), .int (iI (r 17)), .ref (ad 8), .ref (ad 9), .int (iI (r 20)), .ref (ad 10), .ref (ad 11), .ref (ad 12), .int (iI (r 24)), .int (iI (r 25)), .ref (ad 13), .ref (ad 14), .int (iI (r 28)), .ref (ad 15), .int (iI (r 30)), .int (iI (r 31)), .ref (ad 16), .ref (ad 17), .ref (ad 18), .int (iI (r 35)), .ref (ad 19), .ref (ad 20), .ref (ad 21), .int (iI (r 39)), .ref (ad 22), .ref (ad 23), .int (iI (r 42)), .ref (ad 24), .ref (ad 25), .int (iI (r 45)), .ref (ad 26), .ref (ad 27), .ref (ad 28), .int (iI (r 49)), .ref (ad 29), .ref (ad 30), .ref (ad 31)]
def scX (τ : Nat → ClassId) (ad : Nat → Nat) (k o : Nat) (r : Int → Int) : va_E := match o with
  | 0 => .inr (7, FS ad k r)
  | 1 => .inl (τ 0, 6, .inl (ar r))
  | 2 => .inl (τ 0, 6, .inl (ar r))
  | _ => .inl (τ 0, 8, .inl (ar r))
def tlX (τ : Nat → ClassId) (ad : Nat → Nat) (j : Nat) (r : Int → Int) : va_E := match j with
  | 0 => .inr (12, FX155 ad r)
  | 1 => .inr (10, FX156 ad r)
  | 2 => .inl (τ 0, 80, .inl (ar r))
  | 3 => .inr (9, FX158 ad r)
  | 4 => .inl (τ 0, 20, .inl (ar r))
  | 5 => .inr (11, FX160 ad r)
  | 6 => .inl (τ 0, 30, .inl (ar r))
  | 7 => .inl (τ 0, 8, .inl (ar r))
  | 8 => .inr (2, FX163 ad r)
  | 9 => .inl (τ 3, 15, rfs (fun i => some (ad (50 + 7 * i))))
  | 10 => .inl (τ 3, 3, rfs (fun i => some (ad (29 + 7 * i))))
  | 11 => .inl (τ 2, 3, .inl (ar r))
  | 12 => .inr (5, FX167 ad r)
  | 13 => .inr (8, FX168 ad r)
  | 14 => .inl (τ 4, 9, rfs (fun i => some (ad (170 + i))))
  | 15 => .inl (τ 0, 64, .inl (ar r))
  | 16 => .inl (τ 0, 64, .inl (ar r))
  | 17 => .inl (τ 0, 64, .inl (ar r))
  | 18 => .inl (τ 0, 64, .inl (ar r))
  | 19 => .inl (τ 0, 64, .inl (ar r))
  | 20 => .inl (τ 0, 64, .inl (ar r))
  | 21 => .inl (τ 0, 64, .inl (ar r))
  | 22 => .inl (τ 0, 64, .inl (ar r))
  | 23 => .inl (τ 0, 64, .inl (ar r))
  | 24 => .inr (4, FX179 ad r)
  | 25 => .inl (τ 0, 6, .inl (ar r))
  | 26 => .inl (τ 0, 6, .inl (ar r))
  | 27 => .inr (1, FX182 ad r)
  | 28 => .inl (τ 0, 8, .inl (ar r))
  | 29 => .inl (τ 0, 8, .inl (ar r))
  | 30 => .inr (6, FX185 ad r)
  | 31 => .inl (τ 0, 40, .inl (ar r))
  | 32 => .inr (3, FL ad 187 r)
  | 33 => .inl (τ 0, 40, .inl (ar r))
  | 34 => .inl (τ 0, 40, .inl (ar r))
  | 35 => .inl (τ 0, 40, .inl (ar r))
  | 36 => .inl (τ 0, 7, .inl (ar r))
  | 37 => .inr (3, FL ad 192 r)
  | 38 => .inl (τ 0, 40, .inl (ar r))
  | 39 => .inl (τ 0, 40, .inl (ar r))
  | 40 => .inl (τ 0, 40, .inl (ar r))
  | 41 => .inl (τ 0, 7, .inl (ar r))
  | _ => .inr (0, [])
def ctX (τ : Nat → ClassId) (ad : Nat → Nat) (k : Nat) (r : Int → Int) : va_E := if k = 0 then .inl (τ 1, 8, .inr (.inl (arL r))) else if k < 155 then scX τ ad k ((k - 1) % 7) r else tlX τ ad (k - 155) r
def WX (τ : Nat → ClassId) (ad : Nat → Nat) (M : Mem) : va_W := wl 197 (ctX τ) ad M
theorem wq_X (τ : Nat → ClassId) (ad : Nat → Nat) : WQ (WX τ ad) := ⟨197, fun _ => wl_len, by decide +kernel⟩
def ctM (τ : Nat → ClassId) (ad : Nat → Nat) (k : Nat) (r : Int → Int) : va_E := match k with
  | 0 => .inl (τ 1, 24, .inr (.inl (arL r)))
  | 1 => .inr (13, FM1 ad r)
  | 2 => .inl (τ 2, 30, .inl (ar r))
  | 3 => .inl (τ 0, 8, .inl (ar r))
  | 4 => .inl (τ 0, 20, .inl (ar r))
  | 5 => .inl (τ 0, 38, .inl (ar r))
  | 6 => .inl (τ 0, 38, .inl (ar r))
  | 7 => .inl (τ 0, 80, .inl (ar r))
  | 8 => .inl (τ 2, 30, .inl (ar r))
  | 9 => .inl (τ 0, 16, .inl (ar r))
  | 10 => .inl (τ 0, 20, .inl (ar r))
  | 11 => .inl (τ 0, 80, .inl (ar r))
  | 12 => .inl (τ 0, 80, .inl (ar r))
  | 13 => .inl (τ 0, 80, .inl (ar r))
  | 14 => .inl (τ 0, 7, .inl (ar r))
  | 15 => .inl (τ 0, 608, .inl (ar r))
  | 16 => .inl (τ 0, 30, .inl (ar r))
  | 17 => .inl (τ 0, 8, .inl (ar r))
  | 18 => .inl (τ 0, 6, .inl (ar r))
  | 19 => .inl (τ 0, 60, .inl (ar r))
  | 20 => .inl (τ 0, 60, .inl (ar r))
  | 21 => .inl (τ 0, 60, .inl (ar r))
  | 22 => .inl (τ 0, 6, .inl (ar r))
  | 23 => .inl (τ 0, 6, .inl (ar r))
  | 24 => .inl (τ 0, 8, .inl (ar r))
  | 25 => .inl (τ 0, 8, .inl (ar r))
  | 26 => .inl (τ 0, 8, .inl (ar r))
  | 27 => .inl (τ 0, 8, .inl (ar r))
  | 28 => .inl (τ 0, 80, .inl (ar r))
  | 29 => .inl (τ 2, 3, .inl (ar r))
  | 30 => .inl (τ 0, 3, .inl (ar r))
  | 31 => .inl (τ 0, 114, .inl (ar r))
  | _ => .inr (0, [])
def WM (τ : Nat → ClassId) (ad : Nat → Nat) (M : Mem) : va_W := wl 32 (ctM τ) ad M
theorem wq_M (τ : Nat → ClassId) (ad : Nat → Nat) : WQ (WM τ ad) := ⟨32, fun _ => wl_len, by decide +kernel⟩
def XI (n k : Nat) : Prop := (0 < k ∧ k < 197) ∧ ∀ (τ : Nat → ClassId) (ad : Nat → Nat) (r : Int → Int), ctX τ ad k r = .inl (τ 0, n, .inl (ar r))
theorem XI.pos {n k : Nat} (h : XI n k) : 0 < k := h.1.1
theorem gI_X {n k : Nat} (h : XI n k) (τ : Nat → ClassId) (ad : Nat → Nat) (M : Mem) : (WX τ ad M)[k]? = some (ad k, .inl (τ 0, n, .inl (ar (M k)))) := wl_get h.1.2 (h.2 τ ad _)
theorem sI_X {n k : Nat} (h : XI n k) (τ : Nat → ClassId) (ad : Nat → Nat) (M : Mem) (j v : Int) : (WX τ ad M).set k (ad k, .inl (τ 0, n, .inl (ar (up (M k) j v)))) = WX τ ad (up2 M k j v) := wl_up (h.2 τ ad _)
def XZ (n k : Nat) : Prop := (0 < k ∧ k < 197) ∧ ∀ (τ : Nat → ClassId) (ad : Nat → Nat) (r : Int → Int), ctX τ ad k r = .inl (τ 2, n, .inl (ar r))
theorem XZ.pos {n k : Nat} (h : XZ n k) : 0 < k := h.1.1
theorem gZ_X {n k : Nat} (h : XZ n k) (τ : Nat → ClassId) (ad : Nat → Nat) (M : Mem) : (WX τ ad M)[k]? = some (ad k, .inl (τ 2, n, .inl (ar (M k)))) := wl_get h.1.2 (h.2 τ ad _)
theorem sZ_X {n k : Nat} (h : XZ n k) (τ : Nat → ClassId) (ad : Nat → Nat) (M : Mem) (j v : Int) : (WX τ ad M).set k (ad k, .inl (τ 2, n, .inl (ar (up (M k) j v)))) = WX τ ad (up2 M k j v) := wl_up (h.2 τ ad _)
def XJ (n k : Nat) : Prop := (0 ≤ k ∧ k < 197) ∧ ∀ (τ : Nat → ClassId) (ad : Nat → Nat) (r : Int → Int), ctX τ ad k r = .inl (τ 1, n, .inr (.inl (arL r)))
theorem gJ_X {n k : Nat} (h : XJ n k) (τ : Nat → ClassId) (ad : Nat → Nat) (M : Mem) : (WX τ ad M)[k]? = some (ad k, .inl (τ 1, n, .inr (.inl (arL (M k))))) := wl_get h.1.2 (h.2 τ ad _)
theorem sJ_X {n k : Nat} (h : XJ n k) (τ : Nat → ClassId) (ad : Nat → Nat) (M : Mem) (j v : Int) : (WX τ ad M).set k (ad k, .inl (τ 1, n, .inr (.inl (arL (up (M k) j v))))) = WX τ ad (up2 M k j v) := wl_up (h.2 τ ad _)
theorem cI_X {n k : Nat} (h : XI n k) (τ : Nat → ClassId) (ad : Nat → Nat) (M : Mem) (a : Nat) (z : Int) : (WX τ ad M).set k (ad k, .inl (τ 0, n, .inl (ar (cpy (M a) (M k) z)))) = WX τ ad (cp2 M a k z) := wl_cp (h.2 τ ad _)
def MI (n k : Nat) : Prop := (0 < k ∧ k < 32) ∧ ∀ (τ : Nat → ClassId) (ad : Nat → Nat) (r : Int → Int), ctM τ ad k r = .inl (τ 0, n, .inl (ar r))
theorem MI.pos {n k : Nat} (h : MI n k) : 0 < k := h.1.1
theorem gI_M {n k : Nat} (h : MI n k) (τ : Nat → ClassId) (ad : Nat → Nat) (M : Mem) : (WM τ ad M)[k]? = some (ad k, .inl (τ 0, n, .inl (ar (M k)))) := wl_get h.1.2 (h.2 τ ad _)
theorem sI_M {n k : Nat} (h : MI n k) (τ : Nat → ClassId) (ad : Nat → Nat) (M : Mem) (j v : Int) : (WM τ ad M).set k (ad k, .inl (τ 0, n, .inl (ar (up (M k) j v)))) = WM τ ad (up2 M k j v) := wl_up (h.2 τ ad _)
def MZ (n k : Nat) : Prop := (0 < k ∧ k < 32) ∧ ∀ (τ : Nat → ClassId) (ad : Nat → Nat) (r : Int → Int), ctM τ ad k r = .inl (τ 2, n, .inl (ar r))
theorem MZ.pos {n k : Nat} (h : MZ n k) : 0 < k := h.1.1
theorem gZ_M {n k : Nat} (h : MZ n k) (τ : Nat → ClassId) (ad : Nat → Nat) (M : Mem) : (WM τ ad M)[k]? = some (ad k, .inl (τ 2, n, .inl (ar (M k)))) := wl_get h.1.2 (h.2 τ ad _)
theorem sZ_M {n k : Nat} (h : MZ n k) (τ : Nat → ClassId) (ad : Nat → Nat) (M : Mem) (j v : Int) : (WM τ ad M).set k (ad k, .inl (τ 2, n, .inl (ar (up (M k) j v)))) = WM τ ad (up2 M k j v) := wl_up (h.2 τ ad _)
def MJ (n k : Nat) : Prop := (0 ≤ k ∧ k < 32) ∧ ∀ (τ : Nat → ClassId) (ad : Nat → Nat) (r : Int → Int), ctM τ ad k r = .inl (τ 1, n, .inr (.inl (arL r)))
theorem gJ_M {n k : Nat} (h : MJ n k) (τ : Nat → ClassId) (ad : Nat → Nat) (M : Mem) : (WM τ ad M)[k]? = some (ad k, .inl (τ 1, n, .inr (.inl (arL (M k))))) := wl_get h.1.2 (h.2 τ ad _)
theorem sJ_M {n k : Nat} (h : MJ n k) (τ : Nat → ClassId) (ad : Nat → Nat) (M : Mem) (j v : Int) : (WM τ ad M).set k (ad k, .inl (τ 1, n, .inr (.inl (arL (up (M k) j v))))) = WM τ ad (up2 M k j v) := wl_up (h.2 τ ad _)
theorem aX_157 : XI 80 157 := ⟨⟨by decide, by decide⟩, fun _ _ _ => rfl⟩
theorem aX_159 : XI 20 159 := ⟨⟨by decide, by decide⟩, fun _ _ _ => rfl⟩
theorem aX_161 : XI 30 161 := ⟨⟨by decide, by decide⟩, fun _ _ _ => rfl⟩
theorem aX_162 : XI 8 162 := ⟨⟨by decide, by decide⟩, fun _ _ _ => rfl⟩
theorem aX_166 : XZ 3 166 := ⟨⟨by decide, by decide⟩, fun _ _ _ => rfl⟩
theorem aX_170 : XI 64 170 := ⟨⟨by decide, by decide⟩, fun _ _ _ => rfl⟩
theorem aX_180 : XI 6 180 := ⟨⟨by decide, by decide⟩, fun _ _ _ => rfl⟩
theorem aX_181 : XI 6 181 := ⟨⟨by decide, by decide⟩, fun _ _ _ => rfl⟩
theorem aX_183 : XI 8 183 := ⟨⟨by decide, by decide⟩, fun _ _ _ => rfl⟩
theorem aX_184 : XI 8 184 := ⟨⟨by decide, by decide⟩, fun _ _ _ => rfl⟩
theorem aX_186 : XI 40 186 := ⟨⟨by decide, by decide⟩, fun _ _ _ => rfl⟩
theorem aX_0 : XJ 8 0 := ⟨⟨by decide, by decide⟩, fun _ _ _ => rfl⟩
theorem aM_0 : MJ 24 0 := ⟨⟨by decide, by decide⟩, fun _ _ _ => rfl⟩
theorem aM_2 : MZ 30 2 := ⟨⟨by decide, by decide⟩, fun _ _ _ => rfl⟩
theorem aM_3 : MI 8 3 := ⟨⟨by decide, by decide⟩, fun _ _ _ => rfl⟩
theorem aM_4 : MI 20 4 := ⟨⟨by decide, by decide⟩, fun _ _ _ => rfl⟩
theorem aM_5 : MI 38 5 := ⟨⟨by decide, by decide⟩, fun _ _ _ => rfl⟩
theorem aM_6 : MI 38 6 := ⟨⟨by decide, by decide⟩, fun _ _ _ => rfl⟩
theorem aM_7 : MI 80 7 := ⟨⟨by decide, by decide⟩, fun _ _ _ => rfl⟩
theorem aM_8 : MZ 30 8 := ⟨⟨by decide, by decide⟩, fun _ _ _ => rfl⟩
theorem aM_9 : MI 16 9 := ⟨⟨by decide, by decide⟩, fun _ _ _ => rfl⟩
theorem aM_10 : MI 20 10 := ⟨⟨by decide, by decide⟩, fun _ _ _ => rfl⟩
theorem aM_11 : MI 80 11 := ⟨⟨by decide, by decide⟩, fun _ _ _ => rfl⟩
theorem aM_12 : MI 80 12 := ⟨⟨by decide, by decide⟩, fun _ _ _ => rfl⟩
theorem aM_13 : MI 80 13 := ⟨⟨by decide, by decide⟩, fun _ _ _ => rfl⟩
theorem aM_14 : MI 7 14 := ⟨⟨by decide, by decide⟩, fun _ _ _ => rfl⟩
theorem aM_15 : MI 608 15 := ⟨⟨by decide, by decide⟩, fun _ _ _ => rfl⟩
theorem aM_16 : MI 30 16 := ⟨⟨by decide, by decide⟩, fun _ _ _ => rfl⟩
theorem aM_17 : MI 8 17 := ⟨⟨by decide, by decide⟩, fun _ _ _ => rfl⟩
theorem aM_18 : MI 6 18 := ⟨⟨by decide, by decide⟩, fun _ _ _ => rfl⟩
theorem aM_19 : MI 60 19 := ⟨⟨by decide, by decide⟩, fun _ _ _ => rfl⟩
theorem aM_20 : MI 60 20 := ⟨⟨by decide, by decide⟩, fun _ _ _ => rfl⟩
theorem aM_21 : MI 60 21 := ⟨⟨by decide, by decide⟩, fun _ _ _ => rfl⟩
theorem aM_22 : MI 6 22 := ⟨⟨by decide, by decide⟩, fun _ _ _ => rfl⟩
theorem aM_23 : MI 6 23 := ⟨⟨by decide, by decide⟩, fun _ _ _ => rfl⟩
theorem aM_24 : MI 8 24 := ⟨⟨by decide, by decide⟩, fun _ _ _ => rfl⟩
theorem aM_25 : MI 8 25 := ⟨⟨by decide, by decide⟩, fun _ _ _ => rfl⟩
theorem aM_26 : MI 8 26 := ⟨⟨by decide, by decide⟩, fun _ _ _ => rfl⟩
theorem aM_27 : MI 8 27 := ⟨⟨by decide, by decide⟩, fun _ _ _ => rfl⟩
theorem aM_28 : MI 80 28 := ⟨⟨by decide, by decide⟩, fun _ _ _ => rfl⟩
theorem aM_29 : MZ 3 29 := ⟨⟨by decide, by decide⟩, fun _ _ _ => rfl⟩
theorem aM_30 : MI 3 30 := ⟨⟨by decide, by decide⟩, fun _ _ _ => rfl⟩
theorem aM_31 : MI 114 31 := ⟨⟨by decide, by decide⟩, fun _ _ _ => rfl⟩
theorem gR_164 (τ : Nat → ClassId) (ad : Nat → Nat) (M : Mem) : (WX τ ad M)[164]? = some (ad 164, .inl (τ 3, 15, rfs (fun i => some (ad (50 + 7 * i))))) := wl_get (by decide) rfl
theorem gR_165 (τ : Nat → ClassId) (ad : Nat → Nat) (M : Mem) : (WX τ ad M)[165]? = some (ad 165, .inl (τ 3, 3, rfs (fun i => some (ad (29 + 7 * i))))) := wl_get (by decide) rfl
theorem gR_169 (τ : Nat → ClassId) (ad : Nat → Nat) (M : Mem) : (WX τ ad M)[169]? = some (ad 169, .inl (τ 4, 9, rfs (fun i => some (ad (170 + i))))) := wl_get (by decide) rfl
theorem XI_most {e : Int} (h0 : 0 ≤ e) (h1 : e < 9) : XI 64 (170 + e.toNat) := by
  have h : e.toNat = 0 ∨ e.toNat = 1 ∨ e.toNat = 2 ∨ e.toNat = 3 ∨ e.toNat = 4 ∨ e.toNat = 5 ∨ e.toNat = 6 ∨ e.toNat = 7 ∨ e.toNat = 8 := by omega
  rcases h with h | h | h | h | h | h | h | h | h <;> rw [h] <;> exact ⟨⟨by decide, by decide⟩, fun _ _ _ => rfl⟩
theorem ct_S {k : Nat} (h : isS k) (τ : Nat → ClassId) (ad : Nat → Nat) (r : Int → Int) : ctX τ ad k r = .inr (7, FS ad k r) := by
  unfold ctX
  have h1 := h.1
  have h2 := h.2.1
  rw [if_neg (by omega), if_pos h2, h.2.2]
  rfl
theorem gS_X {k : Nat} (h : isS k) (τ : Nat → ClassId) (ad : Nat → Nat) (M : Mem) : (WX τ ad M)[k]? = some (ad k, .inr (7, FS ad k (M k))) := wl_get (by have := h.2.1; omega) (ct_S h τ ad _)
theorem isS_f0 {k : Nat} (h : isS k) : XI 6 (k + 1) := by
  refine ⟨⟨by omega, by have := h.2.1; have := h.2.2; omega⟩, fun τ ad r => ?_⟩
  unfold ctX
  have h2 := h.2.1
  have h3 := h.2.2
  rw [if_neg (by omega), if_pos (by omega), show (k + 1 - 1) % 7 = 1 by have := h.1; omega]
  rfl
theorem isS_f1 {k : Nat} (h : isS k) : XI 6 (k + 2) := by
  refine ⟨⟨by omega, by have := h.2.1; have := h.2.2; omega⟩, fun τ ad r => ?_⟩
  unfold ctX
  have h2 := h.2.1
  have h3 := h.2.2
  rw [if_neg (by omega), if_pos (by omega), show (k + 2 - 1) % 7 = 2 by have := h.1; omega]
  rfl
theorem isS_f2 {k : Nat} (h : isS k) : XI 8 (k + 3) := by
  refine ⟨⟨by omega, by have := h.2.1; have := h.2.2; omega⟩, fun τ ad r => ?_⟩
  unfold ctX
  have h2 := h.2.1
  have h3 := h.2.2
  rw [if_neg (by omega), if_pos (by omega), show (k + 3 - 1) % 7 = 3 by have := h.1; omega]
  rfl
theorem isS_f3 {k : Nat} (h : isS k) : XI 8 (k + 4) := by
  refine ⟨⟨by omega, by have := h.2.1; have := h.2.2; omega⟩, fun τ ad r => ?_⟩
  unfold ctX
  have h2 := h.2.1
  have h3 := h.2.2
  rw [if_neg (by omega), if_pos (by omega), show (k + 4 - 1) % 7 = 4 by have := h.1; omega]
  rfl
theorem isS_f4 {k : Nat} (h : isS k) : XI 8 (k + 5) := by
  refine ⟨⟨by omega, by have := h.2.1; have := h.2.2; omega⟩, fun τ ad r => ?_⟩
  unfold ctX
  have h2 := h.2.1
  have h3 := h.2.2
  rw [if_neg (by omega), if_pos (by omega), show (k + 5 - 1) % 7 = 5 by have := h.1; omega]
  rfl
theorem isS_f5 {k : Nat} (h : isS k) : XI 8 (k + 6) := by
  refine ⟨⟨by omega, by have := h.2.1; have := h.2.2; omega⟩, fun τ ad r => ?_⟩
  unfold ctX
  have h2 := h.2.1
  have h3 := h.2.2
  rw [if_neg (by omega), if_pos (by omega), show (k + 6 - 1) % 7 = 6 by have := h.1; omega]
  rfl
theorem sS_6 {k : Nat} (h : isS k) (τ : Nat → ClassId) (ad : Nat → Nat) (M : Mem) (v : Int) : (WX τ ad M).set k (ad k, .inr (7, (FS ad k (M k)).set 6 (.int (iI v)))) = WX τ ad (up2 M k 6 v) := wl_up (by rw [ct_S h]; rfl)
theorem sS_7 {k : Nat} (h : isS k) (τ : Nat → ClassId) (ad : Nat → Nat) (M : Mem) (v : Int) : (WX τ ad M).set k (ad k, .inr (7, (FS ad k (M k)).set 7 (.int (iI v)))) = WX τ ad (up2 M k 7 v) := wl_up (by rw [ct_S h]; rfl)
theorem sS_8 {k : Nat} (h : isS k) (τ : Nat → ClassId) (ad : Nat → Nat) (M : Mem) (v : Int) : (WX τ ad M).set k (ad k, .inr (7, (FS ad k (M k)).set 8 (.int (iI v)))) = WX τ ad (up2 M k 8 v) := wl_up (by rw [ct_S h]; rfl)
theorem sS_9 {k : Nat} (h : isS k) (τ : Nat → ClassId) (ad : Nat → Nat) (M : Mem) (v : Int) : (WX τ ad M).set k (ad k, .inr (7, (FS ad k (M k)).set 9 (.int (iI v)))) = WX τ ad (up2 M k 9 v) := wl_up (by rw [ct_S h]; rfl)
theorem sS_10 {k : Nat} (h : isS k) (τ : Nat → ClassId) (ad : Nat → Nat) (M : Mem) (v : Int) : (WX τ ad M).set k (ad k, .inr (7, (FS ad k (M k)).set 10 (.int (iI v)))) = WX τ ad (up2 M k 10 v) := wl_up (by rw [ct_S h]; rfl)
theorem ct_L {k : Nat} (h : isL k) (τ : Nat → ClassId) (ad : Nat → Nat) (r : Int → Int) : ctX τ ad k r = .inr (3, FL ad k r) := by
  rcases h with rfl | rfl <;> rfl
theorem gL_X {k : Nat} (h : isL k) (τ : Nat → ClassId) (ad : Nat → Nat) (M : Mem) : (WX τ ad M)[k]? = some (ad k, .inr (3, FL ad k (M k))) := wl_get (by rcases h with rfl | rfl <;> decide) (ct_L h τ ad _)
theorem isL_f0 {k : Nat} (h : isL k) : XI 40 (k + 1) := by
  rcases h with rfl | rfl <;> exact ⟨⟨by decide, by decide⟩, fun _ _ _ => rfl⟩
theorem isL_f1 {k : Nat} (h : isL k) : XI 40 (k + 2) := by
  rcases h with rfl | rfl <;> exact ⟨⟨by decide, by decide⟩, fun _ _ _ => rfl⟩
theorem isL_f2 {k : Nat} (h : isL k) : XI 40 (k + 3) := by
  rcases h with rfl | rfl <;> exact ⟨⟨by decide, by decide⟩, fun _ _ _ => rfl⟩
theorem isL_f3 {k : Nat} (h : isL k) : XI 7 (k + 4) := by
  rcases h with rfl | rfl <;> exact ⟨⟨by decide, by decide⟩, fun _ _ _ => rfl⟩
theorem sL_4 {k : Nat} (h : isL k) (τ : Nat → ClassId) (ad : Nat → Nat) (M : Mem) (v : Int) : (WX τ ad M).set k (ad k, .inr (3, (FL ad k (M k)).set 4 (.int (iI v)))) = WX τ ad (up2 M k 4 v) := wl_up (by rw [ct_L h]; rfl)
theorem sL_5 {k : Nat} (h : isL k) (τ : Nat → ClassId) (ad : Nat → Nat) (M : Mem) (v : Int) : (WX τ ad M).set k (ad k, .inr (3, (FL ad k (M k)).set 5 (.int (iI v)))) = WX τ ad (up2 M k 5 v) := wl_up (by rw [ct_L h]; rfl)
theorem gX_155 (τ : Nat → ClassId) (ad : Nat → Nat) (M : Mem) : (WX τ ad M)[155]? = some (ad 155, .inr (12, FX155 ad (M 155))) := wl_get (by decide) rfl
theorem sX_155_15 (τ : Nat → ClassId) (ad : Nat → Nat) (M : Mem) (v : Int) : (WX τ ad M).set 155 (ad 155, .inr (12, (FX155 ad (M 155)).set 15 (.int (iI v)))) = WX τ ad (up2 M 155 15 v) := wl_up rfl
theorem sX_155_16 (τ : Nat → ClassId) (ad : Nat → Nat) (M : Mem) (v : Nat) : (WX τ ad M).set 155 (ad 155, .inr (12, (FX155 ad (M 155)).set 16 (.ref (ad v)))) = WX τ ad (up2 M 155 16 (v : Int)) := wl_up rfl
theorem sX_155_17 (τ : Nat → ClassId) (ad : Nat → Nat) (M : Mem) (v : Nat) : (WX τ ad M).set 155 (ad 155, .inr (12, (FX155 ad (M 155)).set 17 (.ref (ad v)))) = WX τ ad (up2 M 155 17 (v : Int)) := wl_up rfl
theorem gX_156 (τ : Nat → ClassId) (ad : Nat → Nat) (M : Mem) : (WX τ ad M)[156]? = some (ad 156, .inr (10, FX156 ad (M 156))) := wl_get (by decide) rfl
theorem sX_156_1 (τ : Nat → ClassId) (ad : Nat → Nat) (M : Mem) (v : Int) : (WX τ ad M).set 156 (ad 156, .inr (10, (FX156 ad (M 156)).set 1 (.int (iI v)))) = WX τ ad (up2 M 156 1 v) := wl_up rfl
theorem sX_156_2 (τ : Nat → ClassId) (ad : Nat → Nat) (M : Mem) (v : Int) : (WX τ ad M).set 156 (ad 156, .inr (10, (FX156 ad (M 156)).set 2 (.int (iI v)))) = WX τ ad (up2 M 156 2 v) := wl_up rfl
theorem sX_156_3 (τ : Nat → ClassId) (ad : Nat → Nat) (M : Mem) (v : Int) : (WX τ ad M).set 156 (ad 156, .inr (10, (FX156 ad (M 156)).set 3 (.int (iI v)))) = WX τ ad (up2 M 156 3 v) := wl_up rfl
theorem gX_158 (τ : Nat → ClassId) (ad : Nat → Nat) (M : Mem) : (WX τ ad M)[158]? = some (ad 158, .inr (9, FX158 ad (M 158))) := wl_get (by decide) rfl
theorem sX_158_1 (τ : Nat → ClassId) (ad : Nat → Nat) (M : Mem) (v : Int) : (WX τ ad M).set 158 (ad 158, .inr (9, (FX158 ad (M 158)).set 1 (.int (iI v)))) = WX τ ad (up2 M 158 1 v) := wl_up rfl
theorem sX_158_2 (τ : Nat → ClassId) (ad : Nat → Nat) (M : Mem) (v : Int) : (WX τ ad M).set 158 (ad 158, .inr (9, (FX158 ad (M 158)).set 2 (.int (iI v)))) = WX τ ad (up2 M 158 2 v) := wl_up rfl
theorem sX_158_3 (τ : Nat → ClassId) (ad : Nat → Nat) (M : Mem) (v : Int) : (WX τ ad M).set 158 (ad 158, .inr (9, (FX158 ad (M 158)).set 3 (.int (iI v)))) = WX τ ad (up2 M 158 3 v) := wl_up rfl
theorem gX_160 (τ : Nat → ClassId) (ad : Nat → Nat) (M : Mem) : (WX τ ad M)[160]? = some (ad 160, .inr (11, FX160 ad (M 160))) := wl_get (by decide) rfl
theorem sX_160_3 (τ : Nat → ClassId) (ad : Nat → Nat) (M : Mem) (v : Int) : (WX τ ad M).set 160 (ad 160, .inr (11, (FX160 ad (M 160)).set 3 (.int (iI v)))) = WX τ ad (up2 M 160 3 v) := wl_up rfl
theorem sX_160_4 (τ : Nat → ClassId) (ad : Nat → Nat) (M : Mem) (v : Int) : (WX τ ad M).set 160 (ad 160, .inr (11, (FX160 ad (M 160)).set 4 (.int (iI v)))) = WX τ ad (up2 M 160 4 v) := wl_up rfl
theorem sX_160_5 (τ : Nat → ClassId) (ad : Nat → Nat) (M : Mem) (v : Int) : (WX τ ad M).set 160 (ad 160, .inr (11, (FX160 ad (M 160)).set 5 (.int (iI v)))) = WX τ ad (up2 M 160 5 v) := wl_up rfl
theorem gX_163 (τ : Nat → ClassId) (ad : Nat → Nat) (M : Mem) : (WX τ ad M)[163]? = some (ad 163, .inr (2, FX163 ad (M 163))) := wl_get (by decide) rfl
theorem sX_163_1 (τ : Nat → ClassId) (ad : Nat → Nat) (M : Mem) (v : Int) : (WX τ ad M).set 163 (ad 163, .inr (2, (FX163 ad (M 163)).set 1 (.int (iI v)))) = WX τ ad (up2 M 163 1 v) := wl_up rfl
theorem sX_163_2 (τ : Nat → ClassId) (ad : Nat → Nat) (M : Mem) (v : Int) : (WX τ ad M).set 163 (ad 163, .inr (2, (FX163 ad (M 163)).set 2 (.int (iI v)))) = WX τ ad (up2 M 163 2 v) := wl_up rfl
theorem gX_167 (τ : Nat → ClassId) (ad : Nat → Nat) (M : Mem) : (WX τ ad M)[167]? = some (ad 167, .inr (5, FX167 ad (M 167))) := wl_get (by decide) rfl
theorem sX_167_1 (τ : Nat → ClassId) (ad : Nat → Nat) (M : Mem) (v : Int) : (WX τ ad M).set 167 (ad 167, .inr (5, (FX167 ad (M 167)).set 1 (.int (iI v)))) = WX τ ad (up2 M 167 1 v) := wl_up rfl
theorem gX_168 (τ : Nat → ClassId) (ad : Nat → Nat) (M : Mem) : (WX τ ad M)[168]? = some (ad 168, .inr (8, FX168 ad (M 168))) := wl_get (by decide) rfl
theorem sX_168_1 (τ : Nat → ClassId) (ad : Nat → Nat) (M : Mem) (v : Int) : (WX τ ad M).set 168 (ad 168, .inr (8, (FX168 ad (M 168)).set 1 (.int (iI v)))) = WX τ ad (up2 M 168 1 v) := wl_up rfl
theorem gX_179 (τ : Nat → ClassId) (ad : Nat → Nat) (M : Mem) : (WX τ ad M)[179]? = some (ad 179, .inr (4, FX179 ad (M 179))) := wl_get (by decide) rfl
theorem sX_179_2 (τ : Nat → ClassId) (ad : Nat → Nat) (M : Mem) (v : Int) : (WX τ ad M).set 179 (ad 179, .inr (4, (FX179 ad (M 179)).set 2 (.int (iI v)))) = WX τ ad (up2 M 179 2 v) := wl_up rfl
theorem gX_182 (τ : Nat → ClassId) (ad : Nat → Nat) (M : Mem) : (WX τ ad M)[182]? = some (ad 182, .inr (1, FX182 ad (M 182))) := wl_get (by decide) rfl
theorem sX_182_2 (τ : Nat → ClassId) (ad : Nat → Nat) (M : Mem) (v : Int) : (WX τ ad M).set 182 (ad 182, .inr (1, (FX182 ad (M 182)).set 2 (.int (iI v)))) = WX τ ad (up2 M 182 2 v) := wl_up rfl
theorem gX_185 (τ : Nat → ClassId) (ad : Nat → Nat) (M : Mem) : (WX τ ad M)[185]? = some (ad 185, .inr (6, FX185 ad (M 185))) := wl_get (by decide) rfl
theorem sX_185_1 (τ : Nat → ClassId) (ad : Nat → Nat) (M : Mem) (v : Int) : (WX τ ad M).set 185 (ad 185, .inr (6, (FX185 ad (M 185)).set 1 (.int (iI v)))) = WX τ ad (up2 M 185 1 v) := wl_up rfl
theorem sX_185_2 (τ : Nat → ClassId) (ad : Nat → Nat) (M : Mem) (v : Int) : (WX τ ad M).set 185 (ad 185, .inr (6, (FX185 ad (M 185)).set 2 (.int (iI v)))) = WX τ ad (up2 M 185 2 v) := wl_up rfl
theorem sX_185_3 (τ : Nat → ClassId) (ad : Nat → Nat) (M : Mem) (v : Int) : (WX τ ad M).set 185 (ad 185, .inr (6, (FX185 ad (M 185)).set 3 (.int (iI v)))) = WX τ ad (up2 M 185 3 v) := wl_up rfl
theorem gM_1 (τ : Nat → ClassId) (ad : Nat → Nat) (M : Mem) : (WM τ ad M)[1]? = some (ad 1, .inr (13, FM1 ad (M 1))) := wl_get (by decide) rfl
theorem sM_1_0 (τ : Nat → ClassId) (ad : Nat → Nat) (M : Mem) (v : Int) : (WM τ ad M).set 1 (ad 1, .inr (13, (FM1 ad (M 1)).set 0 (.int (iI v)))) = WM τ ad (up2 M 1 0 v) := wl_up rfl
theorem sM_1_1 (τ : Nat → ClassId) (ad : Nat → Nat) (M : Mem) (v : Int) : (WM τ ad M).set 1 (ad 1, .inr (13, (FM1 ad (M 1)).set 1 (.int (iI v)))) = WM τ ad (up2 M 1 1 v) := wl_up rfl
theorem sM_1_3 (τ : Nat → ClassId) (ad : Nat → Nat) (M : Mem) (v : Int) : (WM τ ad M).set 1 (ad 1, .inr (13, (FM1 ad (M 1)).set 3 (.int (iI v)))) = WM τ ad (up2 M 1 3 v) := wl_up rfl
theorem sM_1_4 (τ : Nat → ClassId) (ad : Nat → Nat) (M : Mem) (v : Int) : (WM τ ad M).set 1 (ad 1, .inr (13, (FM1 ad (M 1)).set 4 (.int (iI v)))) = WM τ ad (up2 M 1 4 v) := wl_up rfl
theorem sM_1_5 (τ : Nat → ClassId) (ad : Nat → Nat) (M : Mem) (v : Int) : (WM τ ad M).set 1 (ad 1, .inr (13, (FM1 ad (M 1)).set 5 (.int (iI v)))) = WM τ ad (up2 M 1 5 v) := wl_up rfl
theorem sM_1_6 (τ : Nat → ClassId) (ad : Nat → Nat) (M : Mem) (v : Int) : (WM τ ad M).set 1 (ad 1, .inr (13, (FM1 ad (M 1)).set 6 (.int (iI v)))) = WM τ ad (up2 M 1 6 v) := wl_up rfl
theorem sM_1_7 (τ : Nat → ClassId) (ad : Nat → Nat) (M : Mem) (v : Int) : (WM τ ad M).set 1 (ad 1, .inr (13, (FM1 ad (M 1)).set 7 (.int (iI v)))) = WM τ ad (up2 M 1 7 v) := wl_up rfl
theorem sM_1_14 (τ : Nat → ClassId) (ad : Nat → Nat) (M : Mem) (v : Int) : (WM τ ad M).set 1 (ad 1, .inr (13, (FM1 ad (M 1)).set 14 (.int (iI v)))) = WM τ ad (up2 M 1 14 v) := wl_up rfl
theorem sM_1_15 (τ : Nat → ClassId) (ad : Nat → Nat) (M : Mem) (v : Int) : (WM τ ad M).set 1 (ad 1, .inr (13, (FM1 ad (M 1)).set 15 (.int (iI v)))) = WM τ ad (up2 M 1 15 v) := wl_up rfl
theorem sM_1_16 (τ : Nat → ClassId) (ad : Nat → Nat) (M : Mem) (v : Int) : (WM τ ad M).set 1 (ad 1, .inr (13, (FM1 ad (M 1)).set 16 (.int (iI v)))) = WM τ ad (up2 M 1 16 v) := wl_up rfl
theorem sM_1_17 (τ : Nat → ClassId) (ad : Nat → Nat) (M : Mem) (v : Int) : (WM τ ad M).set 1 (ad 1, .inr (13, (FM1 ad (M 1)).set 17 (.int (iI v)))) = WM τ ad (up2 M 1 17 v) := wl_up rfl
theorem sM_1_20 (τ : Nat → ClassId) (ad : Nat → Nat) (M : Mem) (v : Int) : (WM τ ad M).set 1 (ad 1, .inr (13, (FM1 ad (M 1)).set 20 (.int (iI v)))) = WM τ ad (up2 M 1 20 v) := wl_up rfl
theorem sM_1_24 (τ : Nat → ClassId) (ad : Nat → Nat) (M : Mem) (v : Int) : (WM τ ad M).set 1 (ad 1, .inr (13, (FM1 ad (M 1)).set 24 (.int (iI v)))) = WM τ ad (up2 M 1 24 v) := wl_up rfl
theorem sM_1_25 (τ : Nat → ClassId) (ad : Nat → Nat) (M : Mem) (v : Int) : (WM τ ad M).set 1 (ad 1, .inr (13, (FM1 ad (M 1)).set 25 (.int (iI v)))) = WM τ ad (up2 M 1 25 v) := wl_up rfl
theorem sM_1_28 (τ : Nat → ClassId) (ad : Nat → Nat) (M : Mem) (v : Int) : (WM τ ad M).set 1 (ad 1, .inr (13, (FM1 ad (M 1)).set 28 (.int (iI v)))) = WM τ ad (up2 M 1 28 v) := wl_up rfl
theorem sM_1_30 (τ : Nat → ClassId) (ad : Nat → Nat) (M : Mem) (v : Int) : (WM τ ad M).set 1 (ad 1, .inr (13, (FM1 ad (M 1)).set 30 (.int (iI v)))) = WM τ ad (up2 M 1 30 v) := wl_up rfl
theorem sM_1_31 (τ : Nat → ClassId) (ad : Nat → Nat) (M : Mem) (v : Int) : (WM τ ad M).set 1 (ad 1, .inr (13, (FM1 ad (M 1)).set 31 (.int (iI v)))) = WM τ ad (up2 M 1 31 v) := wl_up rfl
theorem sM_1_35 (τ : Nat → ClassId) (ad : Nat → Nat) (M : Mem) (v : Int) : (WM τ ad M).set 1 (ad 1, .inr (13, (FM1 ad (M 1)).set 35 (.int (iI v)))) = WM τ ad (up2 M 1 35 v) := wl_up rfl
theorem sM_1_39 (τ : Nat → ClassId) (ad : Nat → Nat) (M : Mem) (v : Int) : (WM τ ad M).set 1 (ad 1, .inr (13, (FM1 ad (M 1)).set 39 (.int (iI v)))) = WM τ ad (up2 M 1 39 v) := wl_up rfl
theorem sM_1_42 (τ : Nat → ClassId) (ad : Nat → Nat) (M : Mem) (v : Int) : (WM τ ad M).set 1 (ad 1, .inr (13, (FM1 ad (M 1)).set 42 (.int (iI v)))) = WM τ ad (up2 M 1 42 v) := wl_up rfl
theorem sM_1_45 (τ : Nat → ClassId) (ad : Nat → Nat) (M : Mem) (v : Int) : (WM τ ad M).set 1 (ad 1, .inr (13, (FM1 ad (M 1)).set 45 (.int (iI v)))) = WM τ ad (up2 M 1 45 v) := wl_up rfl
theorem sM_1_49 (τ : Nat → ClassId) (ad : Nat → Nat) (M : Mem) (v : Int) : (WM τ ad M).set 1 (ad 1, .inr (13, (FM1 ad (M 1)).set 49 (.int (iI v)))) = WM τ ad (up2 M 1 49 v) := wl_up rfl
