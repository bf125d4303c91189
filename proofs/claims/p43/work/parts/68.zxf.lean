/-! TRIALS: now, as something is otherwise, up to THE END -/
abbrev kTr (l k : Nat) (j : Int) : Prop := (8 ≤ k ∧ k ≤ 21) ∨ (160 ≤ k ∧ k ≤ 162) ∨ k = l + 3 ∨ k = l + 4
/-- where a call of the class begins: what of it stands over trials -/
def TB (E M0 : Mem) (l : Nat) : Prop := IX M0 ∧ (M0 155 16).toNat = l ∧ (l = 187 ∨ l = 192) ∧ STR E M0 ∧ LAW E M0 l ∧ WFC (E 11) (E 1 24) ∧ 0 ≤ E 1 24
theorem TB.S {E M0 M : Mem} {l : Nat} (h : TB E M0 l) (hK : Ks (kTr l) M0 M) : STR E M := by
  have hl := h.2.2.1
  exact h.2.2.2.1.fr (hK _ _ (by omega)) (hK _ _ (by omega)) (hK _ _ (by omega)) (fun j => hK 159 j (by omega))
theorem TB.L {E M0 M : Mem} {l : Nat} (h : TB E M0 l) (hK : Ks (kTr l) M0 M) : LAW E M l := by
  have hl := h.2.2.1
  exact h.2.2.2.2.1.fr (hK _ _ (by omega)) (hK _ _ (by omega)) (fun j => hK _ j (by omega)) (fun j => hK _ j (by omega))
theorem TB.l {E M0 M : Mem} {l : Nat} (h : TB E M0 l) (hK : Ks (kTr l) M0 M) : (M 155 16).toNat = l := by
  have hl := h.2.2.1
  rw [hK 155 16 (by omega)]
  exact h.2.1
theorem trC {E M0 M : Mem} {l : Nat} {r : Int → Int} {Q : Mem → Prop} (h : TB E M0 l) (hC0 : SC E M0 1 r) (hI : IX M) (hK : Ks (kTr l) M0 M) (hQ : ∀ M' : Mem, IX M' → Ks (kTr l) M0 M' → SC E M' 8 r → Q M') : qX6_copyFrom 8 1 M Q := by
  have hl := h.2.2.1
  refine gX6_copyFrom hI (show isS 8 by decide) (show isS 1 by decide) (by decide) ?_
  intro M' i' k' s' _
  refine hQ M' i' (hK.tr (k'.mono (by intro k j q; omega))) (s' E r (hC0.fr (fun i j hi => hK _ j (by omega))))
theorem trX {E M0 M : Mem} {l : Nat} {r : Int → Int} {Q : Mem → Prop} (h : TB E M0 l) (hI : IX M) (hK : Ks (kTr l) M0 M) (hC : SC E M 8 r) (hW : WR E r) (hf : fol E r) (h37 : r 37 ≤ 1999999000) (hQ : ∀ (M' : Mem) (T : Int → Int), IX M' → Ks (kTr l) M0 M' → SC E M' 8 T → WR E T → grv E T (itF E 200 r) → Ks (kAd 8 l) M M' → Q M') : isL (M 155 16).toNat ∧ qX10_toEnd 8 (M 155 16).toNat M Q := by
  have hl := h.2.2.1
  refine ⟨hI.l16, ?_⟩
  rw [h.l hK]
  refine gX10_toEnd hI (show isS 8 by decide) hl (h.S hK) (h.L hK) h.2.2.2.2.2.1 h.2.2.2.2.2.2 hC hW hf h37 ?_
  intro M' T i' k' c' w' g'
  exact hQ M' T i' (hK.tr (k'.mono (by intro k j q; omega))) c' w' g' k'
theorem trR {E M0 M : Mem} {l : Nat} {r : Int → Int} {Q : Int → Mem → Prop} (h : TB E M0 l) (hI : IX M) (hK : Ks (kTr l) M0 M) (hC : SC E M 8 r) (hW : WR E r) (hf : fol E r) (h37 : r 37 ≤ 1999999000) (hQ : ∀ (M' : Mem) (T : Int → Int), IX M' → Ks (kTr l) M0 M' → SC E M' 8 T → WR E T → grv E T (itF E 200 r) → Q (rgE E r) M') : isL (M 155 16).toNat ∧ qX11_rightOnesOfTrial (M 155 16).toNat M Q := by
  have hl := h.2.2.1
  refine ⟨hI.l16, ?_⟩
  rw [h.l hK]
  refine gX11_rightOnesOfTrial hI hl (h.S hK) (h.L hK) h.2.2.2.2.2.1 h.2.2.2.2.2.2 hC hW hf h37 ?_
  intro M' T i' k' c' w' g'
  exact hQ M' T i' (hK.tr (k'.mono (by intro k j q; omega))) c' w' g'
-- the reference
theorem cr_o {r g g' : Int → Int} (h : OUT g g') : cr r g' = cr r g := by
  funext j
  unfold cr
  by_cases c : 0 ≤ j ∧ j < 38
  · rw [if_pos c, if_pos c]
  · rw [if_neg c, if_neg c]
    exact h j (by omega)
theorem OUT.cr (r g : Int → Int) : OUT g (cr r g) := fun j hj => by exact if_neg (by omega)
theorem OUT.tr {g r s : Int → Int} (h : OUT g r) (h2 : OUT r s) : OUT g s := fun j hj => (h2 j hj).trans (h j hj)
theorem OUT.up {g r : Int → Int} {i v : Int} (h : OUT g r) (hi : 0 ≤ i ∧ i < 38) : OUT g (up r i v) := fun j hj => by rw [up_j (by omega)]; exact h j hj
def TM (E : Mem) (b : Int) (r5 g : Int → Int) (M : Mem) : Prop := IM b M ∧ CE E M ∧ M 5 = r5 ∧ OUT g (M 6)
theorem TM.mono {E M : Mem} {b b' : Int} {r5 g : Int → Int} (h : TM E b r5 g M) (hb : b ≤ b') : TM E b' r5 g M := ⟨h.1.mono hb, h.2⟩
theorem cpM {E M : Mem} {b : Int} {r5 g : Int → Int} {Q : Mem → Prop} (h : TM E b r5 g M) (hQ : ∀ M' : Mem, TM E b r5 g M' → M' 6 = cr r5 g → Q M') : qX12_copies M Q := by
  obtain ⟨hI, hE, h5, h6⟩ := h
  refine gX12_copiesC hI ?_
  intro M' i' f' e'
  rw [h5, cr_o h6] at e'
  refine hQ M' ⟨i', hE.c6 f', ?_, ?_⟩ e'
  · rw [← h5]
    exact funext fun j => f' 5 j (by omega)
  · rw [e']
    exact OUT.cr _ _
theorem rtM {E M : Mem} {b : Int} {r5 g : Int → Int} {Q : Int → Mem → Prop} (h : TM E b r5 g M) (ho : ∀ m, 0 ≤ m → m < E 1 5 → 0 ≤ E 3 m ∧ E 3 m < E 1 4) (hW : WR E (M 6)) (hb : b + 200 ≤ 2000000000) (hQ : ∀ M' : Mem, TM E (b + 200) r5 g M' → grv E (M' 6) (itF E 200 (M 6)) → Q (rgE E (M 6)) M') : qX12_rightThen M Q := by
  obtain ⟨hI, hE, h5, h6⟩ := h
  refine fmX12_rightThen (gX12_rightThen hI hE ho hW hb (Q := fun z M' => z = rgE E (M 6) ∧ IM (b + 200) M' ∧ CE E M' ∧ OUT (M 6) (M' 6) ∧ grv E (M' 6) (itF E 200 (M 6))) (fun M' i e o g => ⟨rfl, i, e, o, g⟩)) ?_
  intro z M' f' q
  obtain ⟨ez, i', e', o', g'⟩ := q
  rw [ez]
  refine hQ M' ⟨i', e', ?_, h6.tr o'⟩ g'
  rw [← h5]
  exact funext fun j => f' 5 j (by omega)
theorem goM' {E M : Mem} {b n : Int} {r5 g : Int → Int} {Q : Mem → Prop} (h : TM E b r5 g M) (hn : n ≤ 200) (hb : b + 200 ≤ 2000000000) (hQ : ∀ M' : Mem, TM E (b + 200) r5 g M' → M' 6 = itF E n.toNat (M 6) → Q M') : qX12_goesOn 6 n M Q := by
  obtain ⟨hI, hE, h5, h6⟩ := h
  have E0 := hE.eb hI
  refine fmX12_goesOn (gX12_goesOn (p2 := n) hI hE hb (Or.inr rfl) hn (Q := fun M' => IM (b + 200) M' ∧ CE E M' ∧ M' 6 = itF E n.toNat (M 6)) (fun M' i e o => ⟨i, e, o⟩)) ?_
  intro M' f' q
  obtain ⟨i', e', o'⟩ := q
  refine hQ M' ⟨i', e', ?_, ?_⟩ o'
  · rw [← h5]
    exact funext fun j => f' 5 j (by omega)
  · rw [o']
    exact h6.tr (itF_out E0 _)
theorem bt_bitF {f : Int → Int} {x : Int} {i : Nat} (hi : i < 32) : ∀ n : Nat, n ≤ 31 → bt (iI (bitF f x n)) i = decide (i < n ∧ f i = x) := by
  intro n
  induction n with
  | zero => intro _; show bt (iI 0) i = _; rw [show iI 0 = (0 : Int32) from rfl, b_0]; simp
  | succ n ih =>
    intro hn
    have e := ih (by omega)
    unfold bitF
    by_cases c : f n = x
    · rw [if_pos c, bt_oI, e, bt_sl1 (by omega) hi]
      by_cases d : i = n
      · subst d
        simp [c]
      · have d' : ¬ ((i : Int) = (n : Int)) := by omega
        by_cases d2 : i < n
        · have d3 : i < n + 1 := by omega
          simp [d2, d3, d']
        · have d3 : ¬ i < n + 1 := by omega
          simp [d2, d3, d']
    · rw [if_neg c, bt_oI, e, show iI 0 = (0 : Int32) from rfl, b_0]
      by_cases d : i = n
      · subst d
        simp [c]
      · by_cases d2 : i < n
        · have d3 : i < n + 1 := by omega
          simp [d2, d3]
        · have d3 : ¬ i < n + 1 := by omega
          simp [d2, d3]
/-- does mourner m end right, from the row r on -/
def okR (E : Mem) (r : Int → Int) (m : Int) : Prop := itF E 200 r (29 + m) = E 3 m
theorem rgE_bt {E : Mem} {r : Int → Int} {m : Int} (hE : EBx E) (hm : 0 ≤ m ∧ m < E 1 5) : bt (iI (rgE E r)) m.toNat = true ↔ okR E r m := by
  have f := hE.f
  have g := hE.2
  unfold rgE rgB
  rw [bt_bitF (by omega) _ (by omega), decide_eq_true_iff, show ((m.toNat : Nat) : Int) = m from by omega]
  unfold okR
  refine ⟨fun h => ?_, fun h => ⟨by omega, by rw [if_pos h]⟩⟩
  by_cases c : itF E 200 r (29 + m) = E 3 m
  · exact c
  · have := h.2
    rw [if_neg c] at this
    exact absurd this (by decide)
theorem hasM {x p : Int} {M : Mem} {Q : Int → Mem → Prop} (hp : 0 ≤ p ∧ p ≤ 30) (hQ : ∀ z : Int, (z = 1 ∧ bt (iI x) p.toNat = true ∨ z = 0 ∧ ¬ bt (iI x) p.toNat = true) → Q z M) : qX12_has x p M Q := by
  unfold qX12_has
  intro x1 e1 _ x2 e2 _
  rw [e1, bit1 hp] at e2
  refine ⟨fun c => hQ _ (Or.inr ⟨rfl, fun q => c (by rw [e2, if_pos q])⟩), fun c => hQ _ (Or.inl ⟨rfl, ?_⟩)⟩
  by_cases q : bt (iI x) p.toNat = true
  · exact q
  · rw [if_neg q] at e2; omega
theorem okM {E M : Mem} {r : Int → Int} {m : Int} {Q : Int → Mem → Prop} (hE : EBx E) (hm : 0 ≤ m ∧ m < E 1 5) (hQ : ∀ z : Int, (z = 1 ∧ okR E r m ∨ z = 0 ∧ ¬ okR E r m) → Q z M) : qX12_has (rgE E r) m M Q := by
  have g := hE.2
  refine hasM (by omega) ?_
  intro z hz
  rcases hz with h | h
  · exact hQ z (Or.inl ⟨h.1, (rgE_bt hE hm).mp h.2⟩)
  · exact hQ z (Or.inr ⟨h.1, fun q => h.2 ((rgE_bt hE hm).mpr q)⟩)
theorem okX {E M : Mem} {r T : Int → Int} {m : Int} {Q : Int → Mem → Prop} (hE : EBx E) (hC : SC E M 8 T) (hg : grv E T (itF E 200 r)) (hm : 0 ≤ m ∧ m < E 1 5) (hQ : ∀ z : Int, (z = 1 ∧ okR E r m ∨ z = 0 ∧ ¬ okR E r m) → Q z M) : qX6_isRight 8 m M Q := by
  have g := hE.2
  refine gX6_isRight hC (by omega) ?_
  intro z hz
  unfold okR at hQ
  rw [← hg m hm.1 hm.2] at hQ
  exact hQ z hz
/-! RIGHT -/
theorem gX11_right {M E : Mem} {l : Nat} {r : Int → Int} {Q : Int → Mem → Prop} (h : TB E M l) (hC : SC E M 1 r) (hW : WR E r) (hf : fol E r) (h37 : r 37 ≤ 1999999000) (hQ : ∀ M' : Mem, IX M' → Q (bcF (rgE E r)) M') : qX11_right M Q := by
  unfold qX11_right
  refine trC h hC h.1 Ks.rf ?_
  intro M1 i1 k1 c1
  refine trR h i1 k1 c1 hW hf h37 ?_
  intro M3 T i3 _ _ _ _ _
  refine sX6_wrongBits i3 (show isS 8 by decide) ?_
  intro x4 _
  refine tell2 i3 ?_
  intro M5 i5 _
  refine gJ6_bitCount ?_
  intro _
  exact hQ M5 i5
theorem gX12_right {M E : Mem} {b : Int} {Q : Int → Mem → Prop} (hI : IM b M) (hE : CE E M) (ho : ∀ m, 0 ≤ m → m < E 1 5 → 0 ≤ E 3 m ∧ E 3 m < E 1 4) (hW : WR E (cr (M 5) (M 6))) (hb : b + 200 ≤ 2000000000) (hQ : ∀ M' : Mem, IM (b + 200) M' → Q (bcF (rgE E (cr (M 5) (M 6)))) M') : qX12_right M Q := by
  unfold qX12_right
  intro M1 h1
  obtain ⟨i1, E1, k5, k6, _⟩ := th0 hI hE h1
  refine cpM (b := b) (E := E) (r5 := M 5) (g := M 6) ⟨i1, E1, k5, by rw [k6]; exact fun _ _ => rfl⟩ ?_
  intro M2 t2 e2
  refine rtM t2 ho (by rw [e2]; exact hW) hb ?_
  rw [e2]
  intro M3 t3 _ _ M4 h4
  have i4 : IM (b + 200) M4 := by rw [h4]; exact t3.1.up (by omega) (bm_c1_1.mpr (by decide))
  have t4 : M4 1 1 = 0 := by rw [h4, up2_s]
  refine entC i4 (by omega) ?_
  intro M5 i5 _ t5
  refine sX12_endedBy i5 (Or.inr rfl) ?_
  intro x6 _
  refine entC i5 (by omega) ?_
  intro M7 i7 _ _
  refine gJ6_bitCount ?_
  intro _
  exact hQ M7 i7
