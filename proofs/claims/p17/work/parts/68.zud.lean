/-! NOBODY WHO HAS NOT ENDED FOLLOWS ONE THAT HAS ARRIVED, between calls -/
theorem fol.e {E E' : Mem} {r : Int → Int} (h : fol E r) (e : E' 1 5 = E 1 5) : fol E' r := fun m p q w => h m p (by rw [← e]; exact q) w
theorem fol.cg {E : Mem} {r r' : Int → Int} (h : fol E r) (hE : EBx E) (hW : WR E r) (he : ∀ j, 0 ≤ j → j < 38 → r' j = r j) : fol E r' := by
  have g := hE.2
  intro m p q w
  have b := (hW.2.2.1 m p q).1
  rw [he _ (by omega) (by omega)] at w ⊢
  rcases h m p q w with u | u
  · exact Or.inl u
  · rcases Int.lt_or_le (r (21 + m)) 0 with v | v
    · exact Or.inl v
    · exact Or.inr (by rw [he _ v (by omega)]; exact u)
theorem fol_tn {E : Mem} {r : Int → Int} {m : Int} (h : fol E r) (hE : EBx E) (hW : WR E r) (ho : ∀ m, 0 ≤ m → m < E 1 5 → 0 ≤ E 3 m ∧ E 3 m < E 1 4) : fol E (tnR E r m) := by
  have g := hE.2
  unfold tnR
  split
  · rename_i c
    have o := ho m c.1.1 c.1.2
    intro i p q w
    have b := (hW.2.2.1 i p q).1
    rw [up_j (by omega)] at w
    by_cases e : i = m
    · rw [e, upS, up_j (by omega)]
      exact Or.inr c.2.2.1
    · rw [up_j (show 21 + i ≠ 21 + m by omega), up_j (show r (21 + i) ≠ 21 + m by omega)]
      exact h i p q w
  · exact h
theorem fol_ps {E : Mem} {r : Int → Int} {m v : Int} (h : fol E r) (hE : EBx E) (hW : WR E r) : fol E (psR E r m v) := by
  have g := hE.2
  unfold psR
  split
  · rename_i c
    have c0 := c.1.1
    intro i p q w
    have b := (hW.2.2.1 i p q).1
    rw [up_j (by omega)] at w
    rw [up_j (show 21 + i ≠ 13 + m by omega), up_j (show r (21 + i) ≠ 13 + m by omega)]
    exact h i p q w
  · exact h
theorem fol_sw {E : Mem} {r : Int → Int} {a b : Int} (h : fol E r) (hE : EBx E) : fol E (swR E r a b) := by
  have g := hE.2
  unfold swR
  split
  · rename_i c
    obtain ⟨⟨ca, cb, _⟩, c1, c2⟩ := c
    intro i p q w
    rw [up_j (by omega), up_j (by omega)] at w
    rw [up_j (show 21 + i ≠ b by omega), up_j (show 21 + i ≠ a by omega)]
    rcases h i p q w with u | u
    · exact Or.inl u
    · refine Or.inr ?_
      by_cases e : r (21 + i) = b
      · rw [e, upS]; exact c1
      · rw [up_j e]
        by_cases e2 : r (21 + i) = a
        · rw [e2, upS]; exact c2
        · rw [up_j e2]; exact u
  · exact h
theorem fol_do {E : Mem} {r : Int → Int} {P : Int × Int × Int × Int × Int} (h : fol E r) (hE : EBx E) (hW : WR E r) (ho : ∀ m, 0 ≤ m → m < E 1 5 → 0 ≤ E 3 m ∧ E 3 m < E 1 4) : fol E (doR E r P) := by
  unfold doR
  split
  · exact fol_it hE hW h _
  · split
    · exact fol_tn h hE hW ho
    · split
      · exact fol_ps h hE hW
      · split
        · exact fol_ps h hE hW
        · exact fol_sw h hE
theorem fol_hr {E : Mem} {f : Int → Int} {t : Int} (hE : EBx E) (ho : ∀ m, 0 ≤ m → m < E 1 5 → 0 ≤ E 3 m ∧ E 3 m < E 1 4) : ∀ (n : Nat) (a : Int) (r : Int → Int), fol E r → WR E r → fol E (hrG E f t n a r).2.2 := by
  intro n
  induction n with
  | zero => intro a r h _; exact h
  | succ n ih =>
    intro a r h hW
    unfold hrG
    split
    · exact h
    · split
      · exact ih _ _ (fol_do h hE hW ho) (hW.dos hE ho)
      · exact h
theorem shR_oo {E : Mem} {kd n f st : Int} {r : Int → Int} {j : Int} (hj : j < 13 ∨ 21 ≤ j) : ∀ m : Nat, m ≤ 8 → shR E kd n f st r m j = r j := by
  intro m
  induction m with
  | zero => intro _; rfl
  | succ m ih =>
    intro h
    unfold shR
    split
    · rw [up_j (by omega)]; exact ih (by omega)
    · exact ih (by omega)
theorem fol_sh {E : Mem} {kd n f st : Int} {r : Int → Int} (h : fol E r) (hE : EBx E) (hW : WR E r) : fol E (shRR E kd n f st r) := by
  have g := hE.2
  have f' := hE.f
  have o : ∀ j, (j < 13 ∨ 21 ≤ j) → shRR E kd n f st r j = r j := by
    intro j hj
    unfold shRR
    split
    · exact shR_oo hj _ (by omega)
    · rfl
  intro i p q w
  have b := (hW.2.2.1 i p q).1
  rw [o _ (by omega)] at w
  rw [o (21 + i) (by omega), o (r (21 + i)) (by omega)]
  exact h i p q w
theorem rdH_o {f : Int → Int} {t g : Int} : ∀ (n : Nat) (H : Int) (r : Int → Int) (a : Int), 0 ≤ H → (0 ≤ a ∧ a ≤ t) → ∀ j : Int, (13 ≤ j ∨ j < H) → (rdH f t g n H r a).2.2.2 j = r j := by
  intro n
  induction n with
  | zero => intro H r a _ _ j _; rfl
  | succ n ih =>
    intro H r a hH ha j hj
    have b := rd1_b (f := f) (t := t) (g := g) (H := H) (r := r) ha
    unfold rdH
    split
    · rfl
    · rename_i c
      have b6 := b.2.2 (by omega)
      have e : ∀ v, adH r H v j = r j := fun v => by unfold adH; rw [up_j (by omega), up_j (by omega)]
      split
      · rw [ih _ _ _ (by omega) (by omega) j (by omega)]
        exact e _
      · exact e _
theorem rdM_o {f : Int → Int} {t g H : Int} : ∀ (n : Nat) (m : Int) (r w : Int → Int) (a : Int), 0 ≤ m → (0 ≤ a ∧ a ≤ t) → (∀ j : Int, j < 13 → (rdM f t g H n m r w a).2.2.2.1 j = r j) ∧ (∀ i : Int, 0 ≤ i → i < m → (rdM f t g H n m r w a).2.2.2.1 (21 + i) = r (21 + i) ∧ (rdM f t g H n m r w a).2.2.2.1 (29 + i) = r (29 + i)) ∧ ∀ i : Int, m ≤ i → i < (rdM f t g H n m r w a).2.2.1 → (rdM f t g H n m r w a).2.2.2.1 (21 + i) = -1 := by
  intro n
  induction n with
  | zero => intro m r w a _ _; exact ⟨fun _ _ => rfl, fun _ _ _ => ⟨rfl, rfl⟩, fun i p q => by have q' : i < m := q; omega⟩
  | succ n ih =>
    intro m r w a hm ha
    have b := rd2_b (f := f) (t := t) (g := g) (H := H) (m := m) ha
    unfold rdM
    split
    · exact ⟨fun _ _ => rfl, fun _ _ _ => ⟨rfl, rfl⟩, fun i p q => by have q' : i < m := q; omega⟩
    · rename_i c
      have b8 := (b.2.2 (by omega)).1
      have e1 : ∀ v j, j < 13 → adM r m v j = r j := fun v j hj => by unfold adM; rw [up_j (by omega), up_j (by omega), up_j (by omega)]
      have e2 : ∀ v i, 0 ≤ i → i < m → adM r m v (21 + i) = r (21 + i) ∧ adM r m v (29 + i) = r (29 + i) := fun v i p q => by
        unfold adM
        rw [up_j (by omega), up_j (by omega), up_j (by omega), up_j (by omega), up_j (by omega), up_j (by omega)]
        exact ⟨rfl, rfl⟩
      have e3 : ∀ v, adM r m v (21 + m) = -1 := fun v => by unfold adM; rw [up_j (by omega), upS]
      split
      · obtain ⟨i1, i2, i3⟩ := ih (m + 1) (adM r m (rd2 f t g H m a).1) (up w m (rd2 f t g H m a).2.1) ((rd2 f t g H m a).2.2 + 1) (by omega) (by omega)
        refine ⟨fun j hj => (i1 j hj).trans (e1 _ j hj), fun i p q => ?_, fun i p q => ?_⟩
        · obtain ⟨u, v⟩ := i2 i p (by omega)
          exact ⟨u.trans (e2 _ i p q).1, v.trans (e2 _ i p q).2⟩
        · by_cases e : i = m
          · rw [e]
            exact (i2 m hm (by omega)).1.trans (e3 _)
          · exact i3 i (by omega) q
      · refine ⟨fun j hj => e1 _ j hj, fun i p q => e2 _ i p q, fun i p q => ?_⟩
        have q' : i < m + 1 := q
        rw [show i = m from by omega]
        exact e3 _
theorem fol_rdH {E : Mem} {f : Int → Int} {t g a : Int} {r : Int → Int} {n : Nat} (h : fol E r) (hE : EBx E) (hW : WR E r) (ha : 0 ≤ a ∧ a ≤ t) : fol E (rdH f t g n (E 1 4) r a).2.2.2 := by
  have g' := hE.2
  have o := rdH_o (f := f) (t := t) (g := g) n (E 1 4) r a g'.1.1 ha
  intro m p q w
  have b := (hW.2.2.1 m p q).1
  rw [o _ (by omega)] at w
  rw [o (21 + m) (by omega), o (r (21 + m)) (by omega)]
  exact h m p q w
theorem fol_rdM {E E' : Mem} {f : Int → Int} {t g a H : Int} {r w : Int → Int} {n : Nat} (h : fol E r) (hE : EBx E) (hW : WR E r) (ha : 0 ≤ a ∧ a ≤ t) (e5 : E' 1 5 = (rdM f t g H n (E 1 5) r w a).2.2.1) : fol E' (rdM f t g H n (E 1 5) r w a).2.2.2.1 := by
  have g' := hE.2
  obtain ⟨o1, o2, o3⟩ := rdM_o (f := f) (t := t) (g := g) (H := H) n (E 1 5) r w a g'.2.1 ha
  intro m p q u
  rw [e5] at q
  by_cases c : m < E 1 5
  · have b := (hW.2.2.1 m p c).1
    have o := o2 m p c
    rw [o.2] at u
    rw [o.1, o1 (r (21 + m)) (by omega)]
    exact h m p c u
  · exact Or.inl (by rw [o3 m (by omega) q]; decide)
/-- of the row now, of those that can come back, of those that are kept and still fit -/
def FOLS (M : Mem) : Prop := fol M (M 5) ∧ (∀ i, 0 ≤ i → i < M 1 28 → fol M (sg (M 15) i)) ∧ ∀ i, 0 ≤ i → i < 3 → M 29 i ≠ 0 → M 30 i = M 1 6 → fol M (sg (M 31) i)
theorem FOLS.fr {M M' : Mem} (h : FOLS M) (hm : ∀ (k : Nat) (j : Int), (k = 5 ∨ k = 15 ∨ k = 29 ∨ k = 30 ∨ k = 31 ∨ (k = 1 ∧ (j = 5 ∨ j = 6 ∨ j = 28))) → M' k j = M k j) : FOLS M' := by
  have e5 := hm 1 5 (by omega)
  have f5 : M' 5 = M 5 := funext fun j => hm 5 j (by omega)
  have f15 : M' 15 = M 15 := funext fun j => hm 15 j (by omega)
  have f31 : M' 31 = M 31 := funext fun j => hm 31 j (by omega)
  refine ⟨by rw [f5]; exact h.1.e e5, fun i p q => ?_, fun i p q w u => ?_⟩
  · rw [f15]
    exact (h.2.1 i p (by rw [← hm 1 28 (by omega)]; exact q)).e e5
  · rw [f31]
    exact (h.2.2 i p q (by rw [← hm 29 i (by omega)]; exact w) (by rw [← hm 30 i (by omega), ← hm 1 6 (by omega)]; exact u)).e e5
theorem FOLS.z {M : Mem} (h : M 1 5 = 0) : FOLS M := ⟨fun m p q => by omega, fun _ _ _ m p q => by omega, fun _ _ _ _ _ m p q => by omega⟩
theorem FOLS.act {MX MM MM' : Mem} {r' : Int → Int} (h : FOLS MM) (S : STA (cut MM) MX MM) (hE : EBx (cut MM)) (hm : RACT MM MM' r') (hf : fol (cut MM) r') : FOLS MM' := by
  obtain ⟨m1, m2, m3⟩ := hm
  have e5 : MM' 1 5 = MM 1 5 := m1 1 5 (by omega) (by decide) (by omega)
  have c5 : cut MM 1 5 = MM 1 5 := cut15 MM
  have f31 : MM' 31 = MM 31 := funext fun j => m1 31 j (by omega) (by decide) (by omega)
  have row : ∀ {r : Int → Int} {s : Int → Int}, fol MM r → WR (cut MM) r → (∀ j, 0 ≤ j → j < 38 → s j = r j) → fol MM' s := fun a w e => (fol.cg (a.e c5) hE w e).e (by rw [e5, c5])
  refine ⟨by rw [m2]; exact hf.e (by rw [e5, c5]), fun i p q => ?_, fun i p q w u => ?_⟩
  · rcases m3 with ⟨r1, r2, r3, r4⟩ | ⟨r1, r2, r3, r4⟩
    · by_cases ci : i = MM 1 28
      · rw [ci]
        exact row h.1 S.2.2.2.1 (fun j a b => r4 j a b)
      · exact row (h.2.1 i p (by omega)) (S.2.2.2.2.1.2 i p (by omega)).2 (fun j a b => r3 _ (by omega) (by omega))
    · by_cases ci : i = 14
      · rw [ci]
        exact row h.1 S.2.2.2.1 (fun j a b => r4 j a b)
      · refine row (h.2.1 (i + 1) (by omega) (by omega)) (S.2.2.2.2.1.2 (i + 1) (by omega) (by omega)).2 (fun j a b => ?_)
        show MM' 15 (38 * i + j) = MM 15 (38 * (i + 1) + j)
        rw [r3 _ (by omega) (by omega), show 38 * i + j + 38 = 38 * (i + 1) + j from by omega]
  · rw [f31]
    exact (h.2.2 i p q (by rw [← m1 29 i (by omega) (by decide) (by omega)]; exact w) (by rw [← m1 30 i (by omega) (by decide) (by omega), ← m1 1 6 (by omega) (by decide) (by omega)]; exact u)).e e5
theorem FOLS.nop {MX MM MM' : Mem} (h : FOLS MM) (S : STA (cut MM) MX MM) (hE : EBx (cut MM)) (hm : RNOP MM MM') : FOLS MM' := by
  obtain ⟨m1, m2, m3⟩ := hm
  have e5 : MM' 1 5 = MM 1 5 := m1 1 5 (by omega) (by decide) (by decide)
  have c5 : cut MM 1 5 = MM 1 5 := cut15 MM
  have f31 : MM' 31 = MM 31 := funext fun j => m1 31 j (by omega) (by decide) (by decide)
  refine ⟨by rw [m2]; exact h.1.e e5, fun i p q => ?_, fun i p q w u => ?_⟩
  · rw [m1 1 28 (by omega) (by decide) (by decide)] at q
    exact (fol.cg ((h.2.1 i p q).e c5) hE (S.2.2.2.2.1.2 i p q).2 (fun j a b => m3 _ (by omega) (by omega))).e (by rw [e5, c5])
  · rw [f31]
    exact (h.2.2 i p q (by rw [← m1 29 i (by omega) (by decide) (by decide)]; exact w) (by rw [← m1 30 i (by omega) (by decide) (by decide), ← m1 1 6 (by omega) (by decide) (by decide)]; exact u)).e e5
theorem FOLS.new {MX MM MM' : Mem} (S : STA (cut MM) MX MM) (m28 : MM' 1 28 = 0) (m6 : MM' 1 6 = MM 1 6 + 1) (e29 : ∀ i, MM' 29 i = MM 29 i) (e30 : ∀ i, MM' 30 i = MM 30 i) (hf : fol MM' (MM' 5)) : FOLS MM' := by
  refine ⟨hf, fun i p q => by omega, fun i p q w u => ?_⟩
  exfalso
  obtain ⟨k1, k2⟩ := S.2.2.2.2.2 i p q
  rw [e29] at w
  have := (k2 (fun z => w (k1.mp z))).1
  rw [e30, m6] at u
  omega
theorem FOLS.now {MM MM' : Mem} {r' : Int → Int} (h : FOLS MM) (km : FrJ (fun k j => k = 5 ∨ (k = 1 ∧ j = 0)) MM MM') (m5 : MM' 5 = r') (hf : fol (cut MM) r') : FOLS MM' := by
  have e5 : MM' 1 5 = MM 1 5 := km 1 5 (by omega)
  have c5 : cut MM 1 5 = MM 1 5 := cut15 MM
  have f15 : MM' 15 = MM 15 := funext fun j => km 15 j (by omega)
  have f31 : MM' 31 = MM 31 := funext fun j => km 31 j (by omega)
  refine ⟨by rw [m5]; exact hf.e (by rw [e5, c5]), fun i p q => ?_, fun i p q w u => ?_⟩
  · rw [f15]
    exact (h.2.1 i p (by rw [← km 1 28 (by omega)]; exact q)).e e5
  · rw [f31]
    exact (h.2.2 i p q (by rw [← km 29 i (by omega)]; exact w) (by rw [← km 30 i (by omega), ← km 1 6 (by omega)]; exact u)).e e5
theorem FOLS.undo {MX MM MM' : Mem} (h : FOLS MM) (S : STA (cut MM) MX MM) (hE : EBx (cut MM)) (hn : 0 < MM 1 28) (km : FrJ (fun k j => k = 5 ∨ (k = 1 ∧ (j = 0 ∨ j = 28))) MM MM') (m2 : MM' 1 28 = MM 1 28 - 1) (ms : ∀ j, 0 ≤ j → j < 38 → MM' 5 j = MM 15 (38 * (MM 1 28 - 1) + j)) : FOLS MM' := by
  have e5 : MM' 1 5 = MM 1 5 := km 1 5 (by omega)
  have c5 : cut MM 1 5 = MM 1 5 := cut15 MM
  have f15 : MM' 15 = MM 15 := funext fun j => km 15 j (by omega)
  have f31 : MM' 31 = MM 31 := funext fun j => km 31 j (by omega)
  refine ⟨?_, fun i p q => ?_, fun i p q w u => ?_⟩
  · exact (fol.cg ((h.2.1 (MM 1 28 - 1) (by omega) (by omega)).e c5) hE (S.2.2.2.2.1.2 (MM 1 28 - 1) (by omega) (by omega)).2 ms).e (by rw [e5, c5])
  · rw [f15]
    exact (h.2.1 i p (by omega)).e e5
  · rw [f31]
    exact (h.2.2 i p q (by rw [← km 29 i (by omega)]; exact w) (by rw [← km 30 i (by omega), ← km 1 6 (by omega)]; exact u)).e e5
theorem FOLS.keep {MX MM MM' : Mem} {p1 : Int} (h : FOLS MM) (S : STA (cut MM) MX MM) (hE : EBx (cut MM)) (cp : 0 ≤ p1 ∧ p1 ≤ 2) (km : FrJ (fun k j => (k = 31 ∧ 38 * p1 ≤ j ∧ j < 38 * p1 + 38) ∨ (k = 29 ∧ j = p1) ∨ (k = 30 ∧ j = p1) ∨ (k = 1 ∧ j = 0)) MM MM') (ms : ∀ j, 0 ≤ j → j < 38 → MM' 31 (38 * p1 + j) = MM 5 j) : FOLS MM' := by
  have e5 : MM' 1 5 = MM 1 5 := km 1 5 (by omega)
  have c5 : cut MM 1 5 = MM 1 5 := cut15 MM
  have f5 : MM' 5 = MM 5 := funext fun j => km 5 j (by omega)
  have f15 : MM' 15 = MM 15 := funext fun j => km 15 j (by omega)
  refine ⟨by rw [f5]; exact h.1.e e5, fun i p q => ?_, fun i p q w u => ?_⟩
  · rw [f15]
    exact (h.2.1 i p (by rw [← km 1 28 (by omega)]; exact q)).e e5
  · by_cases c : i = p1
    · rw [c]
      exact (fol.cg (h.1.e c5) hE S.2.2.2.1 ms).e (by rw [e5, c5])
    · rw [km 29 i (by omega)] at w
      rw [km 30 i (by omega), km 1 6 (by omega)] at u
      obtain ⟨k1, k2⟩ := S.2.2.2.2.2 i p q
      have W := ((k2 (fun z => w (k1.mp z))).2.2.1 u).2
      exact (fol.cg ((h.2.2 i p q w u).e c5) hE W (fun j a b => km 31 _ (by omega))).e (by rw [e5, c5])
theorem FOLS.again {MX MM MM' : Mem} {p1 : Int} (h : FOLS MM) (S : STA (cut MM) MX MM) (hE : EBx (cut MM)) (cp : 0 ≤ p1 ∧ p1 ≤ 2) (hk : MM 29 p1 ≠ 0) (hc : MM 30 p1 = MM 1 6) (km : FrJ (fun k j => k = 5 ∨ (k = 1 ∧ (j = 0 ∨ j = 28))) MM MM') (m2 : MM' 1 28 = 0) (ms : ∀ j, 0 ≤ j → j < 38 → MM' 5 j = MM 31 (38 * p1 + j)) : FOLS MM' := by
  have e5 : MM' 1 5 = MM 1 5 := km 1 5 (by omega)
  have c5 : cut MM 1 5 = MM 1 5 := cut15 MM
  have f31 : MM' 31 = MM 31 := funext fun j => km 31 j (by omega)
  refine ⟨?_, fun i p q => by omega, fun i p q w u => ?_⟩
  · obtain ⟨k1, k2⟩ := S.2.2.2.2.2 p1 cp.1 (by omega)
    have W := ((k2 (fun z => hk (k1.mp z))).2.2.1 hc).2
    exact (fol.cg ((h.2.2 p1 cp.1 (by omega) hk hc).e c5) hE W ms).e (by rw [e5, c5])
  · rw [f31]
    exact (h.2.2 i p q (by rw [← km 29 i (by omega)]; exact w) (by rw [← km 30 i (by omega), ← km 1 6 (by omega)]; exact u)).e e5
