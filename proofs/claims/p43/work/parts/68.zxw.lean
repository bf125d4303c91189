/-! THE CLASS TRIES ALL ORDERS -/
theorem oI_lt0 : ∀ n : Nat, n < 8 → ∀ b : Nat, b < 2 ^ n → (0 ≤ oI b (slI 1 n) ∧ oI b (slI 1 n) < 2 ^ (n + 1)) ∧ oI b 0 = b := by decide +kernel
theorem bitF_lt {f : Int → Int} {x : Int} : ∀ n : Nat, n ≤ 8 → 0 ≤ bitF f x n ∧ bitF f x n < 2 ^ n := by
  intro n
  induction n with
  | zero => intro _; exact ⟨Int.le_refl 0, by show (0 : Int) < 1; omega⟩
  | succ n ih =>
    intro hn
    have a := ih (by omega)
    have c := oI_lt0 n (by omega) (bitF f x n).toNat (by
      have : (((bitF f x n).toNat : Nat) : Int) < ((2 ^ n : Nat) : Int) := by
        rw [show (((bitF f x n).toNat : Nat) : Int) = bitF f x n from by omega, Int.natCast_pow]
        exact a.2
      omega)
    rw [show (((bitF f x n).toNat : Nat) : Int) = bitF f x n from by omega] at c
    have p : (2 : Int) ^ (n + 1) = 2 * 2 ^ n := by rw [Int.pow_succ]; omega
    show 0 ≤ (if f n = x then oI (bitF f x n) (slI 1 n) else oI (bitF f x n) 0) ∧ (if f n = x then oI (bitF f x n) (slI 1 n) else oI (bitF f x n) 0) < 2 ^ (n + 1)
    split
    · exact c.1
    · rw [c.2]; omega
theorem plR_cg {r c q : Int → Int} : ∀ n : Nat, (∀ a, 0 ≤ a → a < unF r n → q a = c a) → plR r q n = plR r c n := by
  intro n
  induction n with
  | zero => intro _; rfl
  | succ n ih =>
    intro h
    have ub := unF_b r n
    unfold plR
    unfold unF at h
    by_cases e : r n < 0
    · rw [if_pos e] at h
      rw [if_pos e, if_pos e]
      exact ih (fun a p t => h a p (by omega))
    · rw [if_neg e] at h
      rw [if_neg e, if_neg e, ih (fun a p t => h a p (by omega)), h (unF r n) (by omega) (by omega)]
/-- how many are right with the hearses put so -/
noncomputable def VO (E : Mem) (r q : Int → Int) : Int := bcF (rgE E (plR r q (eH E)))
theorem VO_b {E : Mem} {r q : Int → Int} (hE : EBx E) : 0 ≤ VO E r q ∧ VO E r q ≤ E 1 5 := by
  have f := hE.f
  have g := hE.2
  refine ⟨(bcF_b _).1, ?_⟩
  have := bc_le (n := eO E) (b := rgE E (plR r q (eH E))) (by omega) (by unfold rgE rgB; exact bitF_lt _ (by omega))
  unfold VO
  omega
theorem VO_cg {E : Mem} {r c q : Int → Int} (h : ∀ a, 0 ≤ a → a < unF r (eH E) → q a = c a) : VO E r q = VO E r c := by
  unfold VO
  rw [plR_cg _ h]
/-- z is the best of all arrangements of the cells c0 -/
def BST (E : Mem) (r c0 : Int → Int) (z : Int) : Prop := (∀ q, INJ q (unF r (eH E)) → SUB c0 q (unF r (eH E)) → VO E r q ≤ z) ∧ ∃ q, INJ q (unF r (eH E)) ∧ SUB c0 q (unF r (eH E)) ∧ VO E r q = z
theorem BST.uq {E : Mem} {r c0 : Int → Int} {z w : Int} (h : BST E r c0 z) (h2 : BST E r c0 w) : z = w := by
  obtain ⟨q, a, b, c⟩ := h.2
  obtain ⟨q2, a2, b2, c2⟩ := h2.2
  have x := h.1 q2 a2 b2
  have y := h2.1 q a b
  omega
theorem TB.tr {E M0 M : Mem} {l : Nat} (h : TB E M0 l) (hI : IX M) (hK : Ks (kTr l) M0 M) : TB E M l := ⟨hI, h.l hK, h.2.2.1, h.S hK, h.L hK, h.2.2.2.2.2.1, h.2.2.2.2.2.2⟩
theorem TB.fr {E M0 M : Mem} {l : Nat} (h : TB E M0 l) (hI : IX M) (hK : ∀ k, k < 179 ∨ 182 ≤ k → M k = M0 k) : TB E M l := by
  have hl := h.2.2.1
  refine ⟨hI, by rw [hK 155 (by omega)]; exact h.2.1, hl, ?_, ?_, h.2.2.2.2.2.1, h.2.2.2.2.2.2⟩
  · exact h.2.2.2.1.fr (by rw [hK _ (by omega)]) (by rw [hK _ (by omega)]) (by rw [hK _ (by omega)]) (fun j => by rw [hK 159 (by omega)])
  · exact h.2.2.2.2.1.fr (by rw [hK _ (by omega)]) (by rw [hK _ (by omega)]) (fun j => by rw [hK _ (by omega)]) (fun j => by rw [hK _ (by omega)])
theorem SC.low {E M M' : Mem} {r : Int → Int} (h : SC E M 1 r) (hK : ∀ k, k < 179 ∨ 182 ≤ k → M' k = M k) : SC E M' 1 r := h.fr (fun i j hi => by rw [hK _ (by omega)])
theorem fol_pl {E : Mem} {r c : Int → Int} (hE : EBx E) (hW : WR E r) (hf : fol E r) (hb : ∀ a, 0 ≤ a → a < unF r (eH E) → 0 ≤ c a) : fol E (plR r c (eH E)) := by
  have ef := hE.f
  have g := hE.2
  intro m m0 m1 h
  have w := (hW.2.2.1 m m0 m1).1
  rw [plR_o _ (29 + m) (by omega)] at h
  rw [plR_o _ (21 + m) (by omega)]
  rcases hf m m0 m1 h with a | a
  · exact Or.inl a
  · by_cases n : r (21 + m) < 0
    · exact Or.inl n
    · refine Or.inr ?_
      have u := unF_lt (r := r) (i := r (21 + m)) (j := E 1 4) (by omega) w.2 a
      have ub := unF_b r (r (21 + m)).toNat
      rw [plR_i _ _ (by omega), if_neg (by omega)]
      exact hb _ ub.1 u
/-- what a turn of the loop finds -/
def ORI (E : Mem) (r c0 c : Int → Int) (s v1 v2 v3 : Int) : Prop := INJ c s ∧ (SUB c0 c s ∧ SUB c c0 s) ∧ (-1 ≤ v1 ∧ v1 ≤ E 1 5) ∧ (0 ≤ v3 ∧ v3 ≤ 720) ∧ (v1 = -1 ∧ v3 = 0 ∧ v2 = 1 ∨ ∃ q, INJ q s ∧ SUB c0 q s ∧ VO E r q = v1) ∧ (v2 = 0 ∧ (∀ q, INJ q s → SUB c0 q s → VO E r q ≤ v1) ∨ v2 = 1 ∧ v3 ≤ rk c s.toNat s.toNat ∧ ∀ q, INJ q s → SUB c0 q s → (∀ k, 0 ≤ k → k < s → q k = c k) ∨ ABV c q s ∨ VO E r q ≤ v1)
theorem gX11_order_J97 {E : Mem} {r c0 : Int → Int} {s v1 v3 : Int} {R : Int → Int → Int → Mem → Prop} {X111 : Int → Mem → Prop} {Q : Int → Mem → Prop} {M : Mem} {l : Nat} (hE : EBx E) (h : TB E M l) (hC : SC E M 1 r) (hs : M 179 2 = s ∧ s = unF r (eH E))
    (hp : ∀ a, 0 ≤ a → a < s → 0 ≤ c0 a) (hc : INJ (M 180) s) (hc1 : SUB c0 (M 180) s ∧ SUB (M 180) c0 s) (hv1 : 0 ≤ v1 ∧ v1 ≤ E 1 5) (hv3 : 0 ≤ v3 ∧ v3 < 720) (hq : ∃ q, INJ q s ∧ SUB c0 q s ∧ VO E r q = v1) (hr : v3 ≤ rk (M 180) s.toNat s.toNat)
    (ha : ∀ q, INJ q s → SUB c0 q s → ABV (M 180) q s ∨ VO E r q ≤ v1)
    (hR : ∀ (v2 : Int) (M' : Mem), TB E M' l → SC E M' 1 r → M' 179 2 = s → ORI E r c0 (M' 180) s v1 v2 (v3 + 1) → R v1 v2 (v3 + 1) M') : qX11_order_J97 R X111 Q v1 v3 M := by
  unfold qX11_order_J97
  have ub := unF_b r (eH E)
  have ef := hE.f
  have g := hE.2
  refine gX3_toNext h.1 (by omega) (by rw [hs.1]; exact hc) (fun hd _ _ => ?_) (fun I J hP M' i' f' e' _ _ => ?_)
  · rw [hs.1] at hd
    refine hR 0 M h hC hs.1 ⟨hc, hc1, by omega, by omega, Or.inr hq, Or.inl ⟨rfl, fun q q1 q2 => ?_⟩⟩
    rcases ha q q1 q2 with a | a
    · exact absurd a (nx_last hd q1 (hc1.2.tr q2))
    · exact a
  · rw [hs.1] at hP e'
    have lo : ∀ k, k < 179 ∨ 182 ≤ k → M' k = M k := fun k hk => f' k (by omega)
    have ne : M' 180 = nxC (M 180) s I J := funext e'
    have sub := nxC_sub hP
    refine hR 1 M' (h.fr i' lo) (hC.low lo) (by rw [f' 179 (by decide)]; exact hs.1) ?_
    rw [ne]
    refine ⟨nx_inj hP hc, ⟨hc1.1.tr sub.2, sub.1.tr hc1.2⟩, by omega, by omega, Or.inr hq, Or.inr ⟨rfl, ?_, fun q q1 q2 => ?_⟩⟩
    · have sn : ((s.toNat : Nat) : Int) = s := by omega
      have := rk_lt (c := M 180) (q := nxC (M 180) s I J) (n := s.toNat) (by rw [sn]; exact hc) (by rw [sn]; exact nx_inj hP hc) (by rw [sn]; exact sub.2) (by rw [sn]; exact sub.1) (by
        rw [sn]
        intro k k0 k1
        obtain ⟨m, m0, m1, em⟩ := hc1.1 k k0 k1
        rw [em]
        exact hp m m0 m1) (by rw [sn]; exact nx_up hP)
      omega
    · rcases ha q q1 q2 with a | a
      · rcases nx_abv hP q1 (hc1.2.tr q2) a with b | b
        · exact Or.inl b
        · exact Or.inr (Or.inl b)
      · exact Or.inr (Or.inr a)
