/-! READING MOURNERS, the class -/
/-- a line of mourners: the cell (-1: it can't stand), whose, where reading is then -/
def rd2 (f : Int → Int) (t g H m a : Int) : Int × Int × Int := if 8 ≤ m then (-1, 0, a) else if nuZ f t 2 a < 0 then (-1, 0, a) else if g ≤ nuZ f t 2 a then (-1, 0, a + dgC f t 2 a - 1) else if a + dgC f t 2 a < t ∧ 97 ≤ f (a + dgC f t 2 a) ∧ f (a + dgC f t 2 a) < 97 + H then (nuZ f t 2 a, f (a + dgC f t 2 a) - 97, a + dgC f t 2 a + 1) else (-1, 0, a + dgC f t 2 a)
def adM (r : Int → Int) (m v : Int) : Int → Int := up (up (up r (13 + m) v) (21 + m) (-1)) (29 + m) (-1)
def rdM (f : Int → Int) (t g H : Int) : Nat → Int → (Int → Int) → (Int → Int) → Int → Int × Int × Int × (Int → Int) × (Int → Int)
  | 0, m, r, w, a => (0, a, m, r, w)
  | n + 1, m, r, w, a => if (rd2 f t g H m a).1 < 0 then (0, (rd2 f t g H m a).2.2, m, r, w) else if (rd2 f t g H m a).2.2 < t ∧ f (rd2 f t g H m a).2.2 = 59 then rdM f t g H n (m + 1) (adM r m (rd2 f t g H m a).1) (up w m (rd2 f t g H m a).2.1) ((rd2 f t g H m a).2.2 + 1) else (1, (rd2 f t g H m a).2.2, m + 1, adM r m (rd2 f t g H m a).1, up w m (rd2 f t g H m a).2.1)
theorem rd2_b {f : Int → Int} {t g H m a : Int} (ha : 0 ≤ a ∧ a ≤ t) : (0 ≤ (rd2 f t g H m a).2.2 ∧ (rd2 f t g H m a).2.2 ≤ t) ∧ -1 ≤ (rd2 f t g H m a).1 ∧ (0 ≤ (rd2 f t g H m a).1 → m < 8 ∧ (rd2 f t g H m a).1 < g ∧ 0 ≤ (rd2 f t g H m a).2.1 ∧ (rd2 f t g H m a).2.1 < H) := by
  have b := nuZ_b (f := f) (t := t) (a := a)
  have bad : ∀ x : Int, (0 ≤ x ∧ x ≤ t) → (0 ≤ ((-1, 0, x) : Int × Int × Int).2.2 ∧ ((-1, 0, x) : Int × Int × Int).2.2 ≤ t) ∧ -1 ≤ ((-1, 0, x) : Int × Int × Int).1 ∧ (0 ≤ ((-1, 0, x) : Int × Int × Int).1 → m < 8 ∧ ((-1, 0, x) : Int × Int × Int).1 < g ∧ 0 ≤ ((-1, 0, x) : Int × Int × Int).2.1 ∧ ((-1, 0, x) : Int × Int × Int).2.1 < H) := fun x hx => ⟨hx, by show (-1 : Int) ≤ -1; decide, fun h => absurd h (by show ¬ (0 : Int) ≤ -1; decide)⟩
  have b3 := b.2.2.1 ha.2
  unfold rd2
  split
  · exact bad _ ha
  · split
    · exact bad _ ha
    · split
      · exact bad _ ⟨by have := b.2.1 (by omega); omega, by omega⟩
      · split
        · refine ⟨⟨?_, ?_⟩, ?_, fun _ => ?_⟩
          · show 0 ≤ a + dgC f t 2 a + 1
            omega
          · show a + dgC f t 2 a + 1 ≤ t
            omega
          · exact b.1.1
          · show m < 8 ∧ nuZ f t 2 a < g ∧ 0 ≤ f (a + dgC f t 2 a) - 97 ∧ f (a + dgC f t 2 a) - 97 < H
            omega
        · exact bad _ ⟨by omega, b3⟩
/-- with m mourners, whose they are -/
def eM (E : Mem) (w : Int → Int) (m : Int) : Mem := fun k => if k = 3 then w else up2 E 1 5 m k
theorem eM_3 (E : Mem) (w : Int → Int) (m : Int) : eM E w m 3 = w := rfl
theorem eM_5 (E : Mem) (w : Int → Int) (m : Int) : eM E w m 1 5 = m := up2_s E 1 5 m
theorem eM_1 (E : Mem) (w : Int → Int) (m : Int) {j : Int} (h : j ≠ 5) : eM E w m 1 j = E 1 j := by
  show up2 E 1 5 m 1 j = E 1 j
  rw [up2_j h]
theorem eM_k (E : Mem) (w : Int → Int) (m : Int) {k : Nat} (h : k ≠ 1) (h3 : k ≠ 3) : eM E w m k = E k := by
  unfold eM
  rw [if_neg h3, up2_n h]
theorem eM_o (E : Mem) (w : Int → Int) (m : Int) : eO (eM E w m) = m.toNat := by
  show (eM E w m 1 5).toNat = m.toNat
  rw [eM_5]
theorem egF_s {r : Int → Int} {i : Int} (h : 0 ≤ i) : egF r (i + 1).toNat = egF r i.toNat + (if r (29 + i) = -1 then 0 else 1) := by
  rw [show (i + 1).toNat = i.toNat + 1 from by omega]
  show egF r i.toNat + (if r (29 + (i.toNat : Nat)) = -1 then 0 else 1) = _
  rw [show ((i.toNat : Nat) : Int) = i from by omega]
theorem adM_o {r : Int → Int} {m v j : Int} (h : j ≠ 13 + m ∧ j ≠ 21 + m ∧ j ≠ 29 + m) : adM r m v j = r j := by
  unfold adM
  rw [up_j h.2.2, up_j h.2.1, up_j h.1]
theorem SC.addM {E M : Mem} {k : Nat} {r w : Int → Int} {m v o : Int} (hC : SC (eM E w m) M k r) (hm : 0 ≤ m ∧ m < 8) : SC (eM E (up w m o) (m + 1)) (up2 (up2 (up2 (up2 (up2 M (k + 3) m v) (k + 4) m o) (k + 5) m (-1)) (k + 6) m (-1)) k 7 (m + 1)) k (adM r m v) := by
  obtain ⟨a1, a2, a3, a4, a5, a6, a7, a8, a9, a10, a11⟩ := hC
  rw [eM_1 _ _ _ (by decide)] at a1
  rw [eM_3] at a7
  rw [eM_o] at a11
  unfold SC
  rw [eM_1 _ _ _ (by decide), eM_5, eM_3, eM_o]
  refine ⟨by rw [up2_j (by decide), up2_n (by omega), up2_n (by omega), up2_n (by omega), up2_n (by omega)]; exact a1, by rw [up2_s], fun j a q => ?_, fun j a q => ?_, ?_, fun j a q => ?_, fun j a q => ?_, fun j a q => ?_, fun j a q => ?_, ?_, ?_⟩
  · rw [up2_n (by omega), up2_n (by omega), up2_n (by omega), up2_n (by omega), up2_n (by omega), adM_o (by omega)]
    exact a3 j a q
  · rw [up2_n (by omega), up2_n (by omega), up2_n (by omega), up2_n (by omega), up2_n (by omega), adM_o (by omega)]
    exact a4 j a q
  · rw [up2_j (by decide), up2_n (by omega), up2_n (by omega), up2_n (by omega), up2_n (by omega), adM_o (by omega)]
    exact a5
  · rw [up2_n (by omega), up2_n (by omega), up2_n (by omega), up2_n (by omega)]
    unfold adM
    rw [up_j (by omega), up_j (by omega)]
    by_cases cj : j = m
    · rw [cj, up2_s, upS]
    · rw [up2_j cj, up_j (by omega)]; exact a6 j a q
  · rw [up2_n (by omega), up2_n (by omega), up2_n (by omega)]
    by_cases cj : j = m
    · rw [cj, up2_s, upS]
    · rw [up2_j cj, up2_n (by omega), up_j cj]; exact a7 j a q
  · rw [up2_n (by omega), up2_n (by omega)]
    unfold adM
    rw [up_j (by omega)]
    by_cases cj : j = m
    · rw [cj, up2_s, upS]
    · rw [up2_j cj, up2_n (by omega), up2_n (by omega), up_j (by omega), up_j (by omega)]; exact a8 j a q
  · rw [up2_n (by omega)]
    unfold adM
    by_cases cj : j = m
    · rw [cj, up2_s, upS]
    · rw [up2_j cj, up2_n (by omega), up2_n (by omega), up2_n (by omega), up_j (by omega), up_j (by omega), up_j (by omega)]; exact a9 j a q
  · rw [up2_j (by decide), up2_n (by omega), up2_n (by omega), up2_n (by omega), up2_n (by omega), adM_o (by omega)]
    exact a10
  · rw [up2_j (by decide), up2_n (by omega), up2_n (by omega), up2_n (by omega), up2_n (by omega), a11, egF_s hm.1]
    have e : adM r m v (29 + m) = -1 := by unfold adM; rw [upS]
    rw [if_pos e, Int.add_zero]
    exact egF_cg (fun i a q => by rw [adM_o (by omega)])
theorem gX11_readMourner {M E : Mem} {m : Int} {r w : Int → Int} {Q : Int → Mem → Prop} (hI : IX M) (hC : SC (eM E w m) M 8 r) (hm : 0 ≤ m ∧ m ≤ 8) (h4 : 0 ≤ E 1 4 ∧ E 1 4 ≤ 6) (hg : M 158 1 - 1 = eG E) (ha : 0 ≤ M 156 2 ∧ M 156 2 ≤ M 156 3) (hQ : ∀ (z : Int) (M' : Mem), IX M' → Ks kRd M M' → M' 156 2 = (rd2 (M 157) (M 156 3) (eG E) (E 1 4) m (M 156 2)).2.2 → ((rd2 (M 157) (M 156 3) (eG E) (E 1 4) m (M 156 2)).1 < 0 ∧ z = 0 ∨ 0 ≤ (rd2 (M 157) (M 156 3) (eG E) (E 1 4) m (M 156 2)).1 ∧ z = 1 ∧ SC (eM E (up w m (rd2 (M 157) (M 156 3) (eG E) (E 1 4) m (M 156 2)).2.1) (m + 1)) M' 8 (adM r m (rd2 (M 157) (M 156 3) (eG E) (E 1 4) m (M 156 2)).1)) → Q z M') : qX11_readMourner M Q := by
  unfold rd2 at hQ
  have h7 : M 8 7 = m := by rw [hC.2.1]; exact eM_5 E w m
  have h6 : M 8 6 = E 1 4 := by rw [hC.1]; exact eM_1 E w m (by decide)
  have b158 := bx_c158_1.mp (hI.bx 158 1)
  have bn := nuZ_b (f := M 157) (t := M 156 3) (a := M 156 2)
  unfold qX11_readMourner
  intro x1 e1 _
  refine ⟨fun c => ?_, fun c => ?_⟩
  · have c8 : ¬ 8 ≤ m := by omega
    rw [if_neg c8] at hQ
    unfold qX11_readCell
    refine gX9_number (p1 := 2) hI (by decide) ?_
    intro z1 M1 i1 k1 n1 _
    obtain ⟨f1, g1⟩ := NUM.fn (p := 2) (by omega) n1
    have C1 : SC (eM E w m) M1 8 r := hC.fr (fun i j hi => k1 _ j (by omega))
    have g156 : M1 156 3 = M 156 3 := k1 156 3 (by omega)
    have g157 : M1 157 = M 157 := funext fun j => k1 157 j (by omega)
    refine sX8_gate i1 ?_
    intro z2 hz2 _
    have eg : z2 = eG E := by
      have : M1 158 1 = M 158 1 := k1 158 1 (by omega)
      omega
    have K1 : Ks kRd M M1 := k1.mono (fun k j h => Or.inl h)
    refine ⟨fun d => ?_, fun d => ?_⟩
    · intro _
      refine gX9_look i1 ?_
      intro x4 p4 _
      rw [g156, g157, g1] at p4
      refine ⟨fun d2 => ?_, fun d2 => ?_⟩
      · rw [if_pos (by omega)] at hQ
        have := bn.2.2.2 (by omega)
        refine hQ 0 M1 i1 K1 ?_ (Or.inl ⟨by show (-1 : Int) < 0; decide, rfl⟩)
        show M1 156 2 = M 156 2
        omega
      · have cn : ¬ nuZ (M 157) (M 156 3) 2 (M 156 2) < 0 := by omega
        rw [if_neg cn, if_neg (by omega)] at hQ
        have r4 : -1 ≤ x4 ∧ x4 ≤ 255 := by
          rcases p4 with q | q
          · have := bx_c157.mp (hI.bx 157 (M 156 2 + dgC (M 157) (M 156 3) 2 (M 156 2)))
            omega
          · omega
        have NO : ¬ (M 156 2 + dgC (M 157) (M 156 3) 2 (M 156 2) < M 156 3 ∧ 97 ≤ M 157 (M 156 2 + dgC (M 157) (M 156 3) 2 (M 156 2)) ∧ M 157 (M 156 2 + dgC (M 157) (M 156 3) 2 (M 156 2)) < 97 + E 1 4) → Q 0 M1 := by
          intro no
          rw [if_neg no] at hQ
          exact hQ 0 M1 i1 K1 g1 (Or.inl ⟨by show (-1 : Int) < 0; decide, rfl⟩)
        refine ⟨⟨by omega, by omega⟩, ⟨fun d3 => NO ?_, fun d3 => ?_⟩⟩
        · rcases p4 with q | q <;> omega
        · intro x8 e8 _
          have f8 : x8 = E 1 4 := by rw [e8, C1.1]; exact eM_1 E w m (by decide)
          refine ⟨fun d4 => ?_, fun d4 => NO ?_⟩
          · rcases p4 with ⟨q1, q2⟩ | ⟨q1, q2⟩
            · rw [if_pos ⟨q1, by omega, by omega⟩] at hQ
              refine gX9_pass i1 ?_
              intro M10 i10 k10 p10
              have at10 : M10 156 2 = M 156 2 + dgC (M 157) (M 156 3) 2 (M 156 2) + 1 := by
                rcases p10 with u | u <;> omega
              have C10 : SC (eM E w m) M10 8 r := C1.fr (fun i j hi => k10 _ j (by omega))
              have s7 : M10 8 7 = m := by rw [C10.2.1]; exact eM_5 E w m
              unfold qX6_addMourner
              intro y1 w1 _
              refine ⟨by omega, by omega, ?_⟩
              intro M4 h4' y5 w5 _
              have v5 : y5 = m := by rw [w5, h4', up2_n (by decide)]; exact s7
              refine ⟨by omega, by omega, ?_⟩
              intro M8 h8 y9 w9 _
              have v9 : y9 = m := by rw [w9, h8, up2_n (by decide), h4', up2_n (by decide)]; exact s7
              refine ⟨by omega, by omega, ?_⟩
              intro M12 h12 y13 w13 _
              have v13 : y13 = m := by rw [w13, h12, up2_n (by decide), h8, up2_n (by decide), h4', up2_n (by decide)]; exact s7
              refine ⟨by omega, by omega, ?_⟩
              intro M16 h16 y17 w17 _
              have v17 : y17 = m := by rw [w17, h16, up2_n (by decide), h12, up2_n (by decide), h8, up2_n (by decide), h4', up2_n (by decide)]; exact s7
              refine ⟨⟨by omega, by omega⟩, ?_⟩
              intro M19 h19
              have is8 : isS 8 := by decide
              have i4 : IX M4 := by rw [h4']; exact i10.up (is8.nsp 3 (by decide)) ((bx_s3 is8).mpr ⟨by omega, by omega⟩)
              have i8 : IX M8 := by rw [h8]; exact i4.up (is8.nsp 4 (by decide)) ((bx_s4 is8).mpr ⟨by omega, by omega⟩)
              have i12 : IX M12 := by rw [h12]; exact i8.up (is8.nsp 5 (by decide)) ((bx_s5 is8).mpr ⟨by decide, by decide⟩)
              have i16 : IX M16 := by rw [h16]; exact i12.up (is8.nsp 6 (by decide)) (bx_sf6 is8)
              have i19 : IX M19 := by rw [h19]; exact i16.up (is8.nsp 0 (by decide)) ((bx_s0_7 is8).mpr ⟨by omega, by omega⟩)
              refine hQ 1 M19 i19 ?_ ?_ (Or.inr ⟨by show 0 ≤ nuZ _ _ _ _; omega, rfl, ?_⟩)
              · rw [h19, h16, h12, h8, h4']
                exact (((((K1.tr (k10.mono (fun k j h => Or.inl h))).wr (by omega)).wr (by omega)).wr (by omega)).wr (by omega)).wr (by omega)
              · rw [h19, up2_n (by decide), h16, up2_n (by decide), h12, up2_n (by decide), h8, up2_n (by decide), h4', up2_n (by decide)]
                exact at10
              · rw [h19, h16, h12, h8, h4', v17, v13, v9, v5, show y1 = m from by omega, f1, q2]
                exact C10.addM (by omega)
            · omega
          · rcases p4 with q | q <;> omega
    · have cn : ¬ nuZ (M 157) (M 156 3) 2 (M 156 2) < 0 := by omega
      rw [if_neg cn, if_pos (by omega)] at hQ
      refine gX9_back i1 ?_
      intro M4 i4 k4 p4 _
      refine gX9_look i4 ?_
      intro x4 _ _
      refine ⟨fun _ => ?_, fun q => absurd rfl q⟩
      refine hQ 0 M4 i4 (K1.tr (k4.mono (fun k j h => Or.inl h))) ?_ (Or.inl ⟨by show (-1 : Int) < 0; decide, rfl⟩)
      have := p4 (by omega)
      show M4 156 2 = M 156 2 + dgC (M 157) (M 156 3) 2 (M 156 2) - 1
      omega
  · rw [if_pos (by omega)] at hQ
    exact hQ 0 M hI Ks.rf rfl (Or.inl ⟨by show (-1 : Int) < 0; decide, rfl⟩)
theorem rdM_b {f : Int → Int} {t g H : Int} : ∀ (n : Nat) (m : Int) (r w : Int → Int) (a : Int), (0 ≤ a ∧ a ≤ t) → (0 ≤ m ∧ m ≤ 8) → 9 ≤ m + n → (0 ≤ (rdM f t g H n m r w a).2.1 ∧ (rdM f t g H n m r w a).2.1 ≤ t) ∧ ((rdM f t g H n m r w a).1 = 0 ∨ (rdM f t g H n m r w a).1 = 1 ∧ m < (rdM f t g H n m r w a).2.2.1 ∧ (rdM f t g H n m r w a).2.2.1 ≤ 8) := by
  intro n
  induction n with
  | zero => intro m r w a ha hH hn; omega
  | succ n ih =>
    intro m r w a ha hH hn
    have b1 := rd2_b (f := f) (t := t) (g := g) (H := H) (m := m) ha
    unfold rdM
    split
    · exact ⟨b1.1, Or.inl rfl⟩
    · rename_i c
      have h6 := b1.2.2 (by omega)
      split
      · rename_i c2
        have i := ih (m + 1) (adM r m (rd2 f t g H m a).1) (up w m (rd2 f t g H m a).2.1) ((rd2 f t g H m a).2.2 + 1) (by omega) (by omega) (by omega)
        refine ⟨i.1, ?_⟩
        rcases i.2 with q | q
        · exact Or.inl q
        · exact Or.inr ⟨q.1, by omega, q.2.2⟩
      · refine ⟨b1.1, Or.inr ⟨rfl, ?_, ?_⟩⟩
        · show m < m + 1
          omega
        · show m + 1 ≤ 8
          omega
theorem gX11_readLines_L33M {X90 Q : Int → Mem → Prop} {M0 E : Mem} {m0 : Int} {T : Int × Int × Int × (Int → Int) × (Int → Int)} (h4 : 0 ≤ E 1 4 ∧ E 1 4 ≤ 6) (h0 : 0 ≤ m0) (hg : M0 158 1 - 1 = eG E) (ht : M0 156 3 ≤ 80) (hQ : T.1 = 0 → ∀ M' : Mem, IX M' → Ks kRd M0 M' → M' 156 2 = T.2.1 → Q (-1 - T.2.1) M') (hX : T.1 = 1 → ∀ M' : Mem, IX M' → Ks kRd M0 M' → M' 156 2 = T.2.1 → SC (eM E T.2.2.2.2 T.2.2.1) M' 8 T.2.2.2.1 → X90 (T.2.2.1 - m0) M') : ∀ (n : Nat) (v2 : Int) (M : Mem) (m : Int) (r w : Int → Int), IX M → Ks kRd M0 M → SC (eM E w m) M 8 r → rdM (M0 157) (M0 156 3) (eG E) (E 1 4) n m r w (M 156 2) = T → (0 ≤ M 156 2 ∧ M 156 2 ≤ M0 156 3) → (0 ≤ m ∧ m ≤ 8) → (v2 = m - m0 ∧ 0 ≤ v2) → 9 ≤ m + n → qX11_readLines_L33 0 X90 Q (n + 1) v2 1 M := by
  intro n
  induction n with
  | zero => intro v2 M m r w hI hK hC hT ha hm hv hn; omega
  | succ n ih =>
    intro v2 M m r w hI hK hC hT ha hm hv hn
    have e157 : M 157 = M0 157 := funext fun j => hK 157 j (by omega)
    have e3 : M 156 3 = M0 156 3 := hK 156 3 (by omega)
    have e158 : M 158 1 = M0 158 1 := hK 158 1 (by omega)
    rw [qX11_readLines_L33]
    refine ⟨⟨by decide, by decide⟩, ⟨fun c => absurd c (by decide), fun _ => ⟨⟨by omega, by omega⟩, ⟨fun c => by omega, fun _ => ⟨fun _ => ?_, fun c => absurd rfl c⟩⟩⟩⟩⟩
    refine gX11_readMourner hI hC hm h4 (by rw [e158]; exact hg) (by rw [e3]; exact ha) ?_
    intro z M' i' k' a' p' _ _
    rw [e157, e3] at a' p'
    have b1 := rd2_b (f := M0 157) (g := eG E) (H := E 1 4) (m := m) ha
    unfold rdM at hT
    have K' : Ks kRd M0 M' := hK.tr k'
    refine ⟨fun c => ?_, fun c => ?_⟩
    · have c0 : 0 ≤ (rd2 (M0 157) (M0 156 3) (eG E) (E 1 4) m (M 156 2)).1 := by
        rcases p' with q | q
        · exact absurd q.2 c
        · exact q.1
      have C' : SC (eM E (up w m (rd2 (M0 157) (M0 156 3) (eG E) (E 1 4) m (M 156 2)).2.1) (m + 1)) M' 8 (adM r m (rd2 (M0 157) (M0 156 3) (eG E) (E 1 4) m (M 156 2)).1) := by
        rcases p' with q | q
        · exact absurd q.2 c
        · exact q.2.2
      rw [if_neg (by omega)] at hT
      unfold qX11_readLines_J74
      refine gX9_skip i' (by decide) ?_
      intro z12 M12 i12 k12 p12 _ _
      have f157 : M' 157 = M0 157 := funext fun j => K' 157 j (by omega)
      have f3 : M' 156 3 = M0 156 3 := K' 156 3 (by omega)
      rw [f157, f3, a'] at p12
      have K12 : Ks kRd M0 M12 := K'.tr (k12.mono (fun k j h => Or.inl h))
      have C12 := C'.fr (M' := M12) (fun i j hi => k12 _ j (by omega))
      have h6 := b1.2.2 c0
      rcases p12 with ⟨q1, qz, qa⟩ | ⟨q1, qz, qa⟩
      · rw [if_pos q1] at hT
        rw [qz]
        exact ih _ M12 (m + 1) _ _ i12 K12 C12 (by rw [qa]; exact hT) (by omega) (by omega) (by omega) (by omega)
      · rw [if_neg q1] at hT
        rw [qz, qX11_readLines_L33]
        refine ⟨⟨by decide, by decide⟩, ⟨fun _ => ?_, fun c => absurd rfl c⟩⟩
        subst hT
        rw [show v2 + 1 = m + 1 - m0 from by omega]
        exact hX rfl M12 i12 K12 qa C12
    · intro x13 e13 _
      have c1 : (rd2 (M0 157) (M0 156 3) (eG E) (E 1 4) m (M 156 2)).1 < 0 := by
        rcases p' with q | q
        · exact q.1
        · omega
      rw [if_pos c1] at hT
      subst hT
      refine ⟨⟨by omega, by omega⟩, ?_⟩
      rw [e13, a']
      exact hQ rfl M' i' K' a'
/-- mourners told: the answer; whether they come -/
def msT (f : Int → Int) (len g H m : Int) (r w : Int → Int) : Int × Int × Int × (Int → Int) × (Int → Int) := rdM f (min len 39) g H 9 m r w 0
abbrev msOK (f : Int → Int) (len g H m : Int) (r w : Int → Int) : Prop := (msT f len g H m r w).1 = 1 ∧ len ≤ (msT f len g H m r w).2.1
def msA (f : Int → Int) (len g H m : Int) (r w : Int → Int) : Int := if len = 0 then 0 else if msOK f len g H m r w then (msT f len g H m r w).2.2.1 - m else -1 - (msT f len g H m r w).2.1
theorem eM_id (E : Mem) : eM E (E 3) (E 1 5) = E := by
  funext k j
  by_cases c3 : k = 3
  · rw [c3]; rfl
  · show (if k = 3 then E 3 else up2 E 1 5 (E 1 5) k) j = E k j
    rw [if_neg c3, up2_a]
    by_cases ck : k = 1
    · by_cases cj : j = 5
      · rw [if_pos ck, if_pos cj, ck, cj]
      · rw [if_pos ck, if_neg cj]
    · rw [if_neg ck]
theorem gX11_mourners {M E : Mem} {r : Int → Int} {Q : Int → Mem → Prop} (hI : IX M) (hS : STR E M) (hC : SC E M 1 r) (hQ : ∀ M' : Mem, IX M' → M' 156 1 = 0 → (msOK (M 157) (M 156 1) (eG E) (E 1 4) (E 1 5) r (E 3) ∧ M 156 1 ≠ 0 → Ks (fun k j => (1 ≤ k ∧ k ≤ 14) ∨ k = 156 ∨ (k = 163 ∧ j = 2)) M M' ∧ M' 163 2 = 0 ∧ SC (eM E (msT (M 157) (M 156 1) (eG E) (E 1 4) (E 1 5) r (E 3)).2.2.2.2 (msT (M 157) (M 156 1) (eG E) (E 1 4) (E 1 5) r (E 3)).2.2.1) M' 1 (msT (M 157) (M 156 1) (eG E) (E 1 4) (E 1 5) r (E 3)).2.2.2.1) → (¬ (msOK (M 157) (M 156 1) (eG E) (E 1 4) (E 1 5) r (E 3) ∧ M 156 1 ≠ 0) → Ks (fun k j => (8 ≤ k ∧ k ≤ 14) ∨ k = 156) M M') → Q (msA (M 157) (M 156 1) (eG E) (E 1 4) (E 1 5) r (E 3)) M') : qX11_mourners M Q := by
  have bL := bx_c156_1.mp (hI.bx 156 1)
  have b4 := hS.2.2.2.2.2.2.1
  have b5 := hS.2.2.2.2.2.2.2.1
  have ef := hS.eb.f
  unfold msA at hQ
  have CL : ∀ (z : Int) (M1 : Mem), IX M1 → iR z → (∀ M' : Mem, IX M' → M' 156 1 = 0 → Ks (fun k j => k = 156 ∧ j = 1) M1 M' → Q z M') → qX11_mourners_J19 Q z M1 := by
    intro z M1 i1 rz h
    unfold qX11_mourners_J19 qX9_clear
    intro M4 h4
    exact ⟨rz, h M4 (by rw [h4]; exact i1.up (by decide) (bx_c156_1.mpr (by decide))) (by rw [h4, up2_s]) (by rw [h4]; exact Ks.rf.wr ⟨rfl, rfl⟩)⟩
  unfold qX11_mourners qX9_isEmpty
  intro x1 e1 _
  refine ⟨fun c => ?_, fun c => ?_⟩
  · intro _ _
    refine ⟨fun _ => ?_, fun q => absurd rfl q⟩
    unfold qX11_readLines
    refine gX6_copyFrom hI (show isS 8 by decide) (show isS 1 by decide) (by decide) ?_
    intro M1 i1 k1 s1 _
    have C1 : SC E M1 8 r := s1 E r hC
    refine ⟨fun _ => ?_, fun q => absurd rfl q⟩
    unfold qX11_readLines_J26
    refine ⟨⟨by decide, by decide⟩, ?_⟩
    refine gX9_open i1 (by decide) ?_
    intro M4 i4 k4 a4 t4
    have C4 : SC (eM E (E 3) (E 1 5)) M4 8 r := by
      rw [eM_id]
      exact C1.fr (fun i j hi => k4 _ j (by omega))
    have g157 : M4 157 = M 157 := funext fun j => by rw [k4 157 j (by omega), k1 157 j (by omega)]
    have g1 : M1 156 1 = M 156 1 := k1 156 1 (by omega)
    have g158 : M4 158 1 = M 158 1 := by rw [k4 158 1 (by omega), k1 158 1 (by omega)]
    rw [g1] at t4
    have hb := rdM_b (f := M 157) (t := min (M 156 1) 39) (g := eG E) (H := E 1 4) 9 (E 1 5) r (E 3) 0 (by omega) b5 (by omega)
    have hTT : rdM (M 157) (min (M 156 1) 39) (eG E) (E 1 4) 9 (E 1 5) r (E 3) 0 = msT (M 157) (M 156 1) (eG E) (E 1 4) (E 1 5) r (E 3) := rfl
    rw [hTT] at hb
    have KK : ∀ M' : Mem, Ks kRd M4 M' → Ks (fun k j => (8 ≤ k ∧ k ≤ 14) ∨ k = 156) M M' := fun M' h => ((k1.mono (fun k j q => Or.inl q)).tr (k4.mono (fun k j q => Or.inr q.1))).tr (h.mono (by intro k j q; omega))
    refine ⟨10, gX11_readLines_L33M (M0 := M4) (m0 := E 1 5) (T := msT (M 157) (M 156 1) (eG E) (E 1 4) (E 1 5) r (E 3)) b4 b5.1 (by rw [g158]; exact hS.g.1) (by omega) ?_ ?_ 9 0 M4 (E 1 5) r (E 3) i4 Ks.rf C4 (by rw [g157, t4, a4]; exact hTT) (by omega) b5 (by omega) (by omega)⟩
    · intro T0 M' i' k' a' _
      refine CL _ M' i' ⟨by omega, by omega⟩ ?_
      intro M2 i2 z2 k2
      have H := hQ M2 i2 z2 (fun q => by have := q.1.1; omega) (fun _ => (KK M' k').tr (k2.mono (fun k j q => Or.inr q.1)))
      rw [if_neg (by omega), if_neg (fun q => by have := q.1; omega)] at H
      exact H
    · intro T1 M' i' k' a' c'
      have h1 : M' 156 1 = M 156 1 := by rw [k' 156 1 (by omega), k4 156 1 (by omega), g1]
      unfold qX11_readLines_J90 qX9_isWhole
      intro y1 w1 _ y2 w2 _
      refine ⟨fun d => ?_, fun d => ?_⟩
      · intro _ _
        refine ⟨fun q => absurd rfl q, fun _ => ?_⟩
        intro x25 e25 _
        refine ⟨⟨by omega, by omega⟩, ?_⟩
        intro _
        rw [e25, a']
        refine CL _ M' i' ⟨by omega, by omega⟩ ?_
        intro M2 i2 z2 k2
        have H := hQ M2 i2 z2 (fun q => by have := q.1.2; omega) (fun _ => (KK M' k').tr (k2.mono (fun k j q => Or.inr q.1)))
        rw [if_neg (by omega), if_neg (fun q => by have := q.2; omega)] at H
        exact H
      · intro _ _
        refine ⟨fun _ => ?_, fun q => absurd q (by decide)⟩
        refine gX6_copyFrom i' (show isS 1 by decide) (show isS 8 by decide) (by decide) ?_
        intro M22 i22 k22 s22 _
        unfold qX1_clear
        intro M23 h23
        have i23 : IX M23 := by rw [h23]; exact i22.up (by decide) (bx_c163_2.mpr (by decide))
        refine ⟨⟨by omega, by omega⟩, ?_⟩
        intro _
        refine CL _ M23 i23 ⟨by omega, by omega⟩ ?_
        intro M2 i2 z2 k2
        have ok : msOK (M 157) (M 156 1) (eG E) (E 1 4) (E 1 5) r (E 3) := ⟨T1, by omega⟩
        have H := hQ M2 i2 z2 (fun _ => ⟨?_, ?_, ?_⟩) (fun q => absurd ⟨ok, by omega⟩ q)
        · rw [if_neg (by omega), if_pos ok] at H
          exact H
        · have a : Ks (fun k j => (1 ≤ k ∧ k ≤ 14) ∨ k = 156 ∨ (k = 163 ∧ j = 2)) M M' := (KK M' k').mono (by intro k j q; omega)
          have b : Ks (fun k j => (1 ≤ k ∧ k ≤ 14) ∨ k = 156 ∨ (k = 163 ∧ j = 2)) M' M23 := by
            rw [h23]
            exact (k22.mono (by intro k j q; omega)).wr (by omega)
          exact (a.tr b).tr (k2.mono (by intro k j q; omega))
        · rw [k2 163 2 (by omega), h23, up2_s]
        · refine SC.fr (M := M23) ?_ (fun i j hi => k2 _ j (by omega))
          rw [h23]
          exact (s22 _ _ c').fr (fun i j hi => by rw [up2_n (by omega)])
  · intro _ _
    refine ⟨fun q => absurd q (by decide), fun _ => ?_⟩
    refine CL 0 M hI ⟨by decide, by decide⟩ ?_
    intro M' i' z' k'
    have H := hQ M' i' z' (fun q => absurd (by omega) q.2) (fun _ => k'.mono (fun k j q => Or.inr q.1))
    rw [if_pos (by omega)] at H
    exact H
