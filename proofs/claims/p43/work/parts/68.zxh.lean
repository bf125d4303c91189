/-! WHEN TO TURN -/
def twOK (E : Mem) (s : Int → Int) (m : Int) : Prop := (s (29 + m) < 0 ∧ s (21 + m) = E 3 m) ∨ isDn (tnA E s m)
theorem gX11_isTurned {p1 : Int} {M E : Mem} {s : Int → Int} {Q : Int → Mem → Prop} (hI : IX M) (hS : STR E M) (hC : SC E M 8 s) (hW : WR E s) (hp : 0 ≤ p1 ∧ p1 < E 1 5) (hQ1 : twOK E s p1 → ∀ M' : Mem, IX M' → Ks (fun k _ => k = 13) M M' → SC E M' 8 (tnR E s p1) → Q 1 M') (hQ0 : ¬ twOK E s p1 → ∀ M' : Mem, IX M' → Ks (fun k _ => k = 13) M M' → Q 0 M') : qX11_isTurned p1 M Q := by
  have g := hS.eb.2
  have w := hW.2.2.1 p1 hp.1 hp.2
  have go : ¬ (s (29 + p1) < 0 ∧ s (21 + p1) = E 3 p1) → qX11_isTurned_J37 p1 Q 0 M := by
    intro no
    unfold qX11_isTurned_J37
    refine ⟨⟨by decide, by decide⟩, ⟨fun q => absurd rfl q, fun _ => ?_⟩⟩
    refine gX6_turn hI (show isS 8 by decide) hS hC hW ?_
    intro M5 i5 k5 c5 _
    have yes : isDn (tnA E s p1) → Q 1 M5 := fun d => hQ1 (Or.inr d) M5 i5 k5 c5
    have nay : ¬ isDn (tnA E s p1) → Q 0 M5 := fun d => hQ0 (fun q => by rcases q with q | q; exact no q; exact d q) M5 i5 k5
    unfold qX11_isDone
    refine ⟨fun c => ?_, fun c => ⟨fun c2 => ?_, fun c2 => ?_⟩⟩
    · intro _ _
      exact ⟨fun q => absurd q (by decide), fun _ => yes (Or.inl c)⟩
    · intro _ _
      refine ⟨fun _ => nay (fun u => ?_), fun q => absurd rfl q⟩
      rcases u with u | u
      · exact c u
      · exact c2 u
    · intro _ _
      exact ⟨fun q => absurd q (by decide), fun _ => yes (Or.inr c2)⟩
  unfold qX11_isTurned
  refine gX6_hasEnded (k0 := 8) (by omega) ?_
  intro x1 h1 _ _
  have e1 : M (8 + 6) p1 = s (29 + p1) := hC.2.2.2.2.2.2.2.2.1 p1 hp.1 (by omega)
  rw [e1] at h1
  refine ⟨fun c => ?_, fun c => ⟨hp.1, by omega, ?_⟩⟩
  · unfold qX11_isTurned_J36
    exact go (fun q => by omega)
  · intro x10 e10 _ x11 e11 _
    have e10' : x10 = s (21 + p1) := by rw [e10]; exact hC.2.2.2.2.2.2.2.1 p1 hp.1 (by omega)
    have e11' : x11 = E 3 p1 := by rw [e11]; exact hC.2.2.2.2.2.2.1 p1 hp.1 (by omega)
    refine ⟨fun c2 => ?_, fun c2 => ?_⟩
    · unfold qX11_isTurned_J36
      exact go (fun q => by omega)
    · unfold qX11_isTurned_J37
      have fo : s (29 + p1) < 0 ∧ s (21 + p1) = E 3 p1 := by omega
      have e : tnR E s p1 = s := by
        unfold tnR
        rw [if_neg (fun q => q.2.2.2 fo.2)]
      exact ⟨⟨by decide, by decide⟩, ⟨fun _ => hQ1 (Or.inl fo) M hI Ks.rf (by rw [e]; exact hC), fun q => absurd q (by decide)⟩⟩
def wnOK (E : Mem) (r : Int → Int) (m v : Int) : Prop := twOK E (itF E v.toNat r) m ∧ okR E (tnR E (itF E v.toNat r) m) m
theorem gX11_when_L31 {p1 : Int} {X119 : Int → Int → Mem → Prop} {Q : Int → Mem → Prop} {M0 E : Mem} {l : Nat} {r : Int → Int} (h : TB E M0 l) (ho : ∀ m, 0 ≤ m → m < E 1 5 → 0 ≤ E 3 m ∧ E 3 m < E 1 4) (hW : WR E r) (hf : fol E r) (h37 : r 37 ≤ 1999990000) (hp : 0 ≤ p1 ∧ p1 < E 1 5) (hX : ∀ (z v2 v3 : Int) (M' : Mem), IX M' → LST (wnOK E r p1) 61 z → (v2 = -1 ∧ z = -2 ∨ (0 ≤ v2 ∧ v2 ≤ 60) ∧ v2 = z ∧ (0 ≤ v3 ∧ v3 ≤ 60)) → X119 v2 v3 M') : ∀ (n : Nat) (v2 v3 v4 : Int) (M : Mem), IX M → Ks (kTr l) M0 M → SC E M 15 (itF E v4.toNat r) → (0 ≤ v4 ∧ v4 ≤ 61) → (v2 = -1 ∧ (∀ v, 0 ≤ v → v < v4 → ¬ wnOK E r p1 v) ∨ (0 ≤ v2 ∧ v2 < v4) ∧ (0 ≤ v3 ∧ v3 ≤ 60) ∧ wnOK E r p1 v2 ∧ ∀ v, 0 ≤ v → v < v2 → ¬ wnOK E r p1 v) → 61 - v4 < (n : Int) → qX11_when_L31 p1 X119 Q n v2 v3 v4 M := by
  have hE := h.2.2.2.1.eb
  have g := hE.2
  have hl := h.2.2.1
  intro n
  induction n with
  | zero => intro v2 v3 v4 M hI hK hC h4 hv hm; exact absurd hm (by omega)
  | succ n ih =>
    intro v2 v3 v4 M hI hK hC h4 hv hm
    have W := hW.it hE v4.toNat
    have Fo := fol_it hE hW hf v4.toNat
    have q37 := itF_37 (r := r) hE v4.toNat
    -- one step of the base
    have adv : ∀ (a c : Int) (Mz : Mem), IX Mz → Ks (kTr l) M0 Mz → SC E Mz 15 (itF E v4.toNat r) → v4 ≤ 60 → (a = -1 ∧ (∀ v, 0 ≤ v → v < v4 + 1 → ¬ wnOK E r p1 v) ∨ (0 ≤ a ∧ a < v4 + 1) ∧ (0 ≤ c ∧ c ≤ 60) ∧ wnOK E r p1 a ∧ ∀ v, 0 ≤ v → v < a → ¬ wnOK E r p1 v) → qX11_when_J98 p1 (qX11_when_L31 p1 X119 Q n) X119 Q a c v4 Mz := by
      intro a c Mz iz kz cz h60 hz
      unfold qX11_when_J98
      refine ⟨iz.l16, ?_⟩
      rw [h.l kz]
      refine gX10_advance iz (show isS 15 by decide) hl (h.S kz) (h.L kz) h.2.2.2.2.2.1 cz W (by omega) ?_
      intro M' i' k' c' w' _
      rw [← itF_s h4.1] at c'
      exact ih a c (v4 + 1) M' i' (kz.tr (k'.mono (by intro k j q; omega))) c' (by omega) hz (by omega)
    rw [qX11_when_L31]
    refine ⟨⟨by omega, by omega⟩, ⟨fun c => ?_, fun c => ?_⟩⟩
    · rcases hv with ⟨a, b⟩ | ⟨a, b, d, e⟩
      · exact hX (-2) v2 v3 M hI (Or.inl ⟨rfl, fun v p q => b v p (by omega)⟩) (Or.inl ⟨a, rfl⟩)
      · exact hX v2 v2 v3 M hI (Or.inr ⟨⟨a.1, by omega⟩, d, e⟩) (Or.inr ⟨⟨a.1, by omega⟩, rfl, b⟩)
    · have no : ¬ wnOK E r p1 v4 → (v2 = -1 ∧ (∀ v, 0 ≤ v → v < v4 + 1 → ¬ wnOK E r p1 v) ∨ (0 ≤ v2 ∧ v2 < v4 + 1) ∧ (0 ≤ v3 ∧ v3 ≤ 60) ∧ wnOK E r p1 v2 ∧ ∀ v, 0 ≤ v → v < v2 → ¬ wnOK E r p1 v) := by
        intro nay
        rcases hv with ⟨a, b⟩ | ⟨a, b, d, e⟩
        · refine Or.inl ⟨a, fun v p q => ?_⟩
          by_cases ev : v = v4
          · rw [ev]; exact nay
          · exact b v p (by omega)
        · exact Or.inr ⟨⟨a.1, by omega⟩, b, d, e⟩
      refine gX6_copyFrom hI (show isS 8 by decide) (show isS 15 by decide) (by decide) ?_
      intro M6 i6 k6 s6 _
      have K6 : Ks (kTr l) M0 M6 := hK.tr (k6.mono (by intro k j q; omega))
      have C6 : SC E M6 15 (itF E v4.toNat r) := hC.fr (fun i j hi => k6 _ j (by omega))
      refine gX11_isTurned i6 (h.S K6) (s6 E _ hC) W hp ?_ ?_
      · intro tw M7 i7 k7 c7 _ _
        have K7 : Ks (kTr l) M0 M7 := K6.tr (k7.mono (by intro k j q; omega))
        have C7 : SC E M7 15 (itF E v4.toNat r) := C6.fr (fun i j hi => k7 _ j (by omega))
        refine ⟨fun q => absurd q (by decide), fun _ => ?_⟩
        refine trX h i7 K7 c7 (W.tn hE ho) (fol_tn Fo hE W ho) (by rw [tn_37 hE]; omega) ?_
        intro M12 T i12 k12 c12 w12 g12 f12
        have C12 : SC E M12 15 (itF E v4.toNat r) := C7.fr (fun i j hi => f12 _ j (by omega))
        refine okX hE c12 g12 hp ?_
        intro z hz _ _
        refine ⟨fun d => ?_, fun d => ⟨?_, ⟨fun d2 => ?_, fun d2 => ?_⟩⟩⟩
        · have nay : ¬ wnOK E r p1 v4 := fun q => by
            rcases hz with u | u
            · omega
            · exact u.2 q.2
          exact adv v2 v3 M12 i12 k12 C12 (by omega) (no nay)
        · rcases hv with ⟨a, b⟩ | ⟨a, b, d, e⟩
          · exact ⟨by omega, by omega⟩
          · exact ⟨by omega, by omega⟩
        · unfold qX11_when_J94
          rcases hv with ⟨a, b⟩ | ⟨a, b, d, e⟩
          · exact absurd a d2
          · exact adv v2 v4 M12 i12 k12 C12 (by omega) (Or.inr ⟨⟨a.1, by omega⟩, ⟨by omega, by omega⟩, d, e⟩)
        · unfold qX11_when_J94
          have yes : wnOK E r p1 v4 := ⟨tw, by
            rcases hz with u | u
            · exact u.2
            · omega⟩
          rcases hv with ⟨a, b⟩ | ⟨a, b, d, e⟩
          · exact adv v4 v4 M12 i12 k12 C12 (by omega) (Or.inr ⟨⟨by omega, by omega⟩, ⟨by omega, by omega⟩, yes, b⟩)
          · omega
      · intro tw M7 i7 k7 _ _
        have K7 : Ks (kTr l) M0 M7 := K6.tr (k7.mono (by intro k j q; omega))
        have C7 : SC E M7 15 (itF E v4.toNat r) := C6.fr (fun i j hi => k7 _ j (by omega))
        exact ⟨fun _ => adv v2 v3 M7 i7 K7 C7 (by omega) (no (fun q => tw q.1)), fun q => absurd rfl q⟩
def WNA (E : Mem) (r : Int → Int) (m z : Int) : Prop := (¬ (0 ≤ m ∧ m < E 1 5) ∧ z = -1) ∨ (0 ≤ m ∧ m < E 1 5) ∧ LST (wnOK E r m) 61 z
theorem WNA.uq {E : Mem} {r : Int → Int} {m z w : Int} (h : WNA E r m z) (h2 : WNA E r m w) : z = w := by
  rcases h with ⟨a, b⟩ | ⟨a, b⟩
  · rcases h2 with ⟨c, d⟩ | ⟨c, d⟩
    · omega
    · exact absurd c a
  · rcases h2 with ⟨c, d⟩ | ⟨c, d⟩
    · exact absurd a c
    · exact b.uq d
theorem gX11_when {p1 : Int} {M E : Mem} {l : Nat} {r : Int → Int} {Q : Int → Mem → Prop} (h : TB E M l) (ho : ∀ m, 0 ≤ m → m < E 1 5 → 0 ≤ E 3 m ∧ E 3 m < E 1 4) (hC : SC E M 1 r) (hW : WR E r) (hf : fol E r) (h37 : r 37 ≤ 1999990000) (hQ : ∀ (z : Int) (M' : Mem), IX M' → WNA E r p1 z → Q z M') : qX11_when p1 M Q := by
  unfold qX11_when
  refine gX6_isMourner hC ?_
  intro x1 h1 _ _
  refine ⟨fun c => ?_, fun c => hQ _ _ h.1 (Or.inl ⟨by omega, rfl⟩)⟩
  have hp : 0 ≤ p1 ∧ p1 < E 1 5 := by omega
  refine gX6_copyFrom h.1 (show isS 15 by decide) (show isS 1 by decide) (by decide) ?_
  intro M3 i3 k3 s3 _
  refine ⟨62, gX11_when_L31 (E := E) (M0 := M) (r := r) h ho hW hf h37 hp ?_ 62 (-1) (-1) 0 M3 i3 (k3.mono (by intro k j q; omega)) (s3 E r hC) (by omega) (Or.inl ⟨rfl, fun v p q => by omega⟩) (by omega)⟩
  intro z v2 v3 M' i' hz hv
  rcases hv with ⟨a, b⟩ | ⟨a, b, c⟩
  · rw [b] at hz
    exact ⟨⟨by omega, by omega⟩, ⟨fun d => absurd a d, fun _ => hQ _ _ i' (Or.inr ⟨hp, hz⟩)⟩⟩
  · refine ⟨⟨by omega, by omega⟩, ⟨fun d => ⟨⟨by omega, by omega⟩, ?_⟩, fun d => by omega⟩⟩
    refine tell1 i' ?_
    intro M21 i21 _
    rw [b]
    exact hQ _ _ i21 (Or.inr ⟨hp, hz⟩)
theorem gX12_when_L24 {p1 b : Int} {X142 : Int → Int → Mem → Prop} {Q : Int → Mem → Prop} {E : Mem} {r5 g : Int → Int} (hE : EBx E) (ho : ∀ m, 0 ≤ m → m < E 1 5 → 0 ≤ E 3 m ∧ E 3 m < E 1 4) (hW : WR E (cr r5 g)) (hp : 0 ≤ p1 ∧ p1 < E 1 5) (hb : b + 30000 ≤ 2000000000) (hX : ∀ (z v3 : Int) (M' : Mem), IM (b + 30000) M' → LST (wnOK E (cr r5 g) p1) 61 z → (0 ≤ v3 ∧ v3 ≤ 60) → X142 z v3 M') : ∀ (n : Nat) (v2 v3 v4 : Int) (M : Mem), TM E (b + 400 * (60 - v4)) r5 g M → (-1 ≤ v4 ∧ v4 ≤ 60) → (0 ≤ v3 ∧ v3 ≤ 60) → (v2 = -2 ∧ (∀ v, v4 < v → v < 61 → ¬ wnOK E (cr r5 g) p1 v) ∨ (v4 < v2 ∧ v2 < 61) ∧ wnOK E (cr r5 g) p1 v2 ∧ ∀ v, v4 < v → v < v2 → ¬ wnOK E (cr r5 g) p1 v) → v4 + 1 < (n : Int) → qX12_when_L24 p1 X142 Q n v2 v3 v4 M := by
  have g2 := hE.2
  intro n
  induction n with
  | zero => intro v2 v3 v4 M hT h4 h3 hv hm; exact absurd hm (by omega)
  | succ n ih =>
    intro v2 v3 v4 M hT h4 h3 hv hm
    rw [qX12_when_L24]
    refine ⟨⟨by omega, by omega⟩, ⟨fun c => ?_, fun c => ?_⟩⟩
    · refine hX v2 v3 M (hT.1.mono (by omega)) ?_ h3
      rcases hv with ⟨a, b⟩ | ⟨b, d, e⟩
      · exact Or.inl ⟨a, fun v p q => b v (by omega) q⟩
      · exact Or.inr ⟨⟨by omega, b.2⟩, d, fun v p q => e v (by omega) q⟩
    · have W := hW.it hE v4.toNat
      have nx : ∀ Mz : Mem, TM E (b + 400 * (60 - v4) + 400) r5 g Mz → ¬ wnOK E (cr r5 g) p1 v4 → qX12_when_L24 p1 X142 Q n v2 v3 (v4 + -1) Mz := by
        intro Mz tz no
        refine ih _ _ _ Mz (tz.mono (by omega)) (by omega) h3 ?_ (by omega)
        rcases hv with ⟨a, b⟩ | ⟨b, d, e⟩
        · refine Or.inl ⟨a, fun v p q => ?_⟩
          by_cases ev : v = v4
          · rw [ev]; exact no
          · exact b v (by omega) q
        · refine Or.inr ⟨⟨by omega, b.2⟩, d, fun v p q => ?_⟩
          by_cases ev : v = v4
          · rw [ev]; exact no
          · exact e v (by omega) q
      have J111 : ∀ Mz : Mem, TM E (b + 400 * (60 - v4) + 200) r5 g Mz → twOK E (itF E v4.toNat (cr r5 g)) p1 → Mz 6 = tnR E (itF E v4.toNat (cr r5 g)) p1 → qX12_when_J111 p1 (qX12_when_L24 p1 X142 Q n) X142 Q v2 v3 v4 Mz := by
        intro Mz tz tw ez
        unfold qX12_when_J111
        refine rtM tz ho (by rw [ez]; exact W.tn hE ho) (by omega) ?_
        intro M15 t15 _ _
        rw [ez]
        refine okM hE hp ?_
        intro z hz _ _
        refine ⟨fun d => ?_, fun d => ⟨?_, ⟨fun d2 => ?_, fun d2 => ?_⟩⟩⟩
        · refine nx M15 (t15.mono (by omega)) (fun q => ?_)
          rcases hz with u | u
          · omega
          · exact u.2 q.2
        · rcases hv with ⟨a, b⟩ | ⟨b, d, e⟩
          · exact ⟨by omega, by omega⟩
          · exact ⟨by omega, by omega⟩
        · have yes : wnOK E (cr r5 g) p1 v4 := ⟨tw, by
            rcases hz with u | u
            · exact u.2
            · omega⟩
          exact ih _ _ _ M15 (t15.mono (by omega)) (by omega) (by omega) (Or.inr ⟨⟨by omega, by omega⟩, yes, fun v p q => by omega⟩) (by omega)
        · have yes : wnOK E (cr r5 g) p1 v4 := ⟨tw, by
            rcases hz with u | u
            · exact u.2
            · omega⟩
          exact ih _ _ _ M15 (t15.mono (by omega)) (by omega) (by omega) (Or.inr ⟨⟨by omega, by omega⟩, yes, fun v p q => by omega⟩) (by omega)
      refine cpM hT ?_
      intro M6 t6 e6
      refine goM' t6 (by omega) (by omega) ?_
      intro M7 t7 e7
      rw [e6] at e7
      have J76 : ¬ (itF E v4.toNat (cr r5 g) (29 + p1) < 0 ∧ itF E v4.toNat (cr r5 g) (21 + p1) = E 3 p1) → qX12_when_J76 p1 (qX12_when_L24 p1 X142 Q n) X142 Q v2 v3 v4 M7 := by
        intro no
        obtain ⟨i7, E7, k7, o7⟩ := t7
        unfold qX12_when_J76 qX12_when_J77
        refine ⟨⟨by decide, by decide⟩, ⟨fun _ => ?_, fun q => absurd rfl q⟩⟩
        refine gX12_turnsOne i7 E7 (Or.inr rfl) ?_
        intro M12 i12 f12 e12 r12
        rw [e7] at e12 r12 ⊢
        have t12 : TM E (b + 400 * (60 - v4) + 200) r5 g M12 := by
          refine ⟨i12, E7.fr f12 (by intro k j h; rcases h with h | h | h | h | h <;> omega), ?_, ?_⟩
          · rw [← k7]
            exact funext fun j => f12 5 j (by omega)
          · rw [e12]
            have o : OUT g (itF E v4.toNat (cr r5 g)) := by rw [← e7]; exact o7
            unfold tnR
            split
            · exact o.up (by omega)
            · exact o
        unfold qX12_when_J97
        refine ⟨r12, ⟨fun d => J111 M12 t12 (Or.inr (Or.inl d)) e12, fun d => ⟨fun d2 => ?_, fun d2 => J111 M12 t12 (Or.inr (Or.inr d2)) e12⟩⟩⟩
        refine nx M12 (t12.mono (by omega)) (fun q => ?_)
        rcases q.1 with u | u
        · exact no u
        · rcases u with u | u
          · exact d u
          · exact d2 u
      refine gX12_isEnded (k0 := 6) (by omega) ?_
      intro x8 h8 _ _
      rw [e7] at h8
      refine ⟨fun d => J76 (fun q => by omega), fun d => ⟨by omega, by omega, ?_⟩⟩
      intro x23 e23 _
      refine ⟨by omega, by omega, ?_⟩
      intro x26 e26 _
      rw [e7] at e23
      rw [t7.2.1 3 p1 (cE3 p1)] at e26
      refine ⟨fun d2 => J76 (fun q => by omega), fun d2 => ?_⟩
      have fo : itF E v4.toNat (cr r5 g) (29 + p1) < 0 ∧ itF E v4.toNat (cr r5 g) (21 + p1) = E 3 p1 := by omega
      have e : tnR E (itF E v4.toNat (cr r5 g)) p1 = itF E v4.toNat (cr r5 g) := by
        unfold tnR
        rw [if_neg (fun q => q.2.2.2 fo.2)]
      unfold qX12_when_J77
      refine ⟨⟨by decide, by decide⟩, ⟨fun q => absurd q (by decide), fun _ => ?_⟩⟩
      unfold qX12_when_J97
      exact ⟨⟨by decide, by decide⟩, ⟨fun _ => J111 M7 t7 (Or.inl fo) (by rw [e7, e]), fun q => absurd (Int.le_refl 0) q⟩⟩
theorem gX12_when {p1 b : Int} {M E : Mem} {Q : Int → Mem → Prop} (hI : IM b M) (hE : CE E M) (ho : ∀ m, 0 ≤ m → m < E 1 5 → 0 ≤ E 3 m ∧ E 3 m < E 1 4) (hW : WR E (cr (M 5) (M 6))) (hb : b + 30000 ≤ 2000000000) (hQ : ∀ (z : Int) (M' : Mem), IM (b + 30000) M' → WNA E (cr (M 5) (M 6)) p1 z → Q z M') : qX12_when p1 M Q := by
  have E0 := hE.eb hI
  unfold qX12_when
  intro M1 h1
  obtain ⟨i1, E1, k5, k6, _⟩ := th0 hI hE h1
  refine gX12_isMourner i1 E1 ?_
  intro x2 h2 _ _
  refine ⟨fun c => ?_, fun c => hQ _ _ (i1.mono (by omega)) (Or.inl ⟨by omega, rfl⟩)⟩
  have hp : 0 ≤ p1 ∧ p1 < E 1 5 := by omega
  refine ⟨62, gX12_when_L24 (E := E) (b := b) (r5 := M 5) (g := M 6) E0 ho hW hp hb ?_ 62 (-2) 0 60 M1 ⟨i1.mono (by omega), E1, k5, by rw [k6]; exact fun _ _ => rfl⟩ (by omega) (by omega) (Or.inl ⟨rfl, fun v p q => by omega⟩) (by omega)⟩
  intro z v3 M' i' hz hv
  have hz' : WNA E (cr (M 5) (M 6)) p1 z := Or.inr ⟨hp, hz⟩
  refine ⟨?_, ⟨fun c => hQ _ _ i' hz', fun c => ?_⟩⟩
  · rcases hz with q | q
    · exact ⟨by omega, by omega⟩
    · exact ⟨by omega, by omega⟩
  · intro M31 h31
    have i31 : IM (b + 30000) M31 := by rw [h31]; exact i'.up (by omega) (bm_c1_1.mpr (by decide))
    have t31 : M31 1 1 = 0 := by rw [h31, up2_s]
    refine ⟨⟨by omega, by omega⟩, ?_⟩
    refine entC i31 (by omega) ?_
    intro M33 i33 _ _
    exact hQ _ _ i33 hz'
