/-! THE CROWD -/
/-- how many end at hearse h -/
noncomputable def cwC (E : Mem) (r : Int → Int) (h : Int) : Int := bcF (bitF (fun m => itF E 200 r (29 + m)) h (eO E))
noncomputable def cwF (E : Mem) (r : Int → Int) : Nat → Int → Int → Int
  | 0, best, _ => best
  | n + 1, best, h => if E 1 4 ≤ h then best else if cwC E r h ≤ cwC E r best then cwF E r n best (h + 1) else cwF E r n h (h + 1)
noncomputable def cwA (E : Mem) (r : Int → Int) : Int := if E 1 4 = 0 then -2 else cwF E r 6 0 1
theorem gX11_crowd_L45 {T : Int} {X101 : Int → Int → Mem → Prop} {Q : Int → Mem → Prop} {M E : Mem} {r t : Int → Int} (hS : STR E M) (hC : SC E M 8 t) (hg : grv E t (itF E 200 r)) (hX : ∀ v2 : Int, iR v2 → X101 T v2 M) : ∀ (n : Nat) (v1 v2 v3 : Int), (v2 = cwC E r v1 ∧ 1 ≤ v3 ∧ cwF E r n v1 v3 = T ∨ v2 = -1 ∧ v1 = 0 ∧ v3 = 0 ∧ 1 ≤ E 1 4 ∧ cwF E r 6 0 1 = T) → (0 ≤ v1 ∧ v1 ≤ 5) → (v3 = 0 ∧ n = 7 ∨ 1 ≤ v3 ∧ v3 + n = 7) → qX11_crowd_L45 X101 Q (n + 1) v1 v2 v3 M := by
  have hE := hS.eb
  have g := hE.2
  have f := hE.f
  have cnt : ∀ h : Int, bcF (bitF (M 14) h (eO E)) = cwC E r h := by
    intro h
    unfold cwC
    rw [bitF_cg (f := M 14) (g := fun m => itF E 200 r (29 + m)) (fun i p q => by
      have e := hC.2.2.2.2.2.2.2.2.1 i p (by omega)
      show M (8 + 6) i = _
      rw [e]
      exact hg i p (by omega))]
  intro n
  induction n with
  | zero =>
    intro v1 v2 v3 hv h1 h3
    have b := bcF_b (bitF (fun m => itF E 200 r (29 + m)) v1 (eO E))
    have b' : 0 ≤ cwC E r v1 ∧ cwC E r v1 ≤ 63 := b
    rw [qX11_crowd_L45]
    intro x6 e6 _
    rw [hC.1] at e6
    refine ⟨⟨by omega, by omega⟩, ⟨fun c => ?_, fun c => by omega⟩⟩
    rcases hv with ⟨a, b2, d⟩ | ⟨a, b2, d, e, u⟩
    · have : v1 = T := d
      rw [this]
      exact hX v2 ⟨by omega, by omega⟩
    · omega
  | succ n ih =>
    intro v1 v2 v3 hv h1 h3
    have b := bcF_b (bitF (fun m => itF E 200 r (29 + m)) v1 (eO E))
    have b' : 0 ≤ cwC E r v1 ∧ cwC E r v1 ≤ 63 := b
    have b3 : 0 ≤ cwC E r v3 ∧ cwC E r v3 ≤ 63 := bcF_b _
    rw [qX11_crowd_L45]
    intro x6 e6 _
    rw [hC.1] at e6
    refine ⟨⟨by omega, by omega⟩, ⟨fun c => ?_, fun c => ?_⟩⟩
    · rcases hv with ⟨a, b2, d⟩ | ⟨a, b2, d, e, u⟩
      · unfold cwF at d
        rw [if_pos (by omega)] at d
        rw [d]
        exact hX v2 ⟨by omega, by omega⟩
      · omega
    · refine gX6_bitsOf hS hC.2.1 ?_
      intro _
      refine gJ6_bitCount ?_
      rw [cnt]
      intro _
      refine ⟨by rcases hv with q | q <;> exact ⟨by omega, by omega⟩, ⟨fun d => ?_, fun d => ?_⟩⟩
      · unfold qX11_crowd_J87
        refine ⟨by rcases hv with q | q <;> exact ⟨by omega, by omega⟩, ⟨by omega, by omega⟩, ?_⟩
        intro x15 e15 _
        rcases hv with ⟨a, b2, u⟩ | ⟨a, b2, u⟩
        · unfold cwF at u
          rw [if_neg (by omega), if_pos (by omega)] at u
          exact ih _ _ _ (Or.inl ⟨by omega, by omega, u⟩) h1 (by omega)
        · omega
      · unfold qX11_crowd_J87
        refine ⟨by rcases hv with q | q <;> exact ⟨by omega, by omega⟩, ⟨by omega, by omega⟩, ?_⟩
        intro x15 e15 _
        rcases hv with ⟨a, b2, u⟩ | ⟨a, b2, u0, u1, u2⟩
        · unfold cwF at u
          rw [if_neg (by omega), if_neg (by omega)] at u
          exact ih _ _ _ (Or.inl ⟨by omega, by omega, u⟩) (by omega) (by omega)
        · subst u0
          rcases h3 with h3 | h3
          · have n6 : n = 6 := by omega
            subst n6
            exact ih _ _ _ (Or.inl ⟨by omega, by omega, u2⟩) (by omega) (by omega)
          · omega
theorem gX11_crowd {M E : Mem} {l : Nat} {r : Int → Int} {Q : Int → Mem → Prop} (h : TB E M l) (hC : SC E M 1 r) (hW : WR E r) (hf : fol E r) (h37 : r 37 ≤ 1999999000) (hQ : ∀ M' : Mem, IX M' → Q (cwA E r) M') : qX11_crowd M Q := by
  have hE := h.2.2.2.1.eb
  have g := hE.2
  unfold cwA at hQ
  unfold qX11_crowd
  intro x1 e1 _
  rw [hC.1] at e1
  refine ⟨fun c => ?_, fun c => by have := hQ M h.1; rw [if_pos (by omega)] at this; exact this⟩
  rw [if_neg (by omega)] at hQ
  refine trC h hC h.1 Ks.rf ?_
  intro M3 i3 k3 c3
  refine trX h i3 k3 c3 hW hf h37 ?_
  intro M5 T i5 k5 c5 w5 g5 _
  refine ⟨8, gX11_crowd_L45 (E := E) (r := r) (t := T) (T := cwF E r 6 0 1) (h.S k5) c5 g5 ?_ 7 0 (-1) 0 (Or.inr ⟨rfl, rfl, rfl, by omega, rfl⟩) (by omega) (Or.inl ⟨rfl, rfl⟩)⟩
  intro v2 r2
  refine ⟨r2, ?_⟩
  refine gX6_rightBits hE c5 ?_
  intro _
  have bT : ∀ (n : Nat) (b v : Int), iR b → (0 ≤ v ∧ v + n ≤ 100) → iR (cwF E r n b v) := by
    intro n
    induction n with
    | zero => intro b v hb _; exact hb
    | succ n ih =>
      intro b v hb hv
      unfold cwF
      split
      · exact hb
      · split
        · exact ih _ _ hb (by omega)
        · exact ih _ _ ⟨by omega, by omega⟩ (by omega)
  refine ⟨bT 6 0 1 ⟨by decide, by decide⟩ (by decide), ?_⟩
  refine gX6_bitsOf (h.S k5) c5.2.1 ?_
  intro _ x21 _ _
  refine gJ6_bitCount ?_
  intro _
  refine tell2 i5 ?_
  intro M23 i23 _
  exact hQ M23 i23
theorem gX12_crowd_L34 {T b : Int} {X85 : Int → Mem → Prop} {Q : Int → Mem → Prop} {M E : Mem} {r : Int → Int} (hI : IM b M) (hE : CE E M) (h6 : M 6 = itF E 200 r) (hX : (0 ≤ T ∧ T ≤ 5) → X85 T M) : ∀ (n : Nat) (v1 v2 : Int), cwF E r n v1 v2 = T → (0 ≤ v1 ∧ v1 ≤ 5) → (1 ≤ v2 ∧ v2 + n = 7) → qX12_crowd_L34 X85 Q (n + 1) v1 v2 M := by
  have E0 := hE.eb hI
  have g := E0.2
  have cnt : ∀ h : Int, bcF (bitF (fun m => M 6 (29 + m)) h (eO E)) = cwC E r h := by
    intro h
    unfold cwC
    rw [h6]
  intro n
  induction n with
  | zero =>
    intro v1 v2 hT h1 h2
    rw [qX12_crowd_L34]
    intro x6 e6 _
    rw [hE 1 4 cE14] at e6
    refine ⟨⟨by omega, by omega⟩, ⟨fun c => ?_, fun c => by omega⟩⟩
    have : v1 = T := hT
    rw [this]
    exact hX (by omega)
  | succ n ih =>
    intro v1 v2 hT h1 h2
    unfold cwF at hT
    rw [qX12_crowd_L34]
    intro x6 e6 _
    rw [hE 1 4 cE14] at e6
    refine ⟨⟨by omega, by omega⟩, ⟨fun c => ?_, fun c => ?_⟩⟩
    · rw [if_pos (by omega)] at hT
      rw [hT]
      exact hX (by omega)
    · rw [if_neg (by omega)] at hT
      refine gX12_bitsBy (k1 := 6) hI hE (by decide) ?_
      intro _
      refine gJ6_bitCount ?_
      rw [cnt]
      intro _
      refine ⟨⟨by omega, by omega⟩, ?_⟩
      refine gX12_bitsBy (k1 := 6) hI hE (by decide) ?_
      intro _
      refine gJ6_bitCount ?_
      rw [cnt]
      intro _
      refine ⟨fun d => ?_, fun d => ?_⟩
      · rw [if_pos d] at hT
        exact ih _ _ hT h1 (by omega)
      · rw [if_neg d] at hT
        exact ih _ _ hT (by omega) (by omega)
theorem gX12_crowd {M E : Mem} {b : Int} {Q : Int → Mem → Prop} (hI : IM b M) (hE : CE E M) (hb : b + 200 ≤ 2000000000) (hQ : ∀ M' : Mem, IM (b + 200) M' → Q (cwA E (cr (M 5) (M 6))) M') : qX12_crowd M Q := by
  have E0 := hE.eb hI
  have g := E0.2
  unfold cwA at hQ
  unfold qX12_crowd
  intro M1 h1
  obtain ⟨i1, E1, k5, k6, _⟩ := th0 hI hE h1
  intro x2 e2 _
  rw [E1 1 4 cE14] at e2
  refine ⟨fun c => ?_, fun c => by have := hQ M1 (i1.mono (by omega)); rw [if_pos (by omega)] at this; exact this⟩
  rw [if_neg (by omega)] at hQ
  refine cpM (b := b) (E := E) (r5 := M 5) (g := M 6) ⟨i1, E1, k5, by rw [k6]; exact fun _ _ => rfl⟩ ?_
  intro M4 t4 e4
  refine goM' t4 (by decide) hb ?_
  intro M5 t5 e5
  rw [e4] at e5
  refine ⟨7, gX12_crowd_L34 (E := E) (r := cr (M 5) (M 6)) (T := cwF E (cr (M 5) (M 6)) 6 0 1) t5.1 t5.2.1 e5 ?_ 6 0 1 rfl (by decide) (by decide)⟩
  intro hT
  refine ⟨⟨by omega, by omega⟩, ?_⟩
  refine gX12_bitsBy (k1 := 6) t5.1 t5.2.1 (by decide) ?_
  intro _ M18 h18
  have i18 : IM (b + 200) M18 := by rw [h18]; exact t5.1.up (by omega) (bm_c1_1.mpr (by decide))
  have E18 : CE E M18 := by rw [h18]; exact t5.2.1.up (by decide)
  have q18 : M18 1 1 = 0 := by rw [h18, up2_s]
  refine gJ6_bitCount ?_
  intro _
  refine entC i18 (by omega) ?_
  intro M20 i20 k20 q20
  have E20 : CE E M20 := fun k j c => (k20 k j (by rcases c with c | c | c | c | c <;> omega)).trans (E18 k j c)
  refine gX12_owners i20 E20 ?_
  intro _ x22 _ _
  refine gJ6_bitCount ?_
  intro _
  refine entC i20 (by omega) ?_
  intro M24 i24 _ _
  exact hQ M24 i24
