/-! A TRIAL on both sides: the row of now, over what stood in the other row -/
def cr (f g : Int → Int) : Int → Int := fun j => if 0 ≤ j ∧ j < 38 then f j else g j
theorem cr_i {f g : Int → Int} {j : Int} (h : 0 ≤ j) (h2 : j < 38) : cr f g j = f j := by unfold cr; rw [if_pos ⟨h, h2⟩]
theorem WR.cr {E : Mem} {r g : Int → Int} (h : WR E r) (hE : EBx E) : WR E (cr r g) := h.cg hE (fun j p q => cr_i p q)
theorem SC.cr {E M : Mem} {k : Nat} {r g : Int → Int} (h : SC E M k r) (hE : EBx E) : SC E M k (cr r g) := h.cg hE (fun j p q => cr_i p q)
theorem gX12_copiesC_L2 {Q : Mem → Prop} {b : Int} {M0 : Mem} (hQ : ∀ M' : Mem, IM b M' → FrJ (fun k _ => k = 6) M0 M' → M' 6 = cr (M0 5) (M0 6) → Q M') : ∀ (n : Nat) (v1 : Int) (M : Mem), IM b M → FrJ (fun k _ => k = 6) M0 M → (∀ j, M 6 j = if 0 ≤ j ∧ j < v1 then M0 5 j else M0 6 j) → (0 ≤ v1 ∧ v1 ≤ 38) → 38 - v1 < (n : Int) → qX12_copies_L2 Q n v1 M := by
  intro n
  induction n with
  | zero => intro v1 M hI hF hs hv hm; exact absurd hm (by omega)
  | succ n ih =>
    intro v1 M hI hF hs hv hm
    rw [qX12_copies_L2]
    refine ⟨⟨by omega, by omega⟩, ⟨fun c => hQ _ hI hF ?_, fun c => ⟨by omega, by omega, ?_⟩⟩⟩
    · funext j
      rw [hs j, show v1 = 38 from by omega]
      rfl
    intro x5 e5 _ M6 h6
    have hn : BN b v1 x5 := by rw [e5]; exact (bm_n (Or.inl rfl)).mp (hI.bx _ _)
    refine ih _ _ (by rw [h6]; exact hI.up (by omega) ((bm_n (Or.inr rfl)).mpr hn)) (by rw [h6]; exact hF.up rfl) ?_ (by omega) (by omega)
    intro j
    rw [h6]
    by_cases cj : j = v1
    · rw [cj, up2_s, e5, if_pos ⟨hv.1, by omega⟩]
      exact hF 5 v1 (by omega)
    · rw [up2_j cj, hs j]
      by_cases cc : 0 ≤ j ∧ j < v1
      · rw [if_pos cc, if_pos ⟨cc.1, by omega⟩]
      · rw [if_neg cc, if_neg (fun q => cc ⟨q.1, by omega⟩)]
theorem gX12_copiesC {b : Int} {M : Mem} {Q : Mem → Prop} (hI : IM b M) (hQ : ∀ M' : Mem, IM b M' → FrJ (fun k _ => k = 6) M M' → M' 6 = cr (M 5) (M 6) → Q M') : qX12_copies M Q := by
  unfold qX12_copies
  exact ⟨39, gX12_copiesC_L2 hQ _ _ _ hI FrJ.rf (fun j => by rw [if_neg (by omega)]) (by omega) (by omega)⟩
-- the thrown flag is put out ahead of every call
theorem th0 {b : Int} {M M1 E : Mem} (hI : IM b M) (hE : CE E M) (h1 : M1 = up2 M 1 0 0) : IM b M1 ∧ CE E M1 ∧ M1 5 = M 5 ∧ M1 6 = M 6 ∧ ∀ (k : Nat) (j : Int), ¬ (k = 1 ∧ j = 0) → M1 k j = M k j := by
  subst h1
  exact ⟨hI.up (by omega) (by simp [BM]), fun k j h => by rw [up_00 M (by rcases h with h | h | h | h | h <;> omega)]; exact hE k j h, up2_n (by decide), up2_n (by decide), fun k j h => up_00 M h⟩
theorem CE.c6 {E M M' : Mem} (h : CE E M) (f : FrJ (fun k _ => k = 6) M M') : CE E M' := h.fr f (by intro k j h; rcases h with h | h | h | h | h <;> omega)
-- one step of a trial of the class
theorem adv8 {M M0 E : Mem} {r : Int → Int} {Q : Mem → Prop} (hI : IX M) (hI0 : IX M0) (hS0 : STR E M0) (hL0 : LAW E M0 (M0 155 16).toNat) (hw : WFC (E 11) (E 1 24)) (hK : Ks (kAd 8 (M0 155 16).toNat) M0 M) (hC : SC E M 8 r) (hW : WR E r) (h37 : r 37 ≤ 2000000000) (hQ : ∀ M' : Mem, IX M' → Ks (kAd 8 (M0 155 16).toNat) M0 M' → SC E M' 8 (stF E r) → WR E (stF E r) → Q M') : isL (M 155 16).toNat ∧ qX10_advance 8 (M 155 16).toNat M Q := by
  have el : (M0 155 16).toNat = 187 ∨ (M0 155 16).toNat = 192 := hI0.l16
  have g16 : M 155 16 = M0 155 16 := hK 155 16 (by omega)
  have S1 : STR E M := hS0.fr (hK _ _ (by omega)) (hK _ _ (by omega)) (hK _ _ (by omega)) (fun j => hK 159 j (by omega))
  have L1 : LAW E M (M0 155 16).toNat := hL0.fr (hK _ _ (by omega)) (hK _ _ (by omega)) (fun j => hK _ j (by omega)) (fun j => hK _ j (by omega))
  refine ⟨hI.l16, ?_⟩
  rw [g16]
  refine gX10_advance hI (show isS 8 by decide) hI0.l16 S1 L1 hw hC hW h37 ?_
  intro M' i' k' c' w' _
  exact hQ M' i' (hK.tr k') c' w'
-- what is told
theorem tell1 {p1 : Int} {M : Mem} {Q : Mem → Prop} (hI : IX M) (hQ : ∀ M' : Mem, IX M' → Ks (fun k j => k = 0 ∨ (k = 167 ∧ j = 1)) M M' → Q M') : qX4_tellOne p1 M Q := fmX4_tellOne (sX4_tellOne (p1 := p1) hI (Q := fun M' => IX M') (fun _ h => h)) (fun M' k i => hQ M' i k)
theorem tell2 {p1 p3 : Int} {M : Mem} {Q : Mem → Prop} (hI : IX M) (hQ : ∀ M' : Mem, IX M' → Ks (fun k j => k = 0 ∨ (k = 167 ∧ j = 1)) M M' → Q M') : qX4_tellTwo p1 p3 M Q := fmX4_tellTwo (sX4_tellTwo (p1 := p1) (p3 := p3) hI (Q := fun M' => IX M') (fun _ h => h)) (fun M' k i => hQ M' i k)
theorem entC {p1 b : Int} {M : Mem} {Q : Mem → Prop} (hI : IM b M) (hp : M 1 1 ≤ 23) (hQ : ∀ M' : Mem, IM b M' → Ks (fun k j => k = 0 ∨ (k = 1 ∧ j = 1)) M M' → M' 1 1 = M 1 1 + 1 → Q M') : qX12_enters p1 M Q := fmX12_enters (sX12_enters (p1 := p1) hI hp (Q := fun M' => IM b M' ∧ M' 1 1 = M 1 1 + 1) (fun _ h e => ⟨h, e⟩)) (fun M' k i => hQ M' i.1 k i.2)
/-! WHEN ONE ARRIVES -/
noncomputable def avF (E : Mem) (r : Int → Int) (h : Int) : Nat → Int → Int
  | 0, _ => -2
  | n + 1, v => if itF E v.toNat r h < 0 then v else avF E r h n (v + 1)
noncomputable def avA (E : Mem) (r : Int → Int) (h : Int) : Int := if 0 ≤ h ∧ h < E 1 4 then avF E r h 201 0 else -1
theorem gX11_arrives_L26 {p1 T : Int} {X65 : Int → Mem → Prop} {Q : Int → Mem → Prop} {M0 E : Mem} {r : Int → Int} (hp : 0 ≤ p1 ∧ p1 < E 1 4) (hI0 : IX M0) (hS0 : STR E M0) (hL0 : LAW E M0 (M0 155 16).toNat) (hw : WFC (E 11) (E 1 24)) (hW : WR E r) (h37 : r 37 ≤ 1999999000) (hX : ∀ (v : Int) (M' : Mem), IX M' → SC E M' 8 (itF E v.toNat r) → (0 ≤ v ∧ v ≤ 200) → (itF E v.toNat r p1 < 0 ∧ T = v ∨ ¬ itF E v.toNat r p1 < 0 ∧ T = -2) → X65 v M') : ∀ (n : Nat) (v2 : Int) (M : Mem), IX M → Ks (kAd 8 (M0 155 16).toNat) M0 M → SC E M 8 (itF E v2.toNat r) → avF E r p1 n v2 = T → (0 ≤ v2 ∧ v2 ≤ 200 ∧ v2 + n = 201) → qX11_arrives_L26 p1 X65 Q n v2 M := by
  have e4 := hS0.eb.2.1
  intro n
  induction n with
  | zero => intro v2 M hI hK hC hT hv; omega
  | succ n ih =>
    intro v2 M hI hK hC hT hv
    have W := WR.it hS0.eb hW v2.toNat
    have w := W.2.1 p1 hp.1 hp.2
    have c2 : M (8 + 2) p1 = itF E v2.toNat r (6 + p1) := hC.2.2.2.1 p1 hp.1 (by omega)
    rw [qX11_arrives_L26]
    unfold avF at hT
    refine ⟨⟨by omega, by omega⟩, ⟨fun c => ?_, fun c => ?_⟩⟩
    · refine hX v2 M hI hC (by omega) ?_
      by_cases d : itF E v2.toNat r p1 < 0
      · rw [if_pos d] at hT
        exact Or.inl ⟨d, hT.symm⟩
      · rw [if_neg d, show n = 0 from by omega] at hT
        exact Or.inr ⟨d, hT.symm⟩
    · refine gX6_hasArrived (k0 := 8) (by omega) ?_
      intro x6 h6 _ _
      rw [c2] at h6
      refine ⟨fun d => ?_, fun d => ?_⟩
      · have d' : itF E v2.toNat r p1 < 0 := by omega
        rw [if_pos d'] at hT
        exact hX v2 M hI hC (by omega) (Or.inl ⟨d', hT.symm⟩)
      · have d' : ¬ itF E v2.toNat r p1 < 0 := by omega
        rw [if_neg d'] at hT
        refine adv8 hI hI0 hS0 hL0 hw hK hC W (by rw [itF_37 hS0.eb]; omega) ?_
        intro M9 i9 k9 c9 _
        refine ih (v2 + 1) M9 i9 k9 (by rw [itF_s hv.1]; exact c9) hT (by omega)
theorem gX11_arrives {p1 : Int} {M E : Mem} {r : Int → Int} {Q : Int → Mem → Prop} (hI : IX M) (hS : STR E M) (hL : LAW E M (M 155 16).toNat) (hw : WFC (E 11) (E 1 24)) (hC : SC E M 1 r) (hW : WR E r) (h37 : r 37 ≤ 1999999000) (hQ : ∀ M' : Mem, IX M' → Q (avA E r p1) M') : qX11_arrives p1 M Q := by
  have el : (M 155 16).toNat = 187 ∨ (M 155 16).toNat = 192 := hI.l16
  have e4 := hS.eb.2.1
  unfold avA at hQ
  unfold qX11_arrives
  refine gX6_isHearse hC ?_
  intro x1 h1 _ _
  refine ⟨fun c => ?_, fun c => by have := hQ M hI; rw [if_neg (by omega)] at this; exact this⟩
  have hp : 0 ≤ p1 ∧ p1 < E 1 4 := by omega
  rw [if_pos hp] at hQ
  refine gX6_copyFrom hI (show isS 8 by decide) (show isS 1 by decide) (by decide) ?_
  intro M3 i3 k3 s3 _
  have g16 : M3 155 16 = M 155 16 := k3 155 16 (by omega)
  have S3 : STR E M3 := hS.fr (k3 _ _ (by omega)) (k3 _ _ (by omega)) (k3 _ _ (by omega)) (fun j => k3 159 j (by omega))
  have L3 : LAW E M3 (M3 155 16).toNat := by rw [g16]; exact hL.fr (k3 _ _ (by omega)) (k3 _ _ (by omega)) (fun j => k3 _ j (by omega)) (fun j => k3 _ j (by omega))
  refine ⟨201, gX11_arrives_L26 (E := E) (r := r) (M0 := M3) (T := avF E r p1 201 0) hp i3 S3 L3 hw hW h37 ?_ 201 0 M3 i3 Ks.rf (s3 E r hC) rfl (by omega)⟩
  intro v M4 i4 c4 hv hT
  have W := WR.it hS.eb hW v.toNat
  have w := W.2.1 p1 hp.1 hp.2
  have c2 : M4 (8 + 2) p1 = itF E v.toNat r (6 + p1) := c4.2.2.2.1 p1 hp.1 (by omega)
  unfold qX11_arrives_J65
  refine gX6_hasArrived (k0 := 8) (by omega) ?_
  intro x6 h6 _ _
  rw [c2] at h6
  refine ⟨fun d => ?_, fun d => ?_⟩
  · refine ⟨by omega, by omega, ?_⟩
    intro x15 _ _
    refine tell1 i4 ?_
    intro M16 i16 _
    have := hQ M16 i16
    rw [show avF E r p1 201 0 = v from by omega] at this
    exact ⟨⟨by omega, by omega⟩, this⟩
  · have := hQ M4 i4
    rw [show avF E r p1 201 0 = -2 from by omega] at this
    exact this
theorem gX12_arrives_L21 {p1 b T : Int} {X39 : Int → Mem → Prop} {Q : Int → Mem → Prop} {E : Mem} {r : Int → Int} (hp : 0 ≤ p1 ∧ p1 ≤ 5) (hb : b + 201 ≤ 2000000000) (hX : ∀ (v : Int) (M' : Mem), IM (b + 201) M' → (0 ≤ v ∧ v ≤ 200) → T = v → X39 v M') (hQ : T = -2 → ∀ M' : Mem, IM (b + 201) M' → Q (-2) M') : ∀ (n : Nat) (v2 : Int) (M : Mem), IM (b + v2) M → CE E M → M 6 = itF E v2.toNat r → avF E r p1 n v2 = T → (0 ≤ v2 ∧ v2 + n = 201) → qX12_arrives_L21 p1 X39 Q (n + 1) v2 M := by
  intro n
  induction n with
  | zero =>
    intro v2 M hI hE h6 hT hv
    rw [qX12_arrives_L21]
    exact ⟨⟨by omega, by omega⟩, ⟨fun _ => hQ hT.symm M (hI.mono (by omega)), fun c => by omega⟩⟩
  | succ n ih =>
    intro v2 M hI hE h6 hT hv
    rw [qX12_arrives_L21]
    unfold avF at hT
    refine ⟨⟨by omega, by omega⟩, ⟨fun c => by omega, fun c => ?_⟩⟩
    refine gX12_isOn (k0 := 6) (by omega) ?_
    intro x7 h7 _ _
    rw [h6] at h7
    refine ⟨fun d => ?_, fun d => ?_⟩
    · rw [if_neg (by omega)] at hT
      refine gX12_stepGoes hI hE (by omega) (Or.inr rfl) ?_
      intro M' i' E' k'
      exact ih (v2 + 1) M' (i'.mono (by omega)) E' (by rw [k', h6, itF_s hv.1]) hT (by omega)
    · rw [if_pos (by omega)] at hT
      exact hX v2 M (hI.mono (by omega)) (by omega) hT.symm
theorem gX12_arrives {p1 b : Int} {M E : Mem} {Q : Int → Mem → Prop} (hI : IM b M) (hE : CE E M) (hE0 : EBx E) (hb : b + 201 ≤ 2000000000) (hQ : ∀ M' : Mem, IM (b + 201) M' → Q (avA E (cr (M 5) (M 6)) p1) M') : qX12_arrives p1 M Q := by
  have e4 := hE0.2.1
  unfold avA at hQ
  unfold qX12_arrives
  intro M1 h1
  obtain ⟨i1, E1, k5, k6, _⟩ := th0 hI hE h1
  refine gX12_isHearse i1 E1 ?_
  intro z hz _ _
  refine ⟨fun c => ?_, fun c => by have := hQ M1 (i1.mono (by omega)); rw [if_neg (by omega)] at this; exact this⟩
  have hp : 0 ≤ p1 ∧ p1 < E 1 4 := by omega
  rw [if_pos hp] at hQ
  refine gX12_copiesC i1 ?_
  intro M4 i4 f4 g4
  rw [k5, k6] at g4
  refine ⟨202, gX12_arrives_L21 (b := b) (E := E) (r := cr (M 5) (M 6)) (T := avF E (cr (M 5) (M 6)) p1 201 0) ⟨hp.1, by omega⟩ hb ?_ (fun e M' i' => by have := hQ M' i'; rw [e] at this; exact this) 201 0 M4 (i4.mono (by omega)) (E1.c6 f4) g4 rfl (by omega)⟩
  intro v M' i' hv hT M11 h11
  have i11 : IM (b + 201) M11 := by rw [h11]; exact i'.up (by omega) (bm_c1_1.mpr (by decide))
  have t11 : M11 1 1 = 0 := by rw [h11, up2_s]
  refine ⟨by omega, by omega, ?_⟩
  intro x14 _ _
  refine entC i11 (by omega) ?_
  intro M15 i15 _ _
  have := hQ M15 i15
  rw [hT] at this
  exact ⟨⟨by omega, by omega⟩, this⟩
/-! WHERE ONE ENDS -/
noncomputable def edF (E : Mem) (r : Int → Int) (m : Int) : Nat → Int → Int
  | 0, _ => -2
  | n + 1, v => if 0 ≤ itF E v.toNat r (29 + m) then itF E v.toNat r (29 + m) else edF E r m n (v + 1)
noncomputable def edA (E : Mem) (r : Int → Int) (m : Int) : Int := if 0 ≤ m ∧ m < E 1 5 then edF E r m 201 0 else -1
theorem gX11_ends_L33 {p1 T : Int} {X72 : Int → Mem → Prop} {Q : Int → Mem → Prop} {M0 E : Mem} {r : Int → Int} (hp : 0 ≤ p1 ∧ p1 < E 1 5) (hI0 : IX M0) (hS0 : STR E M0) (hL0 : LAW E M0 (M0 155 16).toNat) (hw : WFC (E 11) (E 1 24)) (hW : WR E r) (h37 : r 37 ≤ 1999999000) (hX : ∀ (v : Int) (M' : Mem), IX M' → SC E M' 8 (itF E v.toNat r) → (0 ≤ v ∧ v ≤ 200) → (0 ≤ itF E v.toNat r (29 + p1) ∧ T = itF E v.toNat r (29 + p1) ∨ ¬ 0 ≤ itF E v.toNat r (29 + p1) ∧ T = -2) → X72 v M') : ∀ (n : Nat) (v2 : Int) (M : Mem), IX M → Ks (kAd 8 (M0 155 16).toNat) M0 M → SC E M 8 (itF E v2.toNat r) → edF E r p1 n v2 = T → (0 ≤ v2 ∧ v2 ≤ 200 ∧ v2 + n = 201) → qX11_ends_L33 p1 X72 Q n v2 M := by
  have e5 := hS0.eb.2.2
  intro n
  induction n with
  | zero => intro v2 M hI hK hC hT hv; omega
  | succ n ih =>
    intro v2 M hI hK hC hT hv
    have W := WR.it hS0.eb hW v2.toNat
    have w := W.2.2.1 p1 hp.1 hp.2
    have c2 : M (8 + 6) p1 = itF E v2.toNat r (29 + p1) := hC.2.2.2.2.2.2.2.2.1 p1 hp.1 (by omega)
    rw [qX11_ends_L33]
    unfold edF at hT
    refine ⟨⟨by omega, by omega⟩, ⟨fun c => ?_, fun c => ?_⟩⟩
    · refine hX v2 M hI hC (by omega) ?_
      by_cases d : 0 ≤ itF E v2.toNat r (29 + p1)
      · rw [if_pos d] at hT
        exact Or.inl ⟨d, hT.symm⟩
      · rw [if_neg d, show n = 0 from by omega] at hT
        exact Or.inr ⟨d, hT.symm⟩
    · refine gX6_hasEnded (k0 := 8) (by omega) ?_
      intro x6 h6 _ _
      rw [c2] at h6
      refine ⟨fun d => ?_, fun d => ?_⟩
      · have d' : 0 ≤ itF E v2.toNat r (29 + p1) := by omega
        rw [if_pos d'] at hT
        exact hX v2 M hI hC (by omega) (Or.inl ⟨d', hT.symm⟩)
      · have d' : ¬ 0 ≤ itF E v2.toNat r (29 + p1) := by omega
        rw [if_neg d'] at hT
        refine adv8 hI hI0 hS0 hL0 hw hK hC W (by rw [itF_37 hS0.eb]; omega) ?_
        intro M9 i9 k9 c9 _
        refine ih (v2 + 1) M9 i9 k9 (by rw [itF_s hv.1]; exact c9) hT (by omega)
theorem gX11_ends {p1 : Int} {M E : Mem} {r : Int → Int} {Q : Int → Mem → Prop} (hI : IX M) (hS : STR E M) (hL : LAW E M (M 155 16).toNat) (hw : WFC (E 11) (E 1 24)) (hC : SC E M 1 r) (hW : WR E r) (h37 : r 37 ≤ 1999999000) (hQ : ∀ M' : Mem, IX M' → Q (edA E r p1) M') : qX11_ends p1 M Q := by
  have el : (M 155 16).toNat = 187 ∨ (M 155 16).toNat = 192 := hI.l16
  have e5 := hS.eb.2.2
  unfold edA at hQ
  unfold qX11_ends
  refine gX6_isMourner hC ?_
  intro x1 h1 _ _
  refine ⟨fun c => ?_, fun c => by have := hQ M hI; rw [if_neg (by omega)] at this; exact this⟩
  have hp : 0 ≤ p1 ∧ p1 < E 1 5 := by omega
  rw [if_pos hp] at hQ
  refine gX6_copyFrom hI (show isS 8 by decide) (show isS 1 by decide) (by decide) ?_
  intro M2 i2 k2 s2 _
  refine fmX10_forgetTallies (sX10_forgetTallies i2 (Q := fun M' => IX M') (fun _ h => h)) ?_
  intro M3 k23 i3
  have k3 : Ks (fun k _ => (8 ≤ k ∧ k ≤ 14) ∨ (160 ≤ k ∧ k ≤ 162)) M M3 := (k2.mono (by intro k j h; omega)).tr (k23.mono (by intro k j h; omega))
  have g16 : M3 155 16 = M 155 16 := k3 155 16 (by omega)
  have S3 : STR E M3 := hS.fr (k3 _ _ (by omega)) (k3 _ _ (by omega)) (k3 _ _ (by omega)) (fun j => k3 159 j (by omega))
  have L3 : LAW E M3 (M3 155 16).toNat := by rw [g16]; exact hL.fr (k3 _ _ (by omega)) (k3 _ _ (by omega)) (fun j => k3 _ j (by omega)) (fun j => k3 _ j (by omega))
  refine ⟨201, gX11_ends_L33 (E := E) (r := r) (M0 := M3) (T := edF E r p1 201 0) hp i3 S3 L3 hw hW h37 ?_ 201 0 M3 i3 Ks.rf ((s2 E r hC).fr (fun i j hi => k23 _ j (by omega))) rfl (by omega)⟩
  intro v M4 i4 c4 hv hT
  have W := WR.it hS.eb hW v.toNat
  have w := W.2.2.1 p1 hp.1 hp.2
  have c2 : M4 (8 + 6) p1 = itF E v.toNat r (29 + p1) := c4.2.2.2.2.2.2.2.2.1 p1 hp.1 (by omega)
  unfold qX11_ends_J72
  refine gX6_hasEnded (k0 := 8) (by omega) ?_
  intro x6 h6 _ _
  rw [c2] at h6
  refine ⟨fun d => ?_, fun d => ?_⟩
  · refine ⟨⟨by omega, by omega⟩, by omega, by omega, ?_⟩
    intro x17 _ _
    refine tell2 i4 ?_
    intro M18 i18 k18 x19 e19 _
    have := hQ M18 i18
    rw [show edF E r p1 201 0 = itF E v.toNat r (29 + p1) from by omega, ← c2] at this
    rw [e19, show M18 14 p1 = M4 (8 + 6) p1 from k18 14 p1 (by omega)]
    exact this
  · have := hQ M4 i4
    rw [show edF E r p1 201 0 = -2 from by omega] at this
    exact this
theorem gX12_ends_L30 {p1 b T : Int} {X48 : Int → Mem → Prop} {Q : Int → Mem → Prop} {E : Mem} {r : Int → Int} (hp : 0 ≤ p1 ∧ p1 ≤ 7) (hb : b + 201 ≤ 2000000000) (hX : ∀ (v : Int) (M' : Mem), IM (b + 201) M' → (0 ≤ v ∧ v ≤ 200) → T = M' 6 (29 + p1) → X48 v M') (hQ : T = -2 → ∀ M' : Mem, IM (b + 201) M' → Q (-2) M') : ∀ (n : Nat) (v2 : Int) (M : Mem), IM (b + v2) M → CE E M → M 6 = itF E v2.toNat r → edF E r p1 n v2 = T → (0 ≤ v2 ∧ v2 + n = 201) → qX12_ends_L30 p1 X48 Q (n + 1) v2 M := by
  intro n
  induction n with
  | zero =>
    intro v2 M hI hE h6 hT hv
    rw [qX12_ends_L30]
    exact ⟨⟨by omega, by omega⟩, ⟨fun _ => hQ hT.symm M (hI.mono (by omega)), fun c => by omega⟩⟩
  | succ n ih =>
    intro v2 M hI hE h6 hT hv
    rw [qX12_ends_L30]
    unfold edF at hT
    refine ⟨⟨by omega, by omega⟩, ⟨fun c => by omega, fun c => ?_⟩⟩
    refine gX12_isEnded (k0 := 6) (by omega) ?_
    intro x7 h7 _ _
    rw [h6] at h7
    refine ⟨fun d => ?_, fun d => ?_⟩
    · rw [if_neg (by omega)] at hT
      refine gX12_stepGoes hI hE (by omega) (Or.inr rfl) ?_
      intro M' i' E' k'
      exact ih (v2 + 1) M' (i'.mono (by omega)) E' (by rw [k', h6, itF_s hv.1]) hT (by omega)
    · rw [if_pos (by omega)] at hT
      exact hX v2 M (hI.mono (by omega)) (by omega) (by rw [h6]; exact hT.symm)
theorem gX12_ends {p1 b : Int} {M E : Mem} {Q : Int → Mem → Prop} (hI : IM b M) (hE : CE E M) (hE0 : EBx E) (hb : b + 401 ≤ 2000000000) (hQ : ∀ M' : Mem, IM (b + 401) M' → Q (edA E (cr (M 5) (M 6)) p1) M') : qX12_ends p1 M Q := by
  have e5 := hE0.2.2
  unfold edA at hQ
  unfold qX12_ends
  intro M1 h1
  obtain ⟨i1, E1, k5, k6, _⟩ := th0 hI hE h1
  refine gX12_isMourner i1 E1 ?_
  intro z hz _ _
  refine ⟨fun c => ?_, fun c => by have := hQ M1 (i1.mono (by omega)); rw [if_neg (by omega)] at this; exact this⟩
  have hp : 0 ≤ p1 ∧ p1 < E 1 5 := by omega
  rw [if_pos hp] at hQ
  refine gX12_copiesC i1 ?_
  intro M4 i4 f4 g4
  rw [k5, k6] at g4
  refine gX12_goesOn (p2 := 0) i4 (E1.c6 f4) (by omega) (Or.inr rfl) (by decide) ?_
  intro M5 i5 E5 g5
  have g5' : M5 6 = cr (M 5) (M 6) := by rw [g5, g4]; rfl
  refine ⟨202, gX12_ends_L30 (b := b + 200) (E := E) (r := cr (M 5) (M 6)) (T := edF E (cr (M 5) (M 6)) p1 201 0) ⟨hp.1, by omega⟩ (by omega) ?_ (fun e M' i' => by have := hQ M' (i'.mono (by omega)); rw [e] at this; exact this) 201 0 M5 (i5.mono (by omega)) E5 g5' rfl (by omega)⟩
  intro v M' i' hv hT M12 h12
  have i12 : IM (b + 200 + 201) M12 := by rw [h12]; exact i'.up (by omega) (bm_c1_1.mpr (by decide))
  have t12 : M12 1 1 = 0 := by rw [h12, up2_s]
  have q12 : M12 6 (29 + p1) = M' 6 (29 + p1) := by rw [h12, up2_n (by decide)]
  refine ⟨⟨by omega, by omega⟩, ?_⟩
  refine entC i12 (by omega) ?_
  intro M14 i14 k14 t14
  refine ⟨by omega, by omega, ?_⟩
  intro x17 _ _
  refine entC i14 (by omega) ?_
  intro M18 i18 k18 _
  refine ⟨by omega, by omega, ?_⟩
  intro x21 e21 _
  have := hQ M18 (i18.mono (by omega))
  rw [hT, ← q12] at this
  rw [e21, k18 6 _ (by omega), k14 6 _ (by omega)]
  exact this
