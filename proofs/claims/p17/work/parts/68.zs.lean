/-! THE RULE'S TEXT: the reference reads it, the class's row of states beside it -/
def SCd (g : Int → Int) : List (Int × Int) → Prop
  | [] => True
  | p :: O => g O.length = kcF p.1 p.2 ∧ SCd g O
theorem SCd.cg {g g' : Int → Int} : ∀ {O : List (Int × Int)}, SCd g O → (∀ j : Int, 0 ≤ j → j < O.length → g' j = g j) → SCd g' O
  | [], _, _ => trivial
  | p :: O, s, e => by
    have l : ((p :: O).length : Int) = O.length + 1 := by show ((O.length + 1 : Nat) : Int) = _; omega
    rw [l] at e
    exact ⟨by rw [e _ (by omega) (by omega)]; exact s.1, s.2.cg (fun j p q => e j p (by omega))⟩
/-- the code read so far is the law O -/
def CK (M : Mem) (O : List (Int × Int)) : Prop := M 1 25 = O.length ∧ SCd (M 12) O
theorem CK.fr {M M' : Mem} {O : List (Int × Int)} (h : CK M O) (e1 : M' 1 25 = M 1 25) (e2 : M' 12 = M 12) : CK M' O := by
  unfold CK at h ⊢
  rw [e1, e2]
  exact h
/-- reading ends here -/
def PFl (f : Int → Int) (t : Int) (S : PSt) : Prop := (S.2.2.2.2 < t ∧ pst f t S = none) ∨ (t ≤ S.2.2.2.2 ∧ (S.1 = 1 ∨ 0 < S.2.1))
/-- what stands behind a piece of rank r, read by the reference from M on, where the class was at (w = 1, dp, W, O, a) -/
def RPP (f : Int → Int) (t : Int) (M' : Mem) (r dp : Int) (W : List Int) (O : List (Int × Int)) (a z : Int) : Prop := (z = 1 → ∃ (m : Nat) (P : List Int) (O' : List (Int × Int)), PR f t m (1, dp, W, O, a) (0, dp, P ++ W, O', M' 1 15) ∧ AL (r + 1) P ∧ CK M' (rel P O') ∧ (t ≤ M' 1 15 ∨ bnd (f (M' 1 15)) < r + 1 ∨ (r = 0 ∧ bnd (f (M' 1 15)) = 1 ∧ lbd (rls 2 (P ++ W) O').1 = 1))) ∧ (z = 0 → ∃ (m : Nat) (S' : PSt), PR f t m (1, dp, W, O, a) S' ∧ S'.2.2.2.2 = M' 1 15 ∧ PFl f t S')
theorem RPP.no {f : Int → Int} {t : Int} {M' : Mem} {r dp : Int} {W : List Int} {O : List (Int × Int)} {a : Int} {m : Nat} {S' : PSt} (h : PR f t m (1, dp, W, O, a) S') (h2 : S'.2.2.2.2 = M' 1 15) (h3 : PFl f t S') : RPP f t M' r dp W O a 0 := ⟨fun q => absurd q (by decide), fun _ => ⟨m, S', h, h2, h3⟩⟩
theorem bS4l : ((bS 4).length : Int) = 7 := rfl
theorem ix0_z : ∀ i : Nat, i < 7 → ixS (bS 0) ((bS 4).getD i 0) = i ∧ ¬ (48 ≤ (bS 4).getD i 0 ∧ (bS 4).getD i 0 ≤ 57) ∧ (bS 4).getD i 0 ≠ 45 ∧ (bS 4).getD i 0 ≠ 40 := by decide
theorem ix0_n {c : Int} (h : ∀ i : Int, 0 ≤ i → i < ((bS 4).length : Int) → (bS 4).getD i.toNat 0 ≠ c) : ixS (bS 0) c < 0 := by
  have h0 : (112 : Int) ≠ c := h 0 (by decide) (by decide)
  have h1 : (103 : Int) ≠ c := h 1 (by decide) (by decide)
  have h2 : (99 : Int) ≠ c := h 2 (by decide) (by decide)
  have h3 : (119 : Int) ≠ c := h 3 (by decide) (by decide)
  have h4 : (116 : Int) ≠ c := h 4 (by decide) (by decide)
  have h5 : (105 : Int) ≠ c := h 5 (by decide) (by decide)
  have h6 : (109 : Int) ≠ c := h 6 (by decide) (by decide)
  show ixF c [112, 103, 99, 119, 116, 105, 109] 0 < 0
  simp only [ixF]
  rw [if_neg h0, if_neg h1, if_neg h2, if_neg h3, if_neg h4, if_neg h5, if_neg h6]
  decide
/-- signs of rank p1 stand in row t0, their code from 2000 + t1 on -/
def OPS (p1 : Int) (t0 : Nat) (t1 : Int) : Prop := (∀ i : Nat, i < (bS t0).length → bnd ((bS t0).getD i 0) = p1 + 1 ∧ kcF ((bS t0).getD i 0) 0 = 2000 + i + t1 ∧ (bS t0).getD i 0 ≠ 41) ∧ ∀ c : Int, bnd c = p1 + 1 → ∃ i : Nat, i < (bS t0).length ∧ (bS t0).getD i 0 = c
theorem OPS_0 : OPS 0 5 0 := by
  refine ⟨by decide, fun c h => ?_⟩
  have := bnd_b c
  unfold bnd at h
  by_cases c5 : c = 60
  · exact ⟨0, by decide, c5.symm⟩
  · by_cases c6 : c = 61
    · exact ⟨2, by decide, c6.symm⟩
    · by_cases c7 : c = 62
      · exact ⟨1, by decide, c7.symm⟩
      · rw [if_neg c5, if_neg c6, if_neg c7] at h
        repeat' split at h
        all_goals omega
theorem OPS_1 : OPS 1 6 3 := by
  refine ⟨by decide, fun c h => ?_⟩
  unfold bnd at h
  by_cases c5 : c = 43
  · exact ⟨0, by decide, c5.symm⟩
  · by_cases c6 : c = 45
    · exact ⟨1, by decide, c6.symm⟩
    · rw [if_neg c5, if_neg c6] at h
      repeat' split at h
      all_goals omega
theorem OPS_2 : OPS 2 7 5 := by
  refine ⟨by decide, fun c h => ?_⟩
  unfold bnd at h
  by_cases c5 : c = 42
  · exact ⟨0, by decide, c5.symm⟩
  · by_cases c6 : c = 47
    · exact ⟨1, by decide, c6.symm⟩
    · rw [if_neg c5, if_neg c6] at h
      repeat' split at h
      all_goals omega
theorem CK.add {M M' : Mem} {O : List (Int × Int)} {p : Int × Int} (h : CK M O) (h1 : M' 1 25 = M 1 25 + 1) (h2 : ∀ j, j ≠ M 1 25 → M' 12 j = M 12 j) (h3 : M' 12 (M 1 25) = kcF p.1 p.2) : CK M' (p :: O) := by
  obtain ⟨a, s⟩ := h
  refine ⟨?_, ?_, ?_⟩
  · show M' 1 25 = ((O.length + 1 : Nat) : Int)
    omega
  · rw [← a]; exact h3
  · exact s.cg (fun j p q => h2 j (by omega))
theorem gX12_codes {p1 : Int} {b : Int} {M : Mem} {Q : Mem → Prop} (hI : IM b M) (hp : M 1 25 ≤ 79) (hQ : ∀ M' : Mem, IM b M' → FrJ (fun k j => k = 12 ∨ (k = 1 ∧ j = 25)) M M' → M' 1 25 = M 1 25 + 1 → (∀ j, j ≠ M 1 25 → M' 12 j = M 12 j) → M' 12 (M 1 25) = p1 → Q M') : qX12_codes p1 M Q := by
  unfold qX12_codes
  intro x1 e1 _
  have b1 : 0 ≤ x1 ∧ x1 ≤ 80 := by rw [e1]; exact bm_c1_25.mp (hI.bx _ _)
  refine ⟨by omega, by omega, ?_⟩
  intro M4 h4 x5 e5 _
  have f5 : x5 = x1 := by rw [e5, h4, up2_n (by decide), e1]
  refine ⟨⟨by omega, by omega⟩, ?_⟩
  intro M7 h7
  have i4 : IM b M4 := by rw [h4]; exact hI.up (by omega) (by simp [BM])
  refine hQ _ (by rw [h7]; exact i4.up (by omega) (bm_c1_25.mpr ⟨by omega, by omega⟩)) ?_ (by rw [h7, up2_s, f5, e1]) ?_ ?_
  · rw [h7, h4]
    exact (FrJ.rf.up (Or.inl rfl)).up (Or.inr ⟨rfl, rfl⟩)
  · intro j hj
    rw [h7, up2_n (by decide), h4, up2_j (by rw [e1]; exact hj)]
  · rw [h7, up2_n (by decide), h4, ← e1, up2_s]
theorem gX12_reads {f : Int → Int} {t : Int} (hf4 : ∀ j, 0 ≤ j → j < t → bnd (f j) ≤ 3) : ∀ (d tt : Nat) (p1 b : Int) (M : Mem) (Q : Int → Mem → Prop) (W : List Int) (O : List (Int × Int)), RQ b M → (∀ j, 0 ≤ j → j < t → M 7 j = f j) → M 1 16 = t → M 1 15 ≤ t → (0 ≤ p1 ∧ p1 ≤ 3) → (tt = 0 ∨ p1 = 3 ∨ lbd W < p1 + 1) → (80 - M 1 15) + 6 * (4 - M 1 17) + 1 + (if tt = 0 then 0 else 4 - p1) ≤ (d : Int) → CK M O → (∀ (z : Int) (M' : Mem), (z = 0 ∨ z = 1) → RP b M M' z → RPP f t M' (if tt = 0 then 3 else p1) (M 1 17) W O (M 1 15) z → (∀ j, 0 ≤ j → j < t → M' 7 j = f j) → M' 1 16 = t → M' 1 15 ≤ t → iR z → Q z M') → qX12_reads d tt p1 M Q := by
  intro d
  induction d with
  | zero =>
    intro tt p1 b M Q W O hR h7 h16 h15 hp hW hm hC hQ
    exfalso
    have b15 := bm_c1_15.mp (hR.1.bx 1 15)
    have h4 := hR.2.2.2.2
    split at hm <;> omega
  | succ d ih =>
    intro tt p1 b M Q W O hR h7 h16 h15 hp hW hm hC hQ
    have hR0 := hR
    obtain ⟨hI, hWF, hc, hn0, hn4⟩ := hR
    have b15 := bm_c1_15.mp (hI.bx 1 15)
    have b25 := bm_c1_25.mp (hI.bx 1 25)
    have d0 := dpc_nn hWF (M 1 25).toNat (by omega)
    have r0 : ∀ z : Int, (z = 0 ∨ z = 1) → iR z := fun z h => ⟨by omega, by omega⟩
    cases tt with
    | zero =>
      rw [if_pos rfl] at hm hQ
      have ST0 : PR f t 0 (1, M 1 17, W, O, M 1 15) (1, M 1 17, W, O, M 1 15) := rfl
      show bX12_readsThing (qX12_reads d) M Q
      unfold bX12_readsThing
      refine gX12_takes (p1 := 45) hI ?_
      intro x1 M1 h1 g1 q1 _ _
      have c1 : M1 1 25 = M 1 25 := g1 1 25 (by omega)
      have n1 : M1 1 17 = M 1 17 := g1 1 17 (by omega)
      have w1 : M1 12 = M 12 := funext fun j => g1 12 j (by omega)
      have s1 : M1 7 = M 7 := funext fun j => g1 7 j (by omega)
      have t1 : M1 1 16 = t := by rw [g1 1 16 (by omega)]; exact h16
      refine ⟨fun k1 => ?_, fun k1 => ?_⟩
      · have q1' : ¬ (M 1 15 < M 1 16 ∧ M 7 (M 1 15) = 45) ∧ M1 1 15 = M 1 15 := by
          rcases q1 with q | q
          · omega
          · exact ⟨q.1, q.2.2⟩
        obtain ⟨n45, a1⟩ := q1'
        refine sX12_isDigit h1 ?_
        intro x3 p3 _ _
        rw [s1, a1, t1] at p3
        refine ⟨fun k3 => ?_, fun k3 => ?_⟩
        · have nd : ¬ (M 1 15 < t ∧ 48 ≤ f (M 1 15) ∧ f (M 1 15) ≤ 57) := by
            intro q
            refine p3.2.1 k3 ⟨q.1, by have := bm_c1_16.mp (hI.bx 1 16); omega, ?_⟩
            rw [h7 _ b15.1 q.1]
            exact q.2
          have nn := nm3_n nd
          refine gX12_takesOf h1 (by decide) ?_
          intro x5 M5 h5 g5 p5 _
          rw [s1, a1, t1, bS4l] at p5
          have c5 : M5 1 25 = M 1 25 := by rw [g5 1 25 (by omega)]; exact c1
          have n5 : M5 1 17 = M 1 17 := by rw [g5 1 17 (by omega)]; exact n1
          have w5 : M5 12 = M 12 := by rw [show M5 12 = M1 12 from funext fun j => g5 12 j (by omega)]; exact w1
          have s5 : M5 7 = M 7 := by rw [show M5 7 = M1 7 from funext fun j => g5 7 j (by omega)]; exact s1
          have t5 : M5 1 16 = t := by rw [g5 1 16 (by omega)]; exact t1
          refine ⟨fun k5 => ?_, fun k5 => ?_⟩
          · have p5' : M5 1 15 = M 1 15 ∧ (t ≤ M 1 15 ∨ ∀ i : Int, 0 ≤ i → i < ((bS 4).length : Int) → (bS 4).getD i.toNat 0 ≠ M 7 (M 1 15)) := by
              rcases p5 with q | q
              · omega
              · exact q.2
            obtain ⟨a5, l5⟩ := p5'
            -- nothing can stand here, but a bracket
            have FAIL : (M 1 15 < t → ¬ (f (M 1 15) = 40 ∧ M 1 17 < 4)) → PFl f t (1, M 1 17, W, O, M 1 15) := by
              intro h40
              by_cases ct : M 1 15 < t
              · refine Or.inl ⟨ct, pst_5 (by rw [nn.1]; decide) ?_ (h40 ct) ?_⟩
                · intro q
                  exact n45 ⟨by omega, by rw [h7 _ b15.1 ct]; exact q⟩
                · refine ix0_n ?_
                  rcases l5 with l | l
                  · omega
                  · rw [h7 _ b15.1 ct] at l
                    exact l
              · exact Or.inr ⟨by show t ≤ M 1 15; omega, Or.inl rfl⟩
            have NO : ∀ M' : Mem, IM b M' → M' 1 15 = M 1 15 → M' 1 25 = M 1 25 → M' 7 = M 7 → M' 1 16 = t → (M 1 15 < t → ¬ (f (M 1 15) = 40 ∧ M 1 17 < 4)) → Q 0 M' := by
              intro M' i' a' c' s' t' h40
              exact hQ _ _ (Or.inl rfl) ⟨i', by omega, by omega, fun q => absurd q (by decide)⟩ (RPP.no ST0 a'.symm (FAIL h40)) (by rw [s']; exact h7) t' (by omega) (by decide)
            intro x7 e7 _
            refine ⟨fun k7 => NO M5 h5 a5 c5 s5 t5 (fun _ q => by omega), fun k7 => ?_⟩
            refine gX12_takes (p1 := 40) h5 ?_
            intro x9 M9 h9 g9 p9 _ _
            rw [s5, a5, t5] at p9
            have c9 : M9 1 25 = M 1 25 := by rw [g9 1 25 (by omega)]; exact c5
            have n9 : M9 1 17 = M 1 17 := by rw [g9 1 17 (by omega)]; exact n5
            have w9 : M9 12 = M 12 := by rw [show M9 12 = M5 12 from funext fun j => g9 12 j (by omega)]; exact w5
            have s9 : M9 7 = M 7 := by rw [show M9 7 = M5 7 from funext fun j => g9 7 j (by omega)]; exact s5
            have t9 : M9 1 16 = t := by rw [g9 1 16 (by omega)]; exact t5
            refine ⟨fun k9 => ?_, fun k9 => ?_⟩
            · have p9' : (M 1 15 < t ∧ M 7 (M 1 15) = 40) ∧ M9 1 15 = M 1 15 + 1 := by
                rcases p9 with q | q
                · exact ⟨q.1, q.2.2⟩
                · omega
              obtain ⟨⟨lt9, e9⟩, a9⟩ := p9'
              rw [h7 _ b15.1 lt9] at e9
              intro x11 e11 _
              refine ⟨⟨by omega, by omega⟩, ?_⟩
              intro M13 h13
              have i13 : IM b M13 := by rw [h13]; exact h9.up (by omega) (by simp [BM])
              have c13 : M13 1 25 = M 1 25 := by rw [h13, up2_j (by decide)]; exact c9
              have a13 : M13 1 15 = M 1 15 + 1 := by rw [h13, up2_j (by decide)]; exact a9
              have n13 : M13 1 17 = M 1 17 + 1 := by rw [h13, up2_s, e11]; omega
              have w13 : M13 12 = M 12 := by rw [h13, up2_n (by decide)]; exact w9
              have s13 : M13 7 = M 7 := by rw [h13, up2_n (by decide)]; exact s9
              have t13 : M13 1 16 = t := by rw [h13, up2_j (by decide)]; exact t9
              have S1 := PR.one (f := f) (t := t) (w := 1) (dp := M 1 17) (a := M 1 15) (W := W) (O := O) lt9 (pst_3 e9 (by omega))
              refine ih 1 0 b M13 _ (40 :: W) O ⟨i13, by rw [w13, c13]; exact hWF, by omega, by omega, by omega⟩ (by rw [s13]; exact h7) t13 (by omega) (by omega) (Or.inr (Or.inr (by show bnd 40 < 0 + 1; decide))) (by rw [if_neg (by decide)]; omega) (hC.fr c13 w13) ?_
              intro x14 M14 z14 r14 R14 h714 t14' l14 _ _ q14
              rw [if_neg (by decide), n13, a13] at R14
              refine ⟨fun k14 => ?_, fun k14 => ?_⟩
              · obtain ⟨m, S', u1, u2, u3⟩ := R14.2 k14
                exact hQ _ _ (Or.inl rfl) ⟨r14.1, by have := r14.2.1; omega, by have := r14.2.2.1; omega, fun q => absurd q (by decide)⟩ (RPP.no (S1.tr u1) u2 u3) h714 t14' l14 (by decide)
              · obtain ⟨i14, a14, s14, u14⟩ := r14
                obtain ⟨n14, w14, d14⟩ := u14 (by omega)
                obtain ⟨m, P, O', v1, v2, v3, v4⟩ := R14.1 (by omega)
                have SS := S1.tr v1
                have b14 := bm_c1_15.mp (i14.bx 1 15)
                refine gX12_takes (p1 := 41) i14 ?_
                intro x16 M16 h16' g16 p16 _ _
                rw [t14'] at p16
                have c16 : M16 1 25 = M14 1 25 := g16 1 25 (by omega)
                have n16 : M16 1 17 = M14 1 17 := g16 1 17 (by omega)
                have w16 : M16 12 = M14 12 := funext fun j => g16 12 j (by omega)
                have s16 : M16 7 = M14 7 := funext fun j => g16 7 j (by omega)
                have t16 : M16 1 16 = t := by rw [g16 1 16 (by omega)]; exact t14'
                refine ⟨fun k16 => ?_, fun k16 => ?_⟩
                · have p16' : (M14 1 15 < t ∧ M14 7 (M14 1 15) = 41) ∧ M16 1 15 = M14 1 15 + 1 := by
                    rcases p16 with q | q
                    · exact ⟨q.1, q.2.2⟩
                    · omega
                  obtain ⟨⟨lt16, e16⟩, a16⟩ := p16'
                  rw [h714 _ b14.1 lt16] at e16
                  intro x18 e18 _
                  refine ⟨⟨by omega, by omega⟩, ?_⟩
                  intro M20 h20
                  have a20 : M20 1 15 = M16 1 15 := by rw [h20, up2_j (by decide)]
                  have c20 : M20 1 25 = M16 1 25 := by rw [h20, up2_j (by decide)]
                  have n20 : M20 1 17 = x18 - 1 := by rw [h20, up2_s]
                  have w20 : M20 12 = M14 12 := by rw [h20, up2_n (by decide), w16]
                  have s20 : M20 7 = M14 7 := by rw [h20, up2_n (by decide), s16]
                  have t20 : M20 1 16 = t := by rw [h20, up2_j (by decide)]; exact t16
                  have S2 := PR.one (f := f) (t := t) (w := 0) (dp := M 1 17 + 1) (a := M14 1 15) (W := P ++ 40 :: W) (O := O') lt16 (pst_6 (by decide) e16 (by omega))
                  rw [rls_a (b := 1) (W := 40 :: W) (v2.mono (by decide)) (by show bnd 40 < 1; decide)] at S2
                  have S3 := SS.tr S2
                  refine hQ _ _ (Or.inr rfl) ⟨by rw [h20]; exact h16'.up (by omega) (by simp [BM]), by omega, by omega, fun _ => ⟨by omega, ?_, ?_⟩⟩ ⟨fun _ => ⟨1 + m + 1, [], rel P O', ?_, trivial, v3.fr (by rw [c20, c16]) w20, ?_⟩, fun q => absurd q (by decide)⟩ (by rw [s20]; exact h714) t20 (by omega) (by decide)
                  · rw [w20, c20, c16]; exact w14
                  · rw [w20, c20, c16, d14, w13, c13]
                  · rw [a20, a16]
                    rw [show M 1 17 + 1 - 1 = M 1 17 from by omega] at S3
                    exact S3
                  · by_cases ct : M20 1 15 < t
                    · exact Or.inr (Or.inl (by have := hf4 (M20 1 15) (by omega) ct; omega))
                    · exact Or.inl (by omega)
                · have p16' : ¬ (M14 1 15 < t ∧ M14 7 (M14 1 15) = 41) ∧ M16 1 15 = M14 1 15 := by
                    rcases p16 with q | q
                    · omega
                    · exact ⟨q.1, q.2.2⟩
                  obtain ⟨n41, a16⟩ := p16'
                  refine hQ _ _ (Or.inl rfl) ⟨h16', by omega, by omega, fun q => absurd q (by decide)⟩ (RPP.no SS (show M14 1 15 = M16 1 15 by omega) ?_) (by rw [s16]; exact h714) t16 (by omega) (by decide)
                  by_cases ct : M14 1 15 < t
                  · have n41' : ¬ (f (M14 1 15) = 41 ∧ 0 < M 1 17 + 1) := fun q => n41 ⟨ct, by rw [h714 _ b14.1 ct]; exact q.1⟩
                    refine Or.inl ⟨ct, ?_⟩
                    rcases v4 with v | v | v
                    · omega
                    · exact pst_0 (by decide) n41' (by omega)
                    · exact pst_7 (by decide) v.2.1 v.2.2
                  · exact Or.inr ⟨by show t ≤ M14 1 15; omega, Or.inr (by show 0 < M 1 17 + 1; omega)⟩
            · have p9' : ¬ (M 1 15 < t ∧ M 7 (M 1 15) = 40) ∧ M9 1 15 = M 1 15 := by
                rcases p9 with q | q
                · omega
                · exact ⟨q.1, q.2.2⟩
              exact NO M9 h9 p9'.2 c9 s9 t9 (fun ct q => p9'.1 ⟨ct, by rw [h7 _ b15.1 ct]; exact q.1⟩)
          · refine ⟨⟨by omega, by omega⟩, ?_⟩
            have p5' : M 1 15 < t ∧ (0 ≤ x5 ∧ x5 < 7) ∧ (bS 4).getD x5.toNat 0 = M 7 (M 1 15) ∧ M5 1 15 = M 1 15 + 1 := by
              rcases p5 with q | q
              · exact q
              · omega
            obtain ⟨lt5, bx5, g5', a5⟩ := p5'
            rw [h7 _ b15.1 lt5] at g5'
            have Z := ix0_z x5.toNat (by omega)
            rw [g5'] at Z
            have zx : ixS (bS 0) (f (M 1 15)) = x5 := by omega
            have bb5 := bm_c1_15.mp (h5.bx 1 15)
            refine gX12_codes h5 (by omega) ?_
            intro M22 h22 g22 c22 j22 v22
            have a22 : M22 1 15 = M 1 15 + 1 := by rw [g22 1 15 (by omega)]; exact a5
            have n22 : M22 1 17 = M 1 17 := by rw [g22 1 17 (by omega)]; exact n5
            have s22 : M22 7 = M 7 := by rw [show M22 7 = M5 7 from funext fun j => g22 7 j (by omega)]; exact s5
            have t22 : M22 1 16 = t := by rw [g22 1 16 (by omega)]; exact t5
            have A := hWF.add (g := M22 12) (v := 1000 + x5) b25.1 ⟨by omega, by omega, by omega⟩ (fun j a q => by rw [j22 j (by omega), w5]) (by rw [← c5]; exact v22)
            rw [if_neg (by omega), if_pos (by omega)] at A
            have e22 : M22 1 25 = M 1 25 + 1 := by omega
            have S1 := PR.one (f := f) (t := t) (w := 1) (dp := M 1 17) (a := M 1 15) (W := W) (O := O) lt5 (pst_4 (by rw [nn.1]; decide) Z.2.2.1 (fun q => Z.2.2.2 q.1) (by omega))
            rw [zx] at S1
            refine hQ _ _ (Or.inr rfl) ⟨h22, by omega, by omega, fun _ => ⟨n22, by rw [e22]; exact A.1, by rw [e22]; exact A.2⟩⟩ ⟨fun _ => ⟨1, [], (301, x5) :: O, by rw [a22]; exact S1, trivial, (hC.fr c5 w5).add (p := (301, x5)) c22 j22 (by rw [v22]; rfl), ?_⟩, fun q => absurd q (by decide)⟩ (by rw [s22]; exact h7) t22 (by omega) (by decide)
            by_cases ct : M22 1 15 < t
            · exact Or.inr (Or.inl (by have := hf4 (M22 1 15) (by omega) ct; omega))
            · exact Or.inl (by omega)
        · have dg := p3.1 (by omega)
          have dg2 : M 1 15 < t ∧ 48 ≤ f (M 1 15) ∧ f (M 1 15) ≤ 57 := ⟨dg.1, by rw [← h7 _ b15.1 dg.1]; exact dg.2.2.1, by rw [← h7 _ b15.1 dg.1]; exact dg.2.2.2⟩
          refine gX12_number (p1 := 3) h1 (by omega) ?_
          intro x23 M23 h23 g23 p23 _
          rw [s1, a1, t1] at p23
          obtain ⟨z23, a23⟩ := nm3_q (f := f) p23 (fun j p q => h7 j (by omega) q)
          have zp := nm3_p dg2
          have nb := (nm3_N f t (M 1 15)).b (by decide)
          have nb1 := nb.2.2.2.2.2.2.1 zp
          have nb2 := nb.2.2.2.2.2.1 h15
          have c23 : M23 1 25 = M 1 25 := by rw [g23 1 25 (by omega)]; exact c1
          have n23 : M23 1 17 = M 1 17 := by rw [g23 1 17 (by omega)]; exact n1
          have w23 : M23 12 = M 12 := by rw [show M23 12 = M1 12 from funext fun j => g23 12 j (by omega)]; exact w1
          have s23 : M23 7 = M 7 := by rw [show M23 7 = M1 7 from funext fun j => g23 7 j (by omega)]; exact s1
          have t23 : M23 1 16 = t := by rw [g23 1 16 (by omega)]; exact t1
          have bb23 := bm_c1_15.mp (h23.bx 1 15)
          refine gX12_codes h23 (by omega) ?_
          intro M24 h24 g24 c24 j24 v24
          have a24 : M24 1 15 = M23 1 15 := g24 1 15 (by omega)
          have n24 : M24 1 17 = M 1 17 := by rw [g24 1 17 (by omega)]; exact n23
          have s24 : M24 7 = M 7 := by rw [show M24 7 = M23 7 from funext fun j => g24 7 j (by omega)]; exact s23
          have t24 : M24 1 16 = t := by rw [g24 1 16 (by omega)]; exact t23
          have A := hWF.add (g := M24 12) (v := x23) b25.1 ⟨by omega, by omega, by omega⟩ (fun j a q => by rw [j24 j (by omega), w23]) (by rw [← c23]; exact v24)
          rw [if_neg (by omega), if_pos (by omega)] at A
          have e24 : M24 1 25 = M 1 25 + 1 := by omega
          have S1 := PR.one (f := f) (t := t) (w := 1) (dp := M 1 17) (a := M 1 15) (W := W) (O := O) dg.1 (pst_1 zp)
          rw [← z23, ← a23] at S1
          refine hQ _ _ (Or.inr rfl) ⟨h24, by omega, by omega, fun _ => ⟨n24, by rw [e24]; exact A.1, by rw [e24]; exact A.2⟩⟩ ⟨fun _ => ⟨1, [], (300, x23) :: O, by rw [a24]; exact S1, trivial, (hC.fr c23 w23).add (p := (300, x23)) c24 j24 (by rw [v24]; rfl), ?_⟩, fun q => absurd q (by decide)⟩ (by rw [s24]; exact h7) t24 (by omega) (by decide)
          by_cases ct : M24 1 15 < t
          · exact Or.inr (Or.inl (by have := hf4 (M24 1 15) (by omega) ct; omega))
          · exact Or.inl (by omega)
      · have q1' : (M 1 15 < M 1 16 ∧ M 7 (M 1 15) = 45) ∧ M1 1 15 = M 1 15 + 1 := by
          rcases q1 with q | q
          · exact ⟨q.1, q.2.2⟩
          · omega
        obtain ⟨⟨lt1, e1⟩, a1⟩ := q1'
        rw [h16] at lt1
        rw [h7 _ b15.1 lt1] at e1
        have S1 := PR.one (f := f) (t := t) (w := 1) (dp := M 1 17) (a := M 1 15) (W := W) (O := O) lt1 (pst_2 e1)
        refine ih 0 0 b M1 _ (302 :: W) O ⟨h1, by rw [w1, c1]; exact hWF, by omega, by omega, by omega⟩ (by rw [s1]; exact h7) t1 (by omega) (by omega) (Or.inl rfl) (by rw [if_pos rfl]; omega) (hC.fr c1 w1) ?_
        intro x25 M25 z25 r25 R25 h725 t25 l25 _ _ q25
        rw [if_pos rfl, n1, a1] at R25
        obtain ⟨i25, a25, s25, u25⟩ := r25
        have bb25 := bm_c1_15.mp (i25.bx 1 15)
        refine gX12_codes i25 (by omega) ?_
        intro M26 h26 g26 c26 j26 v26
        have a26 : M26 1 15 = M25 1 15 := g26 1 15 (by omega)
        have n26 : M26 1 17 = M25 1 17 := g26 1 17 (by omega)
        have s26 : M26 7 = M25 7 := funext fun j => g26 7 j (by omega)
        have t26 : M26 1 16 = t := by rw [g26 1 16 (by omega)]; exact t25
        refine ⟨q25, hQ _ _ q25 ⟨h26, by omega, by omega, fun q => ?_⟩ ⟨fun q => ?_, fun q => ?_⟩ (by rw [s26]; exact h725) t26 (by omega) (r0 _ q25)⟩
        · obtain ⟨n25, w25, d25⟩ := u25 q
          have bb := bm_c1_25.mp (i25.bx 1 25)
          rw [w1, c1] at d25
          have A := w25.add (g := M26 12) (v := 3000) bb.1 ⟨by omega, by omega, by omega⟩ (fun j a q => j26 j (by omega)) v26
          rw [if_pos rfl] at A
          rw [c26]
          exact ⟨by omega, A.1, by rw [A.2, d25]; omega⟩
        · obtain ⟨m, P, O', v1, v2, v3, v4⟩ := R25.1 q
          refine ⟨1 + m, P ++ [302], O', ?_, v2.app (by decide), ?_, ?_⟩
          · rw [← ap1, a26]
            exact S1.tr v1
          · rw [rel_app]
            exact v3.add (p := (302, 0)) c26 j26 (by rw [v26]; rfl)
          · have b26 := bm_c1_15.mp (h26.bx 1 15)
            by_cases ct : M26 1 15 < t
            · exact Or.inr (Or.inl (by have := hf4 (M26 1 15) b26.1 ct; omega))
            · exact Or.inl (by omega)
        · obtain ⟨m, S', u1, u2, u3⟩ := R25.2 q
          exact ⟨_, S', S1.tr u1, by rw [u2, a26], u3⟩
    | succ tt =>
      rw [if_neg (by omega)] at hm hQ
      show bX12_readsRank (qX12_reads d) p1 M Q
      unfold bX12_readsRank
      refine ⟨fun k1 => ⟨⟨by omega, by omega⟩, ?_⟩, fun k1 => ?_⟩
      · have hW' : lbd W < p1 + 1 := by rcases hW with q | q | q <;> omega
        refine ih 1 (p1 + 1) b M _ W O hR0 h7 h16 h15 (by omega) (Or.inr (Or.inr (by omega))) (by rw [if_neg (by decide)]; omega) hC ?_
        intro x3 M3 z3 r3 R3 h73 t3 l3 _ _ q3
        rw [if_neg (by decide)] at R3
        refine ⟨fun k3 => ?_, fun k3 => ?_⟩
        · rw [show x3 = 1 from by omega] at r3 R3
          obtain ⟨m3, P3, O3, v1, v2, v3, v4⟩ := R3.1 rfl
          have loop : ∀ (n : Nat) (v2 : Int) (M4 : Mem) (m : Nat) (P : List Int) (O' : List (Int × Int)), (v2 = 0 ∨ v2 = 1) → RP b M M4 1 → (∀ j, 0 ≤ j → j < t → M4 7 j = f j) → M4 1 16 = t → M4 1 15 ≤ t → PR f t m (1, M 1 17, W, O, M 1 15) (0, M 1 17, P ++ W, O', M4 1 15) → AL (p1 + 1) P → CK M4 (rel P O') → (t ≤ M4 1 15 ∨ bnd (f (M4 1 15)) < p1 + 2) → (v2 = 0 → p1 = 0 ∧ lbd (rls 2 (P ++ W) O').1 = 1) → (v2 = 1 → p1 = 0 → AL 2 P) → 2 * (80 - M4 1 15) + v2 < (n : Int) → qX12_readsRank_L24 (qX12_reads d) p1 Q n v2 M4 := by
            intro n
            induction n with
            | zero => intro v2 M4 m P O' hv hr g7 g16 g15 hP hA hK hx h0 h1 hm2; exact absurd hm2 (by have := bm_c1_15.mp (hr.1.bx 1 15); omega)
            | succ n ihn =>
              intro v2 M4 m P O' hv hr g7 g16 g15 hP hA hK hx h0 h1 hm2
              have hr0 := hr
              obtain ⟨i4, a4, s4, u4⟩ := hr
              obtain ⟨n4, w4, d4⟩ := u4 rfl
              have bb4 := bm_c1_15.mp (i4.bx 1 15)
              rw [qX12_readsRank_L24]
              refine ⟨r0 _ hv, ⟨fun k4 => ?_, fun k4 => ?_⟩⟩
              · obtain ⟨p0, hl⟩ := h0 k4
                refine hQ _ _ (Or.inr rfl) hr0 ⟨fun _ => ⟨m, P, O', hP, hA, hK, ?_⟩, fun q => absurd q (by decide)⟩ g7 g16 g15 (by decide)
                rcases hx with q | q
                · exact Or.inl q
                · by_cases c : bnd (f (M4 1 15)) < p1 + 1
                  · exact Or.inr (Or.inl c)
                  · exact Or.inr (Or.inr ⟨p0, by omega, hl⟩)
              · have hv1 : v2 = 1 := by omega
                have J : ∀ (t0 : Nat) (t1 : Int), OPS p1 t0 t1 → t0 < 9 → ((bS t0).length : Int) ≤ 3 → (0 ≤ t1 ∧ t1 ≤ 5) → (t1 = if p1 = 0 then 0 else if p1 = 1 then 3 else 5) → qX12_readsRank_J50 (qX12_reads d) p1 (qX12_readsRank_L24 (qX12_reads d) p1 Q n) Q t0 M4 := by
                  intro t0 t1 hops ht hl bt1 et1
                  unfold qX12_readsRank_J50
                  refine ⟨ht, ?_⟩
                  refine gX12_takesOf i4 (by omega) ?_
                  intro x9 M9 h9 g9 p9 _
                  rw [g16] at p9
                  have c9 : M9 1 25 = M4 1 25 := g9 1 25 (by omega)
                  have n9 : M9 1 17 = M 1 17 := by rw [g9 1 17 (by omega)]; exact n4
                  have w9 : M9 12 = M4 12 := funext fun j => g9 12 j (by omega)
                  have s9 : M9 7 = M4 7 := funext fun j => g9 7 j (by omega)
                  have t9 : M9 1 16 = t := by rw [g9 1 16 (by omega)]; exact g16
                  refine ⟨fun k9 => ⟨⟨by omega, by omega⟩, ?_⟩, fun k9 => ?_⟩
                  · have p9' : M4 1 15 < t ∧ (0 ≤ x9 ∧ x9 < (bS t0).length) ∧ (bS t0).getD x9.toNat 0 = M4 7 (M4 1 15) ∧ M9 1 15 = M4 1 15 + 1 := by
                      rcases p9 with q | q
                      · exact q
                      · omega
                    obtain ⟨lt9, bx9, g9', a9⟩ := p9'
                    rw [g7 _ bb4.1 lt9] at g9'
                    have ops := hops.1 x9.toNat (by omega)
                    rw [g9'] at ops
                    obtain ⟨o1, o2, o3⟩ := ops
                    have S2 : pst f t (0, M 1 17, P ++ W, O', M4 1 15) = some (1, M 1 17, f (M4 1 15) :: W, rel P O', M4 1 15 + 1) := by
                      by_cases p0 : p1 = 0
                      · have e := rls_a (b := 2) (W := W) (P := P) (O := O') (h1 hv1 p0) (by omega)
                        rw [pst_8 (by decide) (by omega) (by rw [e]; show lbd W ≠ 1; omega), e]
                      · rw [pst_9 (by decide) (by omega), rls_a (by rw [o1]; exact hA) (by omega)]
                    have SS := hP.tr (PR.one lt9 S2)
                    refine ih 1 (p1 + 1) b M9 _ (f (M4 1 15) :: W) (rel P O') ⟨h9, by rw [w9, c9]; exact w4, by omega, by omega, by omega⟩ (by rw [s9]; exact g7) t9 (by omega) (by omega) (Or.inr (Or.inr (by show bnd (f (M4 1 15)) < p1 + 1 + 1; omega))) (by rw [if_neg (by decide)]; omega) (hK.fr c9 w9) ?_
                    intro x13 M13 z13 r13 R13 h713 t13 l13 _ _ q13
                    rw [if_neg (by decide), n9, a9] at R13
                    obtain ⟨i13, a13, s13, u13⟩ := r13
                    have bb13 := bm_c1_15.mp (i13.bx 1 15)
                    refine ⟨fun k13 => ?_, fun k13 => ?_⟩
                    · obtain ⟨n13, w13, d13⟩ := u13 (by omega)
                      rw [w9, c9] at d13
                      obtain ⟨m2, P2, O2, y1, y2, y3, y4⟩ := R13.1 (by omega)
                      have J96 : qX12_readsRank_J96 (qX12_reads d) p1 (qX12_readsRank_L24 (qX12_reads d) p1 Q n) Q t1 (2000 + x9) M13 := by
                        unfold qX12_readsRank_J96
                        refine ⟨⟨by omega, by omega⟩, ?_⟩
                        refine gX12_codes i13 (by omega) ?_
                        intro M18 h18 g18 c18 j18 v18
                        have bb := bm_c1_25.mp (i13.bx 1 25)
                        have bb9 := bm_c1_15.mp (h9.bx 1 15)
                        have a18 : M18 1 15 = M13 1 15 := g18 1 15 (by omega)
                        have n18 : M18 1 17 = M13 1 17 := g18 1 17 (by omega)
                        have s18 : M18 7 = M13 7 := funext fun j => g18 7 j (by omega)
                        have t18 : M18 1 16 = t := by rw [g18 1 16 (by omega)]; exact t13
                        have A := w13.add (g := M18 12) (v := 2000 + x9 + t1) bb.1 ⟨by omega, by omega, by omega⟩ (fun j a q => j18 j (by omega)) v18
                        rw [if_neg (by omega), if_neg (by omega)] at A
                        have hr18 : RP b M M18 1 := ⟨h18, by omega, by omega, fun _ => ⟨by omega, by rw [c18]; exact A.1, by rw [c18, A.2, d13, d4]; omega⟩⟩
                        have P18 : PR f t (m + 1 + m2) (1, M 1 17, W, O, M 1 15) (0, M 1 17, (P2 ++ [f (M4 1 15)]) ++ W, O2, M18 1 15) := by
                          rw [← ap1, a18]
                          exact SS.tr y1
                        have A18 : AL (p1 + 1) (P2 ++ [f (M4 1 15)]) := (y2.mono (by omega)).app (by omega)
                        have K18 : CK M18 (rel (P2 ++ [f (M4 1 15)]) O2) := by
                          rw [rel_app]
                          exact y3.add (p := (f (M4 1 15), 0)) c18 j18 (by rw [v18, o2]; omega)
                        have X18 : t ≤ M18 1 15 ∨ bnd (f (M18 1 15)) < p1 + 2 := by
                          rw [a18]
                          rcases y4 with q | q | q
                          · exact Or.inl q
                          · exact Or.inr (by omega)
                          · omega
                        refine ⟨fun c => ihn 0 M18 _ _ O2 (Or.inl rfl) hr18 (by rw [s18]; exact h713) t18 (by omega) P18 A18 K18 X18 (fun _ => ⟨by omega, ?_⟩) (fun q => absurd q (by decide)) (by omega), fun c => ihn 1 M18 _ _ O2 (Or.inr rfl) hr18 (by rw [s18]; exact h713) t18 (by omega) P18 A18 K18 X18 (fun q => absurd q (by decide)) (fun _ q => by omega) (by omega)⟩
                        have p0 : p1 = 0 := by omega
                        rw [← ap1, rls_a (b := 2) (W := f (M4 1 15) :: W) (y2.mono (by omega)) (by show bnd (f (M4 1 15)) < 2; omega)]
                        show bnd (f (M4 1 15)) = 1
                        omega
                      refine ⟨fun c => ⟨fun c2 => ?_, fun c2 => ?_⟩, fun c => ?_⟩
                      · have e : t1 = 5 := by rw [et1, if_neg c, if_neg c2]
                        rw [e] at J96
                        exact J96
                      · have e : t1 = 3 := by rw [et1, if_neg c, if_pos c2]
                        rw [e] at J96
                        exact J96
                      · have e : t1 = 0 := by rw [et1, if_pos c]
                        rw [e] at J96
                        exact J96
                    · obtain ⟨m2, S', y1, y2, y3⟩ := R13.2 k13
                      exact hQ _ _ (Or.inl rfl) ⟨i13, by omega, by omega, fun q => absurd q (by decide)⟩ (RPP.no (SS.tr y1) y2 y3) h713 t13 l13 (by decide)
                  · have p9' : M9 1 15 = M4 1 15 ∧ (t ≤ M4 1 15 ∨ ∀ i : Int, 0 ≤ i → i < ((bS t0).length : Int) → (bS t0).getD i.toNat 0 ≠ M4 7 (M4 1 15)) := by
                      rcases p9 with q | q
                      · omega
                      · exact q.2
                    obtain ⟨a9, l9⟩ := p9'
                    refine hQ _ _ (Or.inr rfl) ⟨h9, by omega, by omega, fun _ => ⟨n9, by rw [w9, c9]; exact w4, by rw [w9, c9]; exact d4⟩⟩ ⟨fun _ => ⟨m, P, O', by rw [a9]; exact hP, hA, hK.fr c9 w9, ?_⟩, fun q => absurd q (by decide)⟩ (by rw [s9]; exact g7) t9 (by omega) (by decide)
                    rw [a9]
                    by_cases ct : M4 1 15 < t
                    · refine Or.inr (Or.inl ?_)
                      rcases hx with q | q
                      · omega
                      · by_cases cb : bnd (f (M4 1 15)) = p1 + 1
                        · exfalso
                          obtain ⟨i, hi, e⟩ := hops.2 _ cb
                          rcases l9 with l | l
                          · omega
                          · exact l (i : Int) (by omega) (by omega) (by rw [g7 _ bb4.1 ct, show ((i : Int)).toNat = i from by omega]; exact e)
                        · omega
                    · exact Or.inl (by omega)
                refine ⟨fun c => ⟨fun c2 => ?_, fun c2 => ?_⟩, fun c => ?_⟩
                · have e : p1 = 2 := by omega
                  exact J 7 5 (by rw [e]; exact OPS_2) (by decide) (by decide) (by decide) (by rw [if_neg c, if_neg c2])
                · exact J 6 3 (by rw [c2]; exact OPS_1) (by decide) (by decide) (by decide) (by rw [if_neg c, if_pos c2])
                · exact J 5 0 (by rw [c]; exact OPS_0) (by decide) (by decide) (by decide) (by rw [if_pos c])
          refine ⟨162, loop 162 1 M3 m3 P3 O3 (Or.inr rfl) r3 h73 t3 l3 v1 (v2.mono (by omega)) v3 ?_ (fun q => absurd q (by decide)) (fun _ q => by rw [q] at v2; exact v2) (by have := bm_c1_15.mp (r3.1.bx 1 15); omega)⟩
          rcases v4 with q | q | q
          · exact Or.inl q
          · exact Or.inr (by omega)
          · omega
        · obtain ⟨m, S', u1, u2, u3⟩ := R3.2 k3
          exact hQ _ _ (Or.inl rfl) ⟨r3.1, r3.2.1, r3.2.2.1, fun q => absurd q (by decide)⟩ (RPP.no u1 u2 u3) h73 t3 l3 (by decide)
      · refine ih 0 0 b M _ W O hR0 h7 h16 h15 (by omega) (Or.inl rfl) (by rw [if_pos rfl]; omega) hC ?_
        intro x21 M21 z21 r21 R21 h721 t21 l21 _ _ q21
        rw [if_pos rfl] at R21
        exact ⟨q21, hQ _ _ q21 r21 (by rw [k1]; exact R21) h721 t21 l21 (r0 _ q21)⟩
