theorem s_chk3N (l : Launch) (D : va_G) (τ : Nat → ClassId) (sA sV : Nat → Nat) (sz : Nat) (k n : Int) (h0 : 0 ≤ k) (h1 : k < n) (h2 : n ≤ 2147483647) : Met l yJ3_checkIndex_8e157 (lw_w yJ3_checkIndex_8e157 cJ3_checkIndex_8e157 3 (some .int)) (rmk 1 0 0) (kPc D τ sA sV (W0 m0) sz [.int (iI k), .int (iI n), .null]) (gQi D (EQi W0 T0 (fun z _ => z = k)) (va_A (W0 m0) sz)) 0 0 (va_A (W0 m0) sz) := by
  refine k_met (ret := some .int) (Qc := gQi D (EQi W0 T0 (fun z _ => z = k))) (by decide +kernel) (Nat.le_of_ble_eq_true rfl) ?_
  intro p e s m args below meth c A ls hx hb hml hr hlk hnm hC hLS hA hw hl
  have hC : cx D τ s m args RJ3 := hC
  have hl : lv_has ls 3 [(0, .int (iI k)), (1, .int (iI n)), (2, .null)] := hl
  refine lv_iload_n hx hb dJ3_checkIndex_8e157_0 rfl (lv_at hl 0 rfl) ?_
  refine r_if_lt (tgt := 9) hx hb dJ3_checkIndex_8e157_1 (by decide) (by omega) (fun h => absurd h (by omega)) (fun _ => ?_)
  refine lv_iload_n hx hb dJ3_checkIndex_8e157_4 rfl (lv_at hl 0 rfl) ?_
  refine lv_iload_n hx hb dJ3_checkIndex_8e157_5 rfl (lv_at hl 1 rfl) ?_
  refine r_icmp_lt (tgt := 16) hx hb dJ3_checkIndex_8e157_6 (by decide) (by omega) (by omega) (fun _ => ?_) (fun h => absurd h1 h)
  refine lv_iload_n hx hb dJ3_checkIndex_8e157_16 rfl (lv_at hl 0 rfl) ?_
  exact k_nret wq_0 (Rf := T0) (z := k) hx hb hr rfl hlk hw trivial (by omega) rfl dJ3_checkIndex_8e157_17
theorem s_chk3R (l : Launch) (D : va_G) (τ : Nat → ClassId) (sA sV : Nat → Nat) (sz : Nat) (k n : Int) (t : Nat) (h0 : 0 ≤ k) (h1 : k < n) (h2 : n ≤ 2147483647) : Met l yJ3_checkIndex_8e157 (lw_w yJ3_checkIndex_8e157 cJ3_checkIndex_8e157 3 (some .int)) (rmk 1 0 0) (kPc D τ sA sV (W0 m0) sz [.int (iI k), .int (iI n), (.ref t)]) (gQi D (EQi W0 T0 (fun z _ => z = k)) (va_A (W0 m0) sz)) 0 0 (va_A (W0 m0) sz) := by
  refine k_met (ret := some .int) (Qc := gQi D (EQi W0 T0 (fun z _ => z = k))) (by decide +kernel) (Nat.le_of_ble_eq_true rfl) ?_
  intro p e s m args below meth c A ls hx hb hml hr hlk hnm hC hLS hA hw hl
  have hC : cx D τ s m args RJ3 := hC
  have hl : lv_has ls 3 [(0, .int (iI k)), (1, .int (iI n)), (2, (.ref t))] := hl
  refine lv_iload_n hx hb dJ3_checkIndex_8e157_0 rfl (lv_at hl 0 rfl) ?_
  refine r_if_lt (tgt := 9) hx hb dJ3_checkIndex_8e157_1 (by decide) (by omega) (fun h => absurd h (by omega)) (fun _ => ?_)
  refine lv_iload_n hx hb dJ3_checkIndex_8e157_4 rfl (lv_at hl 0 rfl) ?_
  refine lv_iload_n hx hb dJ3_checkIndex_8e157_5 rfl (lv_at hl 1 rfl) ?_
  refine r_icmp_lt (tgt := 16) hx hb dJ3_checkIndex_8e157_6 (by decide) (by omega) (by omega) (fun _ => ?_) (fun h => absurd h1 h)
  refine lv_iload_n hx hb dJ3_checkIndex_8e157_16 rfl (lv_at hl 0 rfl) ?_
  exact k_nret wq_0 (Rf := T0) (z := k) hx hb hr rfl hlk hw trivial (by omega) rfl dJ3_checkIndex_8e157_17
theorem s_chk0 (l : Launch) (D : va_G) (τ : Nat → ClassId) (sA sV : Nat → Nat) (sz : Nat) (k n : Int) (h0 : 0 ≤ k) (h1 : k < n) (h2 : n ≤ 2147483647) : Met l yJ0_checkIndex_df160 (lw_w yJ0_checkIndex_df160 cJ0_checkIndex_df160 2 none) (rmk 2 0 0) (kPc D τ sA sV (W0 m0) sz [.int (iI k), .int (iI n)]) (gQv D (EQv W0 T0 (fun _ => True)) (va_A (W0 m0) sz)) 0 0 (va_A (W0 m0) sz) := by
  refine k_met (ret := none) (Qc := gQv D (EQv W0 T0 (fun _ => True))) (by decide +kernel) (Nat.le_of_ble_eq_true rfl) ?_
  intro p e s m args below meth c A ls hx hb hml hr hlk hnm hC hLS hA hw hl
  have hC : cx D τ s m args RJ0 := hC
  have hl : lv_has ls 2 [(0, .int (iI k)), (1, .int (iI n))] := hl
  refine lv_iload_n hx hb dJ0_checkIndex_df160_0 rfl (lv_at hl 0 rfl) ?_
  refine lv_iload_n hx hb dJ0_checkIndex_df160_1 rfl (lv_at hl 1 rfl) ?_
  rcases hLS.2.2 with hz | ⟨t, hz⟩
  · skip
    refine va_gets hx hb hz hw.2.2 hC.2.1 (hC.1 _ fl_J0_1053) (fun _ h => h) dJ0_checkIndex_df160_2 ?_
    refine j_cSi (Wf := W0) (Rf := T0) (M0 := m0) (As := [.int (iI k), .int (iI n), .null]) (rest := []) (wr := []) hx hb hml hC hLS hA hw hl.1 (s_chk3N l D τ sA sV _ k n h0 h1 h2) kJ3_checkIndex_8e157 ml_J0_1059 [] [] rfl rfl rfl rfl (fun i h => absurd h List.not_mem_nil) rfl rfl (Nat.le_of_ble_eq_true rfl) (rm_ok (by decide) (by decide)) ⟨by decide, by decide⟩ rfl rfl dJ0_checkIndex_df160_5 (fun z1 M1 H locs hz1 _ _ hw => ?_)
    refine lv_pop hx hb dJ0_checkIndex_df160_8 rfl ?_
    exact k_vret wq_0 (Rf := T0) (M0 := m0) (Q1 := fun _ => True) hx hb hr hlk hw trivial trivial dJ0_checkIndex_df160_9
  · skip
    refine va_gets hx hb hz hw.2.2 hC.2.1 (hC.1 _ fl_J0_1053) (fun _ h => h) dJ0_checkIndex_df160_2 ?_
    refine j_cSi (Wf := W0) (Rf := T0) (M0 := m0) (As := [.int (iI k), .int (iI n), .ref t]) (rest := []) (wr := []) hx hb hml hC hLS hA hw hl.1 (s_chk3R l D τ sA sV _ k n t h0 h1 h2) kJ3_checkIndex_8e157 ml_J0_1059 [] [] rfl rfl rfl rfl (fun i h => absurd h List.not_mem_nil) rfl rfl (Nat.le_of_ble_eq_true rfl) (rm_ok (by decide) (by decide)) ⟨by decide, by decide⟩ rfl rfl dJ0_checkIndex_df160_5 (fun z1 M1 H locs hz1 _ _ hw => ?_)
    refine lv_pop hx hb dJ0_checkIndex_df160_8 rfl ?_
    exact k_vret wq_0 (Rf := T0) (M0 := m0) (Q1 := fun _ => True) hx hb hr hlk hw trivial trivial dJ0_checkIndex_df160_9
theorem byte_and {b : Int} (h0 : 0 ≤ b) (h1 : b < 128) : aI b 255 = b := by
  obtain ⟨n, rfl⟩ := Int.eq_ofNat_of_zero_le h0
  have hn : n < 128 := by omega
  have h : ∀ k : Nat, k < 128 → aI k 255 = k := by decide +kernel
  exact h n hn
theorem ST.byt {A : Nat → Prop} {U : State} {H : Heap} {sa sv : Nat} {bs : List Int} (h : ST A U H sa sv bs) {k : Nat} (hk : k < bs.length) : 0 ≤ bs.getD k 0 ∧ bs.getD k 0 < 128 := by
  rw [List.getD_eq_getElem?_getD, List.getElem?_eq_getElem hk]
  exact h.2.2.2.2.1 _ (List.getElem_mem hk)
theorem s_char1 (l : Launch) (D : va_G) (τ : Nat → ClassId) (sA sV : Nat → Nat) (sz sa sv : Nat) (bs : List Int) (k : Int) (h0 : 0 ≤ k) (h1 : k < bs.length) : Met l yJ1_charAt_3b067 (lw_w yJ1_charAt_3b067 cJ1_charAt_3b067 2 (some .char)) (rmk 3 0 0) (tPc D τ sA sV (W0 m0) sz sa sv bs [.ref sv, .int (iI k)]) (gQi D (EQi W0 T0 (fun z _ => z = bs.getD k.toNat 0)) (va_A (W0 m0) sz)) 0 0 (va_A (W0 m0) sz) := by
  refine t_met (ret := some .char) (Qc := gQi D (EQi W0 T0 (fun z _ => z = bs.getD k.toNat 0))) (by decide +kernel) (Nat.le_of_ble_eq_true rfl) ?_
  intro p e s m args below meth c A ls hx hb hml hr hlk hnm hC hLS hST hA hw hl
  have hC : cx D τ s m args RJ1 := hC
  have hl : lv_has ls 2 [(0, .ref sv), (1, .int (iI k))] := hl
  have hn := hST.2.2.2.2.2
  have hby := hST.byt (k := k.toNat) (by omega)
  refine lv_iload_n hx hb dJ1_charAt_3b067_0 rfl (lv_at hl 1 rfl) ?_
  refine lv_aload_n hx hb dJ1_charAt_3b067_1 rfl (lv_at hl 0 rfl) ?_
  refine va_tlen (v := iI bs.length) hx hb hST.2.2.2.1 hw.2.2 rfl dJ1_charAt_3b067_2 ?_
  refine j_cSv (Wf := W0) (Rf := T0) (M0 := m0) (As := [.int (iI k), .int (iI bs.length)]) (rest := []) (wr := []) hx hb hml hC hLS hA hw hl.1 (s_chk0 l D τ sA sV _ k bs.length h0 h1 (by omega)) kJ0_checkIndex_df160 ml_J1_9 [] [] rfl rfl rfl rfl (fun i h => absurd h List.not_mem_nil) rfl rfl (Nat.le_of_ble_eq_true rfl) (rm_ok (by decide) (by decide)) ⟨by decide, by decide⟩ rfl rfl dJ1_charAt_3b067_3 (fun M1 H locs _ _ hw => ?_)
  refine lv_aload_n hx hb dJ1_charAt_3b067_6 rfl (lv_at hl 0 rfl) ?_
  refine lv_iload_n hx hb dJ1_charAt_3b067_7 rfl (lv_at hl 1 rfl) ?_
  refine va_tb (v := .int (iI (bs.getD k.toNat 0))) hx hb hST.2.2.2.1 hw.2.2 (iI_in h0 h1 (by omega)) (by rw [iI_clamp ⟨by omega, by omega⟩]) dJ1_charAt_3b067_8 ?_
  refine r_sipush hx hb dJ1_charAt_3b067_9 (by decide +kernel) ?_
  refine r_iandF hx hb dJ1_charAt_3b067_12 (fun x e1 g1 => ?_)
  rw [byte_and hby.1 hby.2] at e1
  refine r_i2c hx hb dJ1_charAt_3b067_13 (by omega) (by omega) ?_
  exact k_nret wq_0 (Rf := T0) (M0 := m0) (z := x) hx hb hr (by
    rw [e1]
    have h : ∀ q : Nat, q < 128 → narrow .char (.int (iI q)) = .int (iI q) := by decide +kernel
    obtain ⟨q, hq⟩ := Int.eq_ofNat_of_zero_le hby.1
    rw [hq]
    exact h q (by omega)) hlk hw trivial g1 e1 dJ1_charAt_3b067_14
theorem s_charAt (l : Launch) (D : va_G) (τ : Nat → ClassId) (sA sV : Nat → Nat) (sz sa sv : Nat) (bs : List Int) (k : Int) (h0 : 0 ≤ k) (h1 : k < bs.length) : Met l yJ0_charAt_5068e (lw_w yJ0_charAt_5068e cJ0_charAt_5068e 2 (some .char)) (rmk 4 0 0) (tPc D τ sA sV (W0 m0) sz sa sv bs [.ref sa, .int (iI k)]) (gQi D (EQi W0 T0 (fun z _ => z = bs.getD k.toNat 0)) (va_A (W0 m0) sz)) 0 0 (va_A (W0 m0) sz) := by
  refine t_met (ret := some .char) (Qc := gQi D (EQi W0 T0 (fun z _ => z = bs.getD k.toNat 0))) (by decide +kernel) (Nat.le_of_ble_eq_true rfl) ?_
  intro p e s m args below meth c A ls hx hb hml hr hlk hnm hC hLS hST hA hw hl
  have hC : cx D τ s m args RJ0 := hC
  have hl : lv_has ls 2 [(0, .ref sa), (1, .int (iI k))] := hl
  have hn := hST.2.2.2.2.2
  have hby := hST.byt (k := k.toNat) (by omega)
  refine lv_aload_n hx hb dJ0_charAt_5068e_0 rfl (lv_at hl 0 rfl) ?_
  refine t_cVi0 wq_0 (As := []) (rest := []) hx hb hml hC hLS hA hw hl.1 hST rfl (s_latin l D τ sA sV _ sa sv bs) kJ0_isLatin1_aae02 ml_J0_492 rfl rfl (Nat.le_of_ble_eq_true rfl) (rm_ok (by decide) (by decide)) ⟨by decide, by decide⟩ dJ0_charAt_5068e_1 (fun z1 H locs hz1 hE1 hw => ?_)
  subst hE1
  refine r_if_eq (tgt := 16) hx hb dJ0_charAt_5068e_4 (by decide) (by decide) (fun h => absurd h (by decide)) (fun _ => ?_)
  refine lv_aload_n hx hb dJ0_charAt_5068e_7 rfl (lv_at hl 0 rfl) ?_
  refine vk_getf hx hb hST.2.2.1 hw.2.2 hC.2.1 (hC.1 _ fl_J0_9) (fun _ h => h) dJ0_charAt_5068e_8 ?_
  refine lv_iload_n hx hb dJ0_charAt_5068e_11 rfl (lv_at hl 1 rfl) ?_
  refine t_cSi (Wf := W0) (Rf := T0) (M0 := m0) (As := [.ref sv, .int (iI k)]) (rest := []) (wr := []) hx hb hml hC hLS hA hw hl.1 (hST.down hA hw [] rfl) (s_char1 l D τ sA sV _ sa sv bs k h0 h1) kJ1_charAt_3b067 ml_J0_495 [] [] rfl rfl rfl rfl (fun i h => absurd h List.not_mem_nil) rfl rfl (Nat.le_of_ble_eq_true rfl) (rm_ok (by decide) (by decide)) ⟨by decide, by decide⟩ rfl rfl dJ0_charAt_5068e_12 (fun z1 M1 H locs g1 _ e1 hw => ?_)
  exact k_nret wq_0 (Rf := T0) (M0 := m0) (z := z1) hx hb hr (by
    rw [e1]
    have h : ∀ q : Nat, q < 128 → narrow .char (.int (iI q)) = .int (iI q) := by decide +kernel
    obtain ⟨q, hq⟩ := Int.eq_ofNat_of_zero_le hby.1
    rw [hq]
    exact h q (by omega)) hlk hw trivial g1 e1 dJ0_charAt_5068e_15
/-- indexOf -/
theorem s_canEnc (l : Launch) (D : va_G) (τ : Nat → ClassId) (sA sV : Nat → Nat) (sz : Nat) (c0 : Int) (h0 : 0 ≤ c0) (h1 : c0 < 65536) : Met l yJ1_canEncode_9a6ad (lw_w yJ1_canEncode_9a6ad cJ1_canEncode_9a6ad 1 (some .boolean)) (rmk 1 0 0) (kPc D τ sA sV (W0 m0) sz [.int (iI c0)]) (gQi D (EQi W0 T0 (fun z _ => (z = 0 ∧ 256 ≤ c0) ∨ (z = 1 ∧ c0 < 256))) (va_A (W0 m0) sz)) 0 0 (va_A (W0 m0) sz) := by
  refine k_met (ret := some .boolean) (Qc := gQi D (EQi W0 T0 (fun z _ => (z = 0 ∧ 256 ≤ c0) ∨ (z = 1 ∧ c0 < 256)))) (by decide +kernel) (Nat.le_of_ble_eq_true rfl) ?_
  intro p e s m args below meth c A ls hx hb hml hr hlk hnm hC hLS hA hw hl
  have hC : cx D τ s m args RJ1 := hC
  have hl : lv_has ls 1 [(0, .int (iI c0))] := hl
  refine lv_iload_n hx hb dJ1_canEncode_9a6ad_0 rfl (lv_at hl 0 rfl) ?_
  refine r_if_lt (tgt := 15) hx hb dJ1_canEncode_9a6ad_1 (by decide) (by omega) (fun h => absurd h (by omega)) (fun _ => ?_)
  refine lv_iload_n hx hb dJ1_canEncode_9a6ad_4 rfl (lv_at hl 0 rfl) ?_
  refine r_sipush hx hb dJ1_canEncode_9a6ad_5 (by decide +kernel) ?_
  refine r_icmp_gt (tgt := 15) hx hb dJ1_canEncode_9a6ad_8 (by decide) (by omega) (by decide) (fun h => ?_) (fun h => ?_)
  · refine r_iconst hx hb dJ1_canEncode_9a6ad_15 ?_
    exact k_nret wq_0 (Rf := T0) (M0 := m0) (z := 0) hx hb hr rfl hlk hw trivial (by decide) (Or.inl ⟨rfl, by omega⟩) dJ1_canEncode_9a6ad_16
  · refine r_iconst hx hb dJ1_canEncode_9a6ad_11 ?_
    refine lv_goto (tgt := 16) hx hb dJ1_canEncode_9a6ad_12 (by decide) ?_
    exact k_nret wq_0 (Rf := T0) (M0 := m0) (z := 1) hx hb hr rfl hlk hw trivial (by decide) (Or.inr ⟨rfl, by omega⟩) dJ1_canEncode_9a6ad_16
theorem ixF_R (c : Int) : ∀ (l : List Int) (k : Int), 0 ≤ k → l.length + k ≤ 100000 → -1 ≤ ixF c l k ∧ ixF c l k ≤ 100000 := by
  intro l
  induction l with
  | nil => intro k h0 h1; exact ⟨by simp [ixF], by simp [ixF]⟩
  | cons b l ih =>
    intro k h0 h1
    have h2 : (l.length : Int) + 1 + k ≤ 100000 := by simpa using h1
    unfold ixF
    by_cases hc : b = c
    · rw [if_pos hc]; omega
    · rw [if_neg hc]
      exact ih (k + 1) (by omega) (by omega)
theorem ixF_no {c : Int} : ∀ (l : List Int) (k : Int), (∀ b ∈ l, b ≠ c) → ixF c l k = -1 := by
  intro l
  induction l with
  | nil => intro k _; rfl
  | cons b l ih =>
    intro k h
    unfold ixF
    rw [if_neg (h b List.mem_cons_self)]
    exact ih (k + 1) (fun x hx => h x (List.mem_cons_of_mem _ hx))
theorem b8_id {c0 b : Int} (h0 : 0 ≤ c0) (h1 : c0 < 256) (g0 : 0 ≤ b) (g1 : b < 128) : b = b8I c0 ↔ b = c0 := by
  have h : ∀ q : Nat, q < 256 → (b8I q = if q < 128 then (q : Int) else (q : Int) - 256) := by decide +kernel
  obtain ⟨q, rfl⟩ := Int.eq_ofNat_of_zero_le h0
  rw [h q (by omega)]
  by_cases c : q < 128
  · rw [if_pos c]
  · rw [if_neg c]; omega
theorem s_ixChar (l : Launch) (D : va_G) (τ : Nat → ClassId) (sA sV : Nat → Nat) (sz sa sv : Nat) (bs : List Int) (c0 : Int) (h0 : 0 ≤ c0) (h1 : c0 < 256) : Met l yJ1_indexOfChar_4cfef (lw_w yJ1_indexOfChar_4cfef cJ1_indexOfChar_4cfef 6 (some .int)) (rmk 1 0 0) (tPc D τ sA sV (W0 m0) sz sa sv bs [.ref sv, .int (iI c0), .int (iI 0), .int (iI bs.length)]) (gQi D (EQi W0 T0 (fun z _ => z = ixS bs c0)) (va_A (W0 m0) sz)) 0 0 (va_A (W0 m0) sz) := by
  refine t_met (ret := some .int) (Qc := gQi D (EQi W0 T0 (fun z _ => z = ixS bs c0))) (by decide +kernel) (Nat.le_of_ble_eq_true rfl) ?_
  intro p e s m args below meth c A ls hx hb hml hr hlk hnm hC hLS hST hA hw hl
  have hC : cx D τ s m args RJ1 := hC
  have hl : lv_has ls 6 [(0, .ref sv), (1, .int (iI c0)), (2, .int (iI 0)), (3, .int (iI bs.length))] := hl
  have hn := hST.2.2.2.2.2
  refine lv_iload_n hx hb dJ1_indexOfChar_4cfef_0 rfl (lv_at hl 1 rfl) ?_
  refine r_i2bF hx hb dJ1_indexOfChar_4cfef_1 (fun x e1 g1 => ?_)
  refine lv_istore (lv' := [(4, .int (iI x)), (0, .ref sv), (1, .int (iI c0)), (2, .int (iI 0)), (3, .int (iI bs.length))]) hx hb dJ1_indexOfChar_4cfef_2 hl (by decide) rfl (fun ls hl => ?_)
  refine lv_iload_n hx hb dJ1_indexOfChar_4cfef_4 rfl (lv_at hl 3 rfl) ?_
  refine lv_istore (lv' := [(5, .int (iI 0)), (4, .int (iI x)), (0, .ref sv), (1, .int (iI c0)), (2, .int (iI 0)), (3, .int (iI bs.length))]) hx hb dJ1_indexOfChar_4cfef_5 hl (by decide) rfl (fun ls hl => ?_)
  have L : ∀ (q : List Int) (k : Int) (H : Heap) (locs : List Loc) (ls : Array Slot), 0 ≤ k → bs.drop k.toNat = q → q.length + k = bs.length → wS D A s.heap (W0 m0) H locs → lv_has ls 6 [(5, .int (iI k)), (4, .int (iI x)), (0, .ref sv), (1, .int (iI c0)), (2, .int (iI 0)), (3, .int (iI bs.length))] → iR (ixF c0 q k) → ixF c0 q k = ixS bs c0 → W p l e (rmk 1 0 0) s m args below meth c H locs 0 0 (MQ below (gQi D (EQi W0 T0 (fun z _ => z = ixS bs c0)) A) args s 0 0 A) (F0 m 7 ls []) := by
    intro q
    induction q with
    | nil =>
      intro k H locs ls hk hd hlen hw hl hR hix
      have hlen : k = bs.length := by simpa using hlen
      refine lv_iload hx hb dJ1_indexOfChar_4cfef_7 (lv_at hl 0 rfl) ?_
      refine lv_iload_n hx hb dJ1_indexOfChar_4cfef_9 rfl (lv_at hl 5 rfl) ?_
      refine r_icmp_ge (tgt := 31) hx hb dJ1_indexOfChar_4cfef_10 (by decide) (by omega) (by omega) (fun _ => ?_) (fun h => absurd (show (bs.length : Int) ≤ k by omega) h)
      refine r_iconst hx hb dJ1_indexOfChar_4cfef_31 ?_
      exact k_nret wq_0 (Rf := T0) (M0 := m0) (z := -1) hx hb hr rfl hlk hw trivial (by decide) hix dJ1_indexOfChar_4cfef_32
    | cons b q ih =>
      intro k H locs ls hk hd hlen hw hl hR hix
      have hlen : (q.length : Int) + 1 + k = bs.length := by simpa using hlen
      have hkl : k.toNat < bs.length := by omega
      have hd2 := List.drop_eq_getElem_cons hkl
      rw [hd] at hd2
      have hb0 : b = bs[k.toNat] := (List.cons.inj hd2).1
      have hq0 : bs.drop (k.toNat + 1) = q := (List.cons.inj hd2).2.symm
      have hgd : bs.getD k.toNat 0 = b := by rw [List.getD_eq_getElem?_getD, List.getElem?_eq_getElem hkl, hb0]; rfl
      have hby := hST.byt hkl
      rw [hgd] at hby
      refine lv_iload hx hb dJ1_indexOfChar_4cfef_7 (lv_at hl 0 rfl) ?_
      refine lv_iload_n hx hb dJ1_indexOfChar_4cfef_9 rfl (lv_at hl 5 rfl) ?_
      refine r_icmp_ge (tgt := 31) hx hb dJ1_indexOfChar_4cfef_10 (by decide) (by omega) (by omega) (fun h => absurd h (by omega)) (fun _ => ?_)
      refine lv_aload_n hx hb dJ1_indexOfChar_4cfef_13 rfl (lv_at hl 2 rfl) ?_
      refine lv_iload hx hb dJ1_indexOfChar_4cfef_14 (lv_at hl 0 rfl) ?_
      refine va_tb (v := .int (iI b)) hx hb hST.2.2.2.1 hw.2.2 (iI_in hk (by omega) (by omega)) (by rw [iI_clamp ⟨by omega, by omega⟩, hgd]) dJ1_indexOfChar_4cfef_16 ?_
      refine lv_iload hx hb dJ1_indexOfChar_4cfef_17 (lv_at hl 1 rfl) ?_
      unfold ixF at hR hix
      refine r_icmp_ne (tgt := 25) hx hb dJ1_indexOfChar_4cfef_19 (by decide) (by omega) g1 (fun h => ?_) (fun h => ?_)
      · rw [e1, b8_id h0 h1 hby.1 hby.2] at h
        rw [if_neg h] at hR hix
        refine r_iinc (v := (k + 1)) (lv' := [(5, .int (iI (k + 1))), (4, .int (iI x)), (0, .ref sv), (1, .int (iI c0)), (2, .int (iI 0)), (3, .int (iI bs.length))]) hx hb dJ1_indexOfChar_4cfef_25 hl (k := 0) rfl rfl (by decide) rfl (fun ls hl => ?_)
        refine lv_goto (tgt := 7) hx hb dJ1_indexOfChar_4cfef_28 (by decide) ?_
        exact ih (k + 1) H locs ls (by omega) (by rw [show (k + 1).toNat = k.toNat + 1 by omega]; exact hq0) (by omega) hw hl hR hix
      · rw [e1, b8_id h0 h1 hby.1 hby.2] at h
        rw [if_pos h] at hR hix
        refine lv_iload hx hb dJ1_indexOfChar_4cfef_22 (lv_at hl 0 rfl) ?_
        exact k_nret wq_0 (Rf := T0) (M0 := m0) (z := k) hx hb hr rfl hlk hw trivial hR hix dJ1_indexOfChar_4cfef_24
  have hR := ixF_R c0 bs 0 (by omega) (by omega)
  exact L bs 0 _ _ _ (by omega) rfl (by omega) hw hl ⟨by omega, by omega⟩ rfl
theorem s_ix1 (l : Launch) (D : va_G) (τ : Nat → ClassId) (sA sV : Nat → Nat) (sz sa sv : Nat) (bs : List Int) (c0 : Int) (h0 : 0 ≤ c0) (h1 : c0 < 65536) : Met l yJ1_indexOf_4cfef (lw_w yJ1_indexOf_4cfef cJ1_indexOf_4cfef 4 (some .int)) (rmk 2 0 0) (tPc D τ sA sV (W0 m0) sz sa sv bs [.ref sv, .int (iI c0), .int (iI 0), .int (iI bs.length)]) (gQi D (EQi W0 T0 (fun z _ => z = ixS bs c0)) (va_A (W0 m0) sz)) 0 0 (va_A (W0 m0) sz) := by
  refine t_met (ret := some .int) (Qc := gQi D (EQi W0 T0 (fun z _ => z = ixS bs c0))) (by decide +kernel) (Nat.le_of_ble_eq_true rfl) ?_
  intro p e s m args below meth c A ls hx hb hml hr hlk hnm hC hLS hST hA hw hl
  have hC : cx D τ s m args RJ1 := hC
  have hl : lv_has ls 4 [(0, .ref sv), (1, .int (iI c0)), (2, .int (iI 0)), (3, .int (iI bs.length))] := hl
  have hn := hST.2.2.2.2.2
  have hby := hST.2.2.2.2.1
  refine lv_iload_n hx hb dJ1_indexOf_4cfef_0 rfl (lv_at hl 1 rfl) ?_
  refine j_cSi (Wf := W0) (Rf := T0) (M0 := m0) (As := [.int (iI c0)]) (rest := []) (wr := []) hx hb hml hC hLS hA hw hl.1 (s_canEnc l D τ sA sV _ c0 h0 h1) kJ1_canEncode_9a6ad ml_J1_88 [] [] rfl rfl rfl rfl (fun i h => absurd h List.not_mem_nil) rfl rfl (Nat.le_of_ble_eq_true rfl) (rm_ok (by decide) (by decide)) ⟨by decide, by decide⟩ rfl rfl dJ1_indexOf_4cfef_1 (fun z1 M1 H locs g1 _ e1 hw => ?_)
  refine r_if_ne (tgt := 9) hx hb dJ1_indexOf_4cfef_4 (by decide) g1 (fun h => ?_) (fun h => ?_)
  · have hc : c0 < 256 := by omega
    refine lv_iload_n hx hb dJ1_indexOf_4cfef_9 rfl (lv_at hl 2 rfl) ?_
    refine r_iconst hx hb dJ1_indexOf_4cfef_10 ?_
    refine r_mmaxF hx hb hml hC hl.1 ml_J1_92 sm_max in_J9 cd_max (by decide) (Nat.le_of_ble_eq_true rfl) (by decide) (by decide) (by decide) (by decide) dJ1_indexOf_4cfef_11 (fun x3 e3 g3 => ?_)
    obtain rfl : x3 = 0 := by omega
    refine lv_istore_n (lv' := [(2, .int (iI 0)), (0, .ref sv), (1, .int (iI c0)), (3, .int (iI bs.length))]) hx hb dJ1_indexOf_4cfef_14 rfl hl (by decide) rfl (fun ls hl => ?_)
    refine lv_iload_n hx hb dJ1_indexOf_4cfef_15 rfl (lv_at hl 3 rfl) ?_
    refine lv_aload_n hx hb dJ1_indexOf_4cfef_16 rfl (lv_at hl 1 rfl) ?_
    refine va_tlen (v := iI bs.length) hx hb hST.2.2.2.1 hw.2.2 rfl dJ1_indexOf_4cfef_17 ?_
    refine r_mminF hx hb hml hC hl.1 ml_J1_38 sm_min in_J9 cd_min (by decide) (Nat.le_of_ble_eq_true rfl) (by decide) (by decide) (by omega) (by omega) dJ1_indexOf_4cfef_18 (fun x4 e4 g4 => ?_)
    obtain rfl : x4 = bs.length := by omega
    refine lv_istore_n (lv' := [(3, .int (iI bs.length)), (2, .int (iI 0)), (0, .ref sv), (1, .int (iI c0))]) hx hb dJ1_indexOf_4cfef_21 rfl hl (by decide) rfl (fun ls hl => ?_)
    refine lv_iload_n hx hb dJ1_indexOf_4cfef_22 rfl (lv_at hl 1 rfl) ?_
    refine lv_iload_n hx hb dJ1_indexOf_4cfef_23 rfl (lv_at hl 0 rfl) ?_
    refine r_icmp_lt (tgt := 29) hx hb dJ1_indexOf_4cfef_24 (by decide) (by decide) (by omega) (fun h => ?_) (fun h => ?_)
    · refine lv_aload_n hx hb dJ1_indexOf_4cfef_29 rfl (lv_at hl 2 rfl) ?_
      refine lv_iload_n hx hb dJ1_indexOf_4cfef_30 rfl (lv_at hl 3 rfl) ?_
      refine lv_iload_n hx hb dJ1_indexOf_4cfef_31 rfl (lv_at hl 1 rfl) ?_
      refine lv_iload_n hx hb dJ1_indexOf_4cfef_32 rfl (lv_at hl 0 rfl) ?_
      refine t_cSi (Wf := W0) (Rf := T0) (M0 := m0) (As := [.ref sv, .int (iI c0), .int (iI 0), .int (iI bs.length)]) (rest := []) (wr := []) hx hb hml hC hLS hA hw hl.1 (hST.down hA hw [] rfl) (s_ixChar l D τ sA sV _ sa sv bs c0 h0 hc) kJ1_indexOfChar_4cfef ml_J1_95 [] [] rfl rfl rfl rfl (fun i h => absurd h List.not_mem_nil) rfl rfl (Nat.le_of_ble_eq_true rfl) (rm_ok (by decide) (by decide)) ⟨by decide, by decide⟩ rfl rfl dJ1_indexOf_4cfef_33 (fun z5 M5 H locs g5 _ e5 hw => ?_)
      exact k_nret wq_0 (Rf := T0) (M0 := m0) (z := z5) hx hb hr rfl hlk hw trivial g5 e5 dJ1_indexOf_4cfef_36
    · refine r_iconst hx hb dJ1_indexOf_4cfef_27 ?_
      have hz : bs = [] := List.length_eq_zero_iff.mp (by omega)
      exact k_nret wq_0 (Rf := T0) (M0 := m0) (z := -1) hx hb hr rfl hlk hw trivial (by decide) (by rw [hz]; rfl) dJ1_indexOf_4cfef_28
  · refine r_iconst hx hb dJ1_indexOf_4cfef_7 ?_
    exact k_nret wq_0 (Rf := T0) (M0 := m0) (z := -1) hx hb hr rfl hlk hw trivial (by decide) (ixF_no bs 0 (fun b hb0 hq => by have := hby b hb0; omega)).symm dJ1_indexOf_4cfef_8
theorem s_ix2 (l : Launch) (D : va_G) (τ : Nat → ClassId) (sA sV : Nat → Nat) (sz sa sv : Nat) (bs : List Int) (c0 : Int) (h0 : 0 ≤ c0) (h1 : c0 < 65536) : Met l yJ0_indexOf_7cf53 (lw_w yJ0_indexOf_7cf53 cJ0_indexOf_7cf53 3 (some .int)) (rmk 3 0 0) (tPc D τ sA sV (W0 m0) sz sa sv bs [.ref sa, .int (iI c0), .int (iI 0)]) (gQi D (EQi W0 T0 (fun z _ => z = ixS bs c0)) (va_A (W0 m0) sz)) 0 0 (va_A (W0 m0) sz) := by
  refine t_met (ret := some .int) (Qc := gQi D (EQi W0 T0 (fun z _ => z = ixS bs c0))) (by decide +kernel) (Nat.le_of_ble_eq_true rfl) ?_
  intro p e s m args below meth c A ls hx hb hml hr hlk hnm hC hLS hST hA hw hl
  have hC : cx D τ s m args RJ0 := hC
  have hl : lv_has ls 3 [(0, .ref sa), (1, .int (iI c0)), (2, .int (iI 0))] := hl
  refine lv_aload_n hx hb dJ0_indexOf_7cf53_0 rfl (lv_at hl 0 rfl) ?_
  refine t_cVi0 wq_0 (As := []) (rest := []) hx hb hml hC hLS hA hw hl.1 hST rfl (s_latin l D τ sA sV _ sa sv bs) kJ0_isLatin1_aae02 ml_J0_492 rfl rfl (Nat.le_of_ble_eq_true rfl) (rm_ok (by decide) (by decide)) ⟨by decide, by decide⟩ dJ0_indexOf_7cf53_1 (fun z1 H locs hz1 hE1 hw => ?_)
  subst hE1
  refine r_if_eq (tgt := 23) hx hb dJ0_indexOf_7cf53_4 (by decide) (by decide) (fun h => absurd h (by decide)) (fun _ => ?_)
  refine lv_aload_n hx hb dJ0_indexOf_7cf53_7 rfl (lv_at hl 0 rfl) ?_
  refine vk_getf hx hb hST.2.2.1 hw.2.2 hC.2.1 (hC.1 _ fl_J0_9) (fun _ h => h) dJ0_indexOf_7cf53_8 ?_
  refine lv_iload_n hx hb dJ0_indexOf_7cf53_11 rfl (lv_at hl 1 rfl) ?_
  refine lv_iload_n hx hb dJ0_indexOf_7cf53_12 rfl (lv_at hl 2 rfl) ?_
  refine lv_aload_n hx hb dJ0_indexOf_7cf53_13 rfl (lv_at hl 0 rfl) ?_
  refine t_cVi0 wq_0 (As := []) (rest := [.int (iI 0), .int (iI c0), .ref sv]) hx hb hml hC hLS hA hw hl.1 hST rfl (s_length l D τ sA sV _ sa sv bs) kJ0_length_8abf5 ml_J0_505 rfl rfl (Nat.le_of_ble_eq_true rfl) (rm_ok (by decide) (by decide)) ⟨by decide, by decide⟩ dJ0_indexOf_7cf53_14 (fun z2 H locs hz2 hE2 hw => ?_)
  subst hE2
  refine t_cSi (Wf := W0) (Rf := T0) (M0 := m0) (As := [.ref sv, .int (iI c0), .int (iI 0), .int (iI bs.length)]) (rest := []) (wr := []) hx hb hml hC hLS hA hw hl.1 (hST.down hA hw [] rfl) (s_ix1 l D τ sA sV _ sa sv bs c0 h0 h1) kJ1_indexOf_4cfef ml_J0_637 [] [] rfl rfl rfl rfl (fun i h => absurd h List.not_mem_nil) rfl rfl (Nat.le_of_ble_eq_true rfl) (rm_ok (by decide) (by decide)) ⟨by decide, by decide⟩ rfl rfl dJ0_indexOf_7cf53_17 (fun z5 M5 H locs g5 _ e5 hw => ?_)
  refine lv_goto (tgt := 36) hx hb dJ0_indexOf_7cf53_20 (by decide) ?_
  exact k_nret wq_0 (Rf := T0) (M0 := m0) (z := z5) hx hb hr rfl hlk hw trivial g5 e5 dJ0_indexOf_7cf53_36
theorem s_indexOf (l : Launch) (D : va_G) (τ : Nat → ClassId) (sA sV : Nat → Nat) (sz sa sv : Nat) (bs : List Int) (c0 : Int) (h0 : 0 ≤ c0) (h1 : c0 < 65536) : Met l yJ0_indexOf_0f7a4 (lw_w yJ0_indexOf_0f7a4 cJ0_indexOf_0f7a4 2 (some .int)) (rmk 4 0 0) (tPc D τ sA sV (W0 m0) sz sa sv bs [.ref sa, .int (iI c0)]) (gQi D (EQi W0 T0 (fun z _ => z = ixS bs c0)) (va_A (W0 m0) sz)) 0 0 (va_A (W0 m0) sz) := by
  refine t_met (ret := some .int) (Qc := gQi D (EQi W0 T0 (fun z _ => z = ixS bs c0))) (by decide +kernel) (Nat.le_of_ble_eq_true rfl) ?_
  intro p e s m args below meth c A ls hx hb hml hr hlk hnm hC hLS hST hA hw hl
  have hC : cx D τ s m args RJ0 := hC
  have hl : lv_has ls 2 [(0, .ref sa), (1, .int (iI c0))] := hl
  refine lv_aload_n hx hb dJ0_indexOf_0f7a4_0 rfl (lv_at hl 0 rfl) ?_
  refine lv_iload_n hx hb dJ0_indexOf_0f7a4_1 rfl (lv_at hl 1 rfl) ?_
  refine r_iconst hx hb dJ0_indexOf_0f7a4_2 ?_
  refine t_cVi0 wq_0 (As := [.int (iI c0), .int (iI 0)]) (rest := []) hx hb hml hC hLS hA hw hl.1 hST rfl (s_ix2 l D τ sA sV _ sa sv bs c0 h0 h1) kJ0_indexOf_7cf53 ml_J0_633 rfl rfl (Nat.le_of_ble_eq_true rfl) (rm_ok (by decide) (by decide)) ⟨by decide, by decide⟩ dJ0_indexOf_0f7a4_3 (fun z1 H locs hz1 hE1 hw => ?_)
  exact k_nret wq_0 (Rf := T0) (M0 := m0) (z := z1) hx hb hr rfl hlk hw trivial hz1 hE1 dJ0_indexOf_0f7a4_6
section RT2
variable {p : Program} {l : Launch} {e : Env} {R : Room} {s : State} {m : MethodId} {args : Array Value} {below : List Frame} {meth : Method} {c : Code} {H : Heap} {locs : List Loc} {cells slots : Nat} {Q : State → Prop}
variable {cc : ByteArray} {pc : Nat} {ls : Array Slot} {rest st0 : List Value} {D : va_G} {A : Nat → Prop} {a : Nat} {τ : Nat → ClassId} {own : String} {sA sV : Nat → Nat} {index nL : Nat} {Wf : Mem → va_W} {M0 : Mem}
theorem k_indexOf (hWQ : WQ Wf) (hx : p.tables.exec = Jvm.exec) (hb : c.code = cc) (hml : c.maxLocals = nL) (hC : cx D τ s m args own) (hLS : LK A s s.heap sA sV) (hA : ∀ q, s.heap.size ≤ q → A q) (hw : wS D A s.heap (Wf M0) H locs) (hl : ls.size = nL) {sa sv : Nat} {bs : List Int} (hST : ST A s s.heap sa sv bs) {c0 : Int} (h0 : 0 ≤ c0) (h1 : c0 < 65536) (hlk : Cond.methodLink own index yJ0_indexOf_0f7a4 ∈ lw_good) (hcat : (rest.map fun v => v.category).sum ≤ 8) (hroom : 5 ≤ R.frames ∧ 8 + (2 + 11) + 64 * 4 ≤ R.locals) (hcs : cells ≤ R.cells ∧ slots ≤ R.slots) (hd : decode cc pc = .ok (.invokevirtual index, 3)) (kk : ∀ (z : Int) (H : Heap) (locs : List Loc), z = ixS bs c0 → iR z → wS D A s.heap (Wf M0) H locs → W p l e R s m args below meth c H locs cells slots Q (F0 m (pc + 3) ls (.int (iI z) :: rest))) : W p l e R s m args below meth c H locs cells slots Q (F0 m pc ls (.int (iI c0) :: .ref sa :: rest)) :=
  t_cVi0 hWQ (As := [.int (iI c0)]) hx hb hml hC hLS hA hw hl hST rfl (s_indexOf l D τ sA sV _ sa sv bs c0 h0 h1) kJ0_indexOf_0f7a4 hlk rfl rfl hcat hroom hcs hd (fun z H locs g e hw => kk z H locs e g hw)
theorem k_length (hWQ : WQ Wf) (hx : p.tables.exec = Jvm.exec) (hb : c.code = cc) (hml : c.maxLocals = nL) (hC : cx D τ s m args own) (hLS : LK A s s.heap sA sV) (hA : ∀ q, s.heap.size ≤ q → A q) (hw : wS D A s.heap (Wf M0) H locs) (hl : ls.size = nL) {sa sv : Nat} {bs : List Int} (hST : ST A s s.heap sa sv bs) (hlk : Cond.methodLink own index yJ0_length_8abf5 ∈ lw_good) (hcat : (rest.map fun v => v.category).sum ≤ 8) (hroom : 3 ≤ R.frames ∧ 8 + (1 + 11) + 64 * 2 ≤ R.locals) (hcs : cells ≤ R.cells ∧ slots ≤ R.slots) (hd : decode cc pc = .ok (.invokevirtual index, 3)) (kk : ∀ (z : Int) (H : Heap) (locs : List Loc), z = bs.length → iR z → wS D A s.heap (Wf M0) H locs → W p l e R s m args below meth c H locs cells slots Q (F0 m (pc + 3) ls (.int (iI z) :: rest))) : W p l e R s m args below meth c H locs cells slots Q (F0 m pc ls (.ref sa :: rest)) :=
  t_cVi0 hWQ (As := []) hx hb hml hC hLS hA hw hl hST rfl (s_length l D τ sA sV _ sa sv bs) kJ0_length_8abf5 hlk rfl rfl hcat hroom hcs hd (fun z H locs g e hw => kk z H locs e g hw)
theorem k_charAt (hWQ : WQ Wf) (hx : p.tables.exec = Jvm.exec) (hb : c.code = cc) (hml : c.maxLocals = nL) (hC : cx D τ s m args own) (hLS : LK A s s.heap sA sV) (hA : ∀ q, s.heap.size ≤ q → A q) (hw : wS D A s.heap (Wf M0) H locs) (hl : ls.size = nL) {sa sv : Nat} {bs : List Int} (hST : ST A s s.heap sa sv bs) {k : Int} (h0 : 0 ≤ k) (h1 : k < bs.length) (hlk : Cond.methodLink own index yJ0_charAt_5068e ∈ lw_good) (hcat : (rest.map fun v => v.category).sum ≤ 8) (hroom : 5 ≤ R.frames ∧ 8 + (2 + 11) + 64 * 4 ≤ R.locals) (hcs : cells ≤ R.cells ∧ slots ≤ R.slots) (hd : decode cc pc = .ok (.invokevirtual index, 3)) (kk : ∀ (z : Int) (H : Heap) (locs : List Loc), z = bs.getD k.toNat 0 → iR z → wS D A s.heap (Wf M0) H locs → W p l e R s m args below meth c H locs cells slots Q (F0 m (pc + 3) ls (.int (iI z) :: rest))) : W p l e R s m args below meth c H locs cells slots Q (F0 m pc ls (.int (iI k) :: .ref sa :: rest)) :=
  t_cVi0 hWQ (As := [.int (iI k)]) hx hb hml hC hLS hA hw hl hST rfl (s_charAt l D τ sA sV _ sa sv bs k h0 h1) kJ0_charAt_5068e hlk rfl rfl hcat hroom hcs hd (fun z H locs g e hw => kk z H locs e g hw)
theorem k_ldcwS (hx : p.tables.exec = Jvm.exec) (hb : c.code = cc) {tx : String} {q : Nat} (hown : s.vm.findClass own = some m.cls) (hZ : vk_R own index tx q s) (hdg : decode cc pc = .ok (.ldc_w index, 3)) (k : W p l e R s m args below meth c H locs cells slots Q (F0 m (pc + 3) ls (.ref q :: rest))) : W p l e R s m args below meth c H locs cells slots Q (F0 m pc ls rest) := by
  intro T hT X
  obtain ⟨t, a1, b1⟩ := k T hT X
  exact ⟨t, Stand.ldcStringW X hx hown (text := tx) (a := q) hZ.1 hZ.2 (g := F0 m pc ls rest) rfl (by rw [hb]; exact hdg) t a1, b1⟩
theorem k_tcViH (hWQ : WQ Wf) (hx : p.tables.exec = Jvm.exec) (hb : c.code = cc) (hml : c.maxLocals = nL) (hC : cx D τ s m args own) (hLS : LK A s s.heap sA sV) (hA : ∀ q, s.heap.size ≤ q → A q) (hw : wS D A s.heap (Wf M0) H locs) (hl : ls.size = nL) {Rf : Mem → Prop} {Q1 : Int → Mem → Prop} {sa sv : Nat} {bs : List Int} (hST : ST (va_A (Wf M0) H.size) s H sa sv bs) {y : MethodName} {b : ByteArray} {mL n lev : Nat} {ret : Option FieldType} {As : List Value} {st0 : List Value} (M : Met l y (lw_w y b mL ret) (rmk lev 0 0) (tPc D τ sA sV (Wf M0) H.size sa sv bs (.ref a :: As)) (gQi D (EQi Wf Rf Q1) (va_A (Wf M0) H.size)) 0 0 (va_A (Wf M0) H.size)) (K : KV y b mL ret n) (hlk : Cond.methodLink own index y ∈ lw_good) {q0 ci : Nat} {fs : List Value} {T : u_T} {N : Nat} (hci : vwCl[ci]? = some (y.cls, T, N)) (hq0 : (Wf M0)[q0]? = some (a, .inr (ci, fs))) (hst : st0 = As.reverse ++ .ref a :: rest) (hn : As.length = n) (hcat : (rest.map fun v => v.category).sum ≤ 8) (hroom : lev + 1 ≤ R.frames ∧ 8 + (mL + 11) + 64 * lev ≤ R.locals) (hcs : cells ≤ R.cells ∧ slots ≤ R.slots) (hd : decode cc pc = .ok (.invokevirtual index, 3)) (kk : ∀ (z : Int) (M : Mem) (H : Heap) (locs : List Loc), iR z → Rf M → Q1 z M → wS D A s.heap (Wf M) H locs → W p l e R s m args below meth c H locs cells slots Q (F0 m (pc + 3) ls (.int (iI z) :: rest))) : W p l e R s m args below meth c H locs cells slots Q (F0 m pc ls st0) := by
  obtain ⟨N, hN, hnd⟩ := hWQ
  have hp := pick_all (Wf M0)
  rw [hN] at hp
  exact t_cVi (wr := []) hx hb hml hC hLS hA hw hl hST M K hlk (List.range N) [] hp rfl hnd rfl (fun i h => absurd h List.not_mem_nil) (va_recv hC.2.2.1 hw.1 hci hq0) hst hn hcat hroom hcs rfl rfl hd kk
theorem k_tcVi (hWQ : WQ Wf) (hx : p.tables.exec = Jvm.exec) (hb : c.code = cc) (hml : c.maxLocals = nL) (hC : cx D τ s m args own) (hLS : LK A s s.heap sA sV) (hA : ∀ q, s.heap.size ≤ q → A q) (hw : wS D A s.heap (Wf M0) H locs) (hl : ls.size = nL) {sa sv : Nat} {bs : List Int} (hST : ST A s s.heap sa sv bs) {Rf : Mem → Prop} {Q1 : Int → Mem → Prop} {y : MethodName} {b : ByteArray} {mL n lev : Nat} {ret : Option FieldType} {As : List Value} {st0 : List Value} (M : Met l y (lw_w y b mL ret) (rmk lev 0 0) (tPc D τ sA sV (Wf M0) H.size sa sv bs (.ref a :: As)) (gQi D (EQi Wf Rf Q1) (va_A (Wf M0) H.size)) 0 0 (va_A (Wf M0) H.size)) (K : KV y b mL ret n) (hlk : Cond.methodLink own index y ∈ lw_good) {q0 ci : Nat} {fs : List Value} {T : u_T} {N : Nat} (hci : vwCl[ci]? = some (y.cls, T, N)) (hq0 : (Wf M0)[q0]? = some (a, .inr (ci, fs))) (hst : st0 = As.reverse ++ .ref a :: rest) (hn : As.length = n) (hcat : (rest.map fun v => v.category).sum ≤ 8) (hroom : lev + 1 ≤ R.frames ∧ 8 + (mL + 11) + 64 * lev ≤ R.locals) (hcs : cells ≤ R.cells ∧ slots ≤ R.slots) (hd : decode cc pc = .ok (.invokevirtual index, 3)) (kk : ∀ (z : Int) (M : Mem) (H : Heap) (locs : List Loc), iR z → Rf M → Q1 z M → wS D A s.heap (Wf M) H locs → W p l e R s m args below meth c H locs cells slots Q (F0 m (pc + 3) ls (.int (iI z) :: rest))) : W p l e R s m args below meth c H locs cells slots Q (F0 m pc ls st0) := by
  have hWQ' := hWQ
  obtain ⟨N', hN', hnd'⟩ := hWQ'
  have hp := pick_all (Wf M0)
  rw [hN'] at hp
  exact k_tcViH hWQ hx hb hml hC hLS hA hw hl (hST.down hA hw (List.range N') hp) M K hlk hci hq0 hst hn hcat hroom hcs hd kk
end RT2
