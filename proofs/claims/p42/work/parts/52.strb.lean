section
theorem s_chk3N (l : Launch) (D : va_G) (τ : Nat → ClassId) (sA sV : Nat → Nat) (sz : Nat) (k n : Int) (h0 : 0 ≤ k) (h1 : k < n) (h2 : n ≤ 2147483647) : Met l yJ3_checkIndex_8e157 (lw_w yJ3_checkIndex_8e157 cJ3_checkIndex_8e157 3 (some .int)) (rmk 1 0 0) (kPc D τ sA sV (W0 m0) sz [.int (iI k), .int (iI n), .null]) (gQi D (EQi W0 T0 (fun z _ => z = k)) (va_A (W0 m0) sz)) 0 0 (va_A (W0 m0) sz) := by
  refine k_met (ret := some .int) (Qc := gQi D (EQi W0 T0 (fun z _ => z = k))) (by decide +kernel) (Nat.le_of_ble_eq_true rfl) ?_
  intro p e s m args below meth c A ls hx hb hml hr hlk hnm hC hLS hA hw hl
  have hC : cx D τ s m args RJ3 := hC
  have hl : lv_has ls 3 [(0, .int (iI k)), (1, .int (iI n)), (2, .null)] := hl
  refine lv_iload_n hx hb dJ3_checkIndex_8e157_0 rfl (lv_at hl 0 rfl) ?_
  refine r_if_lt (tgt := 9) hx hb dJ3_checkIndex_8e157_1 (by decide) (by omega) (fun h => absurd h (by omega)) (fun _ => ?_)
  refine lv_iload_n hx hb dJ3_checkIndex_8e157_4 rfl (lv_at hl 0 rfl) ?_
  refine lv_iload_n hx hb dJ3_checkIndex_8e157_5 rfl (lv_at hl 1 rfl) ?_
  refine r_icmp_lt (tgt := 16) hx hb dJ3_checkIndex_8e157_6 (by decide) (by omega) (by omega) (fun _ => ?_) (fun h => absurd h1 h)
  refine lv_iload_n hx hb dJ3_checkIndex_8e157_16 rfl (lv_at hl 0 rfl) ?_
  exact k_nret wq_0 (Rf := T0) (z := k) hx hb hr rfl hlk hw trivial (by omega) rfl dJ3_checkIndex_8e157_17
theorem s_chk3R (l : Launch) (D : va_G) (τ : Nat → ClassId) (sA sV : Nat → Nat) (sz : Nat) (k n : Int) (t : Nat) (h0 : 0 ≤ k) (h1 : k < n) (h2 : n ≤ 2147483647) : Met l yJ3_checkIndex_8e157 (lw_w yJ3_checkIndex_8e157 cJ3_checkIndex_8e157 3 (some .int)) (rmk 1 0 0) (kPc D τ sA sV (W0 m0) sz [.int (iI k), .int (iI n), (.ref t)]) (gQi D (EQi W0 T0 (fun z _ => z = k)) (va_A (W0 m0) sz)) 0 0 (va_A (W0 m0) sz) := by
  refine k_met (ret := some .int) (Qc := gQi D (EQi W0 T0 (fun z _ => z = k))) (by decide +kernel) (Nat.le_of_ble_eq_true rfl) ?_
  intro p e s m args below meth c A ls hx hb hml hr hlk hnm hC hLS hA hw hl
  have hC : cx D τ s m args RJ3 := hC
  have hl : lv_has ls 3 [(0, .int (iI k)), (1, .int (iI n)), (2, (.ref t))] := hl
  refine lv_iload_n hx hb dJ3_checkIndex_8e157_0 rfl (lv_at hl 0 rfl) ?_
  refine r_if_lt (tgt := 9) hx hb dJ3_checkIndex_8e157_1 (by decide) (by omega) (fun h => absurd h (by omega)) (fun _ => ?_)
  refine lv_iload_n hx hb dJ3_checkIndex_8e157_4 rfl (lv_at hl 0 rfl) ?_
  refine lv_iload_n hx hb dJ3_checkIndex_8e157_5 rfl (lv_at hl 1 rfl) ?_
  refine r_icmp_lt (tgt := 16) hx hb dJ3_checkIndex_8e157_6 (by decide) (by omega) (by omega) (fun _ => ?_) (fun h => absurd h1 h)
  refine lv_iload_n hx hb dJ3_checkIndex_8e157_16 rfl (lv_at hl 0 rfl) ?_
  exact k_nret wq_0 (Rf := T0) (z := k) hx hb hr rfl hlk hw trivial (by omega) rfl dJ3_checkIndex_8e157_17
theorem s_chk0 (l : Launch) (D : va_G) (τ : Nat → ClassId) (sA sV : Nat → Nat) (sz : Nat) (k n : Int) (h0 : 0 ≤ k) (h1 : k < n) (h2 : n ≤ 2147483647) : Met l yJ0_checkIndex_df160 (lw_w yJ0_checkIndex_df160 cJ0_checkIndex_df160 2 none) (rmk 2 0 0) (kPc D τ sA sV (W0 m0) sz [.int (iI k), .int (iI n)]) (gQv D (EQv W0 T0 (fun _ => True)) (va_A (W0 m0) sz)) 0 0 (va_A (W0 m0) sz) := by
  refine k_met (ret := none) (Qc := gQv D (EQv W0 T0 (fun _ => True))) (by decide +kernel) (Nat.le_of_ble_eq_true rfl) ?_
  intro p e s m args below meth c A ls hx hb hml hr hlk hnm hC hLS hA hw hl
  have hC : cx D τ s m args RJ0 := hC
  have hl : lv_has ls 2 [(0, .int (iI k)), (1, .int (iI n))] := hl
  refine lv_iload_n hx hb dJ0_checkIndex_df160_0 rfl (lv_at hl 0 rfl) ?_
  refine lv_iload_n hx hb dJ0_checkIndex_df160_1 rfl (lv_at hl 1 rfl) ?_
  rcases hLS.2.2 with hz | ⟨t, hz⟩
  · skip
    refine va_gets hx hb hz hw.2.2 hC.2.1 (hC.1 _ fl_J0_1053) (fun _ h => h) dJ0_checkIndex_df160_2 ?_
    refine j_cSi (Wf := W0) (Rf := T0) (M0 := m0) (As := [.int (iI k), .int (iI n), .null]) (rest := []) (wr := []) hx hb hml hC hLS hA hw hl.1 (s_chk3N l D τ sA sV _ k n h0 h1 h2) kJ3_checkIndex_8e157 ml_J0_1059 [] [] rfl rfl rfl rfl (fun i h => absurd h List.not_mem_nil) rfl rfl (Nat.le_of_ble_eq_true rfl) (rm_ok (by decide) (by decide)) ⟨by decide, by decide⟩ rfl rfl dJ0_checkIndex_df160_5 (fun z1 M1 H locs hz1 _ _ hw => ?_)
    refine lv_pop hx hb dJ0_checkIndex_df160_8 rfl ?_
    exact k_vret wq_0 (Rf := T0) (M0 := m0) (Q1 := fun _ => True) hx hb hr hlk hw trivial trivial dJ0_checkIndex_df160_9
  · skip
    refine va_gets hx hb hz hw.2.2 hC.2.1 (hC.1 _ fl_J0_1053) (fun _ h => h) dJ0_checkIndex_df160_2 ?_
    refine j_cSi (Wf := W0) (Rf := T0) (M0 := m0) (As := [.int (iI k), .int (iI n), .ref t]) (rest := []) (wr := []) hx hb hml hC hLS hA hw hl.1 (s_chk3R l D τ sA sV _ k n t h0 h1 h2) kJ3_checkIndex_8e157 ml_J0_1059 [] [] rfl rfl rfl rfl (fun i h => absurd h List.not_mem_nil) rfl rfl (Nat.le_of_ble_eq_true rfl) (rm_ok (by decide) (by decide)) ⟨by decide, by decide⟩ rfl rfl dJ0_checkIndex_df160_5 (fun z1 M1 H locs hz1 _ _ hw => ?_)
    refine lv_pop hx hb dJ0_checkIndex_df160_8 rfl ?_
    exact k_vret wq_0 (Rf := T0) (M0 := m0) (Q1 := fun _ => True) hx hb hr hlk hw trivial trivial dJ0_checkIndex_df160_9
theorem byte_and {b : Int} (h0 : 0 ≤ b) (h1 : b < 128) : aI b 255 = b := by
  obtain ⟨n, rfl⟩ := Int.eq_ofNat_of_zero_le h0
  have hn : n < 128 := by omega
  have h : ∀ k : Nat, k < 128 → aI k 255 = k := by decide +kernel
  exact h n hn
theorem ST.byt {A : Nat → Prop} {U : State} {H : Heap} {sa sv : Nat} {bs : List Int} (h : ST A U H sa sv bs) {k : Nat} (hk : k < bs.length) : 0 ≤ bs.getD k 0 ∧ bs.getD k 0 < 128 := by
  rw [List.getD_eq_getElem?_getD, List.getElem?_eq_getElem hk]
  exact h.2.2.2.2.1 _ (List.getElem_mem hk)
theorem s_char1 (l : Launch) (D : va_G) (τ : Nat → ClassId) (sA sV : Nat → Nat) (sz sa sv : Nat) (bs : List Int) (k : Int) (h0 : 0 ≤ k) (h1 : k < bs.length) : Met l yJ1_charAt_3b067 (lw_w yJ1_charAt_3b067 cJ1_charAt_3b067 2 (some .char)) (rmk 3 0 0) (tPc D τ sA sV (W0 m0) sz sa sv bs [.ref sv, .int (iI k)]) (gQi D (EQi W0 T0 (fun z _ => z = bs.getD k.toNat 0)) (va_A (W0 m0) sz)) 0 0 (va_A (W0 m0) sz) := by
  refine t_met (ret := some .char) (Qc := gQi D (EQi W0 T0 (fun z _ => z = bs.getD k.toNat 0))) (by decide +kernel) (Nat.le_of_ble_eq_true rfl) ?_
  intro p e s m args below meth c A ls hx hb hml hr hlk hnm hC hLS hST hA hw hl
  have hC : cx D τ s m args RJ1 := hC
  have hl : lv_has ls 2 [(0, .ref sv), (1, .int (iI k))] := hl
  have hn := hST.2.2.2.2.2
  have hby := hST.byt (k := k.toNat) (by omega)
  refine lv_iload_n hx hb dJ1_charAt_3b067_0 rfl (lv_at hl 1 rfl) ?_
  refine lv_aload_n hx hb dJ1_charAt_3b067_1 rfl (lv_at hl 0 rfl) ?_
  refine va_tlen (v := iI bs.length) hx hb hST.2.2.2.1 hw.2.2 rfl dJ1_charAt_3b067_2 ?_
  refine j_cSv (Wf := W0) (Rf := T0) (M0 := m0) (As := [.int (iI k), .int (iI bs.length)]) (rest := []) (wr := []) hx hb hml hC hLS hA hw hl.1 (s_chk0 l D τ sA sV _ k bs.length h0 h1 (by omega)) kJ0_checkIndex_df160 ml_J1_9 [] [] rfl rfl rfl rfl (fun i h => absurd h List.not_mem_nil) rfl rfl (Nat.le_of_ble_eq_true rfl) (rm_ok (by decide) (by decide)) ⟨by decide, by decide⟩ rfl rfl dJ1_charAt_3b067_3 (fun M1 H locs _ _ hw => ?_)
  refine lv_aload_n hx hb dJ1_charAt_3b067_6 rfl (lv_at hl 0 rfl) ?_
  refine lv_iload_n hx hb dJ1_charAt_3b067_7 rfl (lv_at hl 1 rfl) ?_
  refine va_tb (v := .int (iI (bs.getD k.toNat 0))) hx hb hST.2.2.2.1 hw.2.2 (iI_in h0 h1 (by omega)) (by rw [iI_clamp ⟨by omega, by omega⟩]) dJ1_charAt_3b067_8 ?_
  refine r_sipush hx hb dJ1_charAt_3b067_9 (by decide +kernel) ?_
  refine r_iandF hx hb dJ1_charAt_3b067_12 (fun x e1 g1 => ?_)
  rw [byte_and hby.1 hby.2] at e1
  refine r_i2c hx hb dJ1_charAt_3b067_13 (by omega) (by omega) ?_
  exact k_nret wq_0 (Rf := T0) (M0 := m0) (z := x) hx hb hr (by
    rw [e1]
    have h : ∀ q : Nat, q < 128 → narrow .char (.int (iI q)) = .int (iI q) := by decide +kernel
    obtain ⟨q, hq⟩ := Int.eq_ofNat_of_zero_le hby.1
    rw [hq]
    exact h q (by omega)) hlk hw trivial g1 e1 dJ1_charAt_3b067_14
theorem s_charAt (l : Launch) (D : va_G) (τ : Nat → ClassId) (sA sV : Nat → Nat) (sz sa sv : Nat) (bs : List Int) (k : Int) (h0 : 0 ≤ k) (h1 : k < bs.length) : Met l yJ0_charAt_5068e (lw_w yJ0_charAt_5068e cJ0_charAt_5068e 2 (some .char)) (rmk 4 0 0) (tPc D τ sA sV (W0 m0) sz sa sv bs [.ref sa, .int (iI k)]) (gQi D (EQi W0 T0 (fun z _ => z = bs.getD k.toNat 0)) (va_A (W0 m0) sz)) 0 0 (va_A (W0 m0) sz) := by
  refine t_met (ret := some .char) (Qc := gQi D (EQi W0 T0 (fun z _ => z = bs.getD k.toNat 0))) (by decide +kernel) (Nat.le_of_ble_eq_true rfl) ?_
  intro p e s m args below meth c A ls hx hb hml hr hlk hnm hC hLS hST hA hw hl
  have hC : cx D τ s m args RJ0 := hC
  have hl : lv_has ls 2 [(0, .ref sa), (1, .int (iI k))] := hl
  have hn := hST.2.2.2.2.2
  have hby := hST.byt (k := k.toNat) (by omega)
  refine lv_aload_n hx hb dJ0_charAt_5068e_0 rfl (lv_at hl 0 rfl) ?_
  refine t_cVi0 wq_0 (As := []) (rest := []) hx hb hml hC hLS hA hw hl.1 hST rfl (s_latin l D τ sA sV _ sa sv bs) kJ0_isLatin1_aae02 ml_J0_492 rfl rfl (Nat.le_of_ble_eq_true rfl) (rm_ok (by decide) (by decide)) ⟨by decide, by decide⟩ dJ0_charAt_5068e_1 (fun z1 H locs hz1 hE1 hw => ?_)
  subst hE1
  refine r_if_eq (tgt := 16) hx hb dJ0_charAt_5068e_4 (by decide) (by decide) (fun h => absurd h (by decide)) (fun _ => ?_)
  refine lv_aload_n hx hb dJ0_charAt_5068e_7 rfl (lv_at hl 0 rfl) ?_
  refine vk_getf hx hb hST.2.2.1 hw.2.2 hC.2.1 (hC.1 _ fl_J0_9) (fun _ h => h) dJ0_charAt_5068e_8 ?_
  refine lv_iload_n hx hb dJ0_charAt_5068e_11 rfl (lv_at hl 1 rfl) ?_
  refine t_cSi (Wf := W0) (Rf := T0) (M0 := m0) (As := [.ref sv, .int (iI k)]) (rest := []) (wr := []) hx hb hml hC hLS hA hw hl.1 (hST.down hA hw [] rfl) (s_char1 l D τ sA sV _ sa sv bs k h0 h1) kJ1_charAt_3b067 ml_J0_495 [] [] rfl rfl rfl rfl (fun i h => absurd h List.not_mem_nil) rfl rfl (Nat.le_of_ble_eq_true rfl) (rm_ok (by decide) (by decide)) ⟨by decide, by decide⟩ rfl rfl dJ0_charAt_5068e_12 (fun z1 M1 H locs g1 _ e1 hw => ?_)
  exact k_nret wq_0 (Rf := T0) (M0 := m0) (z := z1) hx hb hr (by
    rw [e1]
    have h : ∀ q : Nat, q < 128 → narrow .char (.int (iI q)) = .int (iI q) := by decide +kernel
    obtain ⟨q, hq⟩ := Int.eq_ofNat_of_zero_le hby.1
    rw [hq]
    exact h q (by omega)) hlk hw trivial g1 e1 dJ0_charAt_5068e_15
/-- indexOf -/
theorem s_canEnc (l : Launch) (D : va_G) (τ : Nat → ClassId) (sA sV : Nat → Nat) (sz : Nat) (c0 : Int) (h0 : 0 ≤ c0) (h1 : c0 < 65536) : Met l yJ1_canEncode_9a6ad (lw_w yJ1_canEncode_9a6ad cJ1_canEncode_9a6ad 1 (some .boolean)) (rmk 1 0 0) (kPc D τ sA sV (W0 m0) sz [.int (iI c0)]) (gQi D (EQi W0 T0 (fun z _ => (z = 0 ∧ 256 ≤ c0) ∨ (z = 1 ∧ c0 < 256))) (va_A (W0 m0) sz)) 0 0 (va_A (W0 m0) sz) := by
  refine k_met (ret := some .boolean) (Qc := gQi D (EQi W0 T0 (fun z _ => (z = 0 ∧ 256 ≤ c0) ∨ (z = 1 ∧ c0 < 256)))) (by decide +kernel) (Nat.le_of_ble_eq_true rfl) ?_
  intro p e s m args below meth c A ls hx hb hml hr hlk hnm hC hLS hA hw hl
  have hC : cx D τ s m args RJ1 := hC
  have hl : lv_has ls 1 [(0, .int (iI c0))] := hl
  refine lv_iload_n hx hb dJ1_canEncode_9a6ad_0 rfl (lv_at hl 0 rfl) ?_
  refine r_if_lt (tgt := 15) hx hb dJ1_canEncode_9a6ad_1 (by decide) (by omega) (fun h => absurd h (by omega)) (fun _ => ?_)
  refine lv_iload_n hx hb dJ1_canEncode_9a6ad_4 rfl (lv_at hl 0 rfl) ?_
  refine r_sipush hx hb dJ1_canEncode_9a6ad_5 (by decide +kernel) ?_
  refine r_icmp_gt (tgt := 15) hx hb dJ1_canEncode_9a6ad_8 (by decide) (by omega) (by decide) (fun h => ?_) (fun h => ?_)
  · refine r_iconst hx hb dJ1_canEncode_9a6ad_15 ?_
    exact k_nret wq_0 (Rf := T0) (M0 := m0) (z := 0) hx hb hr rfl hlk hw trivial (by decide) (Or.inl ⟨rfl, by omega⟩) dJ1_canEncode_9a6ad_16
  · refine r_iconst hx hb dJ1_canEncode_9a6ad_11 ?_
    refine lv_goto (tgt := 16) hx hb dJ1_canEncode_9a6ad_12 (by decide) ?_
    exact k_nret wq_0 (Rf := T0) (M0 := m0) (z := 1) hx hb hr rfl hlk hw trivial (by decide) (Or.inr ⟨rfl, by omega⟩) dJ1_canEncode_9a6ad_16
theorem ixF_R (c : Int) : ∀ (l : List Int) (k : Int), 0 ≤ k → l.length + k ≤ 100000 → -1 ≤ ixF c l k ∧ ixF c l k ≤ 100000 := by
  intro l
  induction l with
  | nil => intro k h0 h1; exact ⟨by simp [ixF], by simp [ixF]⟩
  | cons b l ih =>
    intro k h0 h1
    have h2 : (l.length : Int) + 1 + k ≤ 100000 := by simpa using h1
    unfold ixF
    by_cases hc : b = c
    · rw [if_pos hc]; omega
    · rw [if_neg hc]
      exact ih (k + 1) (by omega) (by omega)
theorem ixF_no {c : Int} : ∀ (l : List Int) (k : Int), (∀ b ∈ l, b ≠ c) → ixF c l k = -1 := by
  intro l
  induction l with
  | nil => intro k _; rfl
  | cons b l ih =>
    intro k h
    unfold ixF
    rw [if_neg (h b List.mem_cons_self)]
    exact ih (k + 1) (fun x hx => h x (List.mem_cons_of_mem _ hx))
theorem b8_id {c0 b : Int} (h0 : 0 ≤ c0) (h1 : c0 < 256) (g0 : 0 ≤ b) (g1 : b < 128) : b = b8I c0 ↔ b = c0 := by
  have h : ∀ q : Nat, q < 256 → (b8I q = if q < 128 then (q : Int) else (q : Int) - 256) := by decide +kernel
  obtain ⟨q, rfl⟩ := Int.eq_ofNat_of_zero_le h0
  rw [h q (by omega)]
  by_cases c : q < 128
  · rw [if_pos c]
  · rw [if_neg c]; omega
theorem s_ixChar (l : Launch) (D : va_G) (τ : Nat → ClassId) (sA sV : Nat → Nat) (sz sa sv : Nat) (bs : List Int) (c0 : Int) (h0 : 0 ≤ c0) (h1 : c0 < 256) : Met l yJ1_indexOfChar_4cfef (lw_w yJ1_indexOfChar_4cfef cJ1_indexOfChar_4cfef 6 (some .int)) (rmk 1 0 0) (tPc D τ sA sV (W0 m0) sz sa sv bs [.ref sv, .int (iI c0), .int (iI 0), .int (iI bs.length)]) (gQi D (EQi W0 T0 (fun z _ => z = ixS bs c0)) (va_A (W0 m0) sz)) 0 0 (va_A (W0 m0) sz) := by
  refine t_met (ret := some .int) (Qc := gQi D (EQi W0 T0 (fun z _ => z = ixS bs c0))) (by decide +kernel) (Nat.le_of_ble_eq_true rfl) ?_
  intro p e s m args below meth c A ls hx hb hml hr hlk hnm hC hLS hST hA hw hl
  have hC : cx D τ s m args RJ1 := hC
  have hl : lv_has ls 6 [(0, .ref sv), (1, .int (iI c0)), (2, .int (iI 0)), (3, .int (iI bs.length))] := hl
  have hn := hST.2.2.2.2.2
  refine lv_iload_n hx hb dJ1_indexOfChar_4cfef_0 rfl (lv_at hl 1 rfl) ?_
  refine r_i2bF hx hb dJ1_indexOfChar_4cfef_1 (fun x e1 g1 => ?_)
  refine lv_istore (lv' := [(4, .int (iI x)), (0, .ref sv), (1, .int (iI c0)), (2, .int (iI 0)), (3, .int (iI bs.length))]) hx hb dJ1_indexOfChar_4cfef_2 hl (by decide) rfl (fun ls hl => ?_)
  refine lv_iload_n hx hb dJ1_indexOfChar_4cfef_4 rfl (lv_at hl 3 rfl) ?_
  refine lv_istore (lv' := [(5, .int (iI 0)), (4, .int (iI x)), (0, .ref sv), (1, .int (iI c0)), (2, .int (iI 0)), (3, .int (iI bs.length))]) hx hb dJ1_indexOfChar_4cfef_5 hl (by decide) rfl (fun ls hl => ?_)
  have L : ∀ (q : List Int) (k : Int) (H : Heap) (locs : List Loc) (ls : Array Slot), 0 ≤ k → bs.drop k.toNat = q → q.length + k = bs.length → wS D A s.heap (W0 m0) H locs → lv_has ls 6 [(5, .int (iI k)), (4, .int (iI x)), (0, .ref sv), (1, .int (iI c0)), (2, .int (iI 0)), (3, .int (iI bs.length))] → iR (ixF c0 q k) → ixF c0 q k = ixS bs c0 → W p l e (rmk 1 0 0) s m args below meth c H locs 0 0 (MQ below (gQi D (EQi W0 T0 (fun z _ => z = ixS bs c0)) A) args s 0 0 A) (F0 m 7 ls []) := by
    intro q
    induction q with
    | nil =>
      intro k H locs ls hk hd hlen hw hl hR hix
      have hlen : k = bs.length := by simpa using hlen
      refine lv_iload hx hb dJ1_indexOfChar_4cfef_7 (lv_at hl 0 rfl) ?_
      refine lv_iload_n hx hb dJ1_indexOfChar_4cfef_9 rfl (lv_at hl 5 rfl) ?_
      refine r_icmp_ge (tgt := 31) hx hb dJ1_indexOfChar_4cfef_10 (by decide) (by omega) (by omega) (fun _ => ?_) (fun h => absurd (show (bs.length : Int) ≤ k by omega) h)
      refine r_iconst hx hb dJ1_indexOfChar_4cfef_31 ?_
      exact k_nret wq_0 (Rf := T0) (M0 := m0) (z := -1) hx hb hr rfl hlk hw trivial (by decide) hix dJ1_indexOfChar_4cfef_32
    | cons b q ih =>
      intro k H locs ls hk hd hlen hw hl hR hix
      have hlen : (q.length : Int) + 1 + k = bs.length := by simpa using hlen
      have hkl : k.toNat < bs.length := by omega
      have hd2 := List.drop_eq_getElem_cons hkl
      rw [hd] at hd2
      have hb0 : b = bs[k.toNat] := (List.cons.inj hd2).1
      have hq0 : bs.drop (k.toNat + 1) = q := (List.cons.inj hd2).2.symm
      have hgd : bs.getD k.toNat 0 = b := by rw [List.getD_eq_getElem?_getD, List.getElem?_eq_getElem hkl, hb0]; rfl
      have hby := hST.byt hkl
      rw [hgd] at hby
      refine lv_iload hx hb dJ1_indexOfChar_4cfef_7 (lv_at hl 0 rfl) ?_
      refine lv_iload_n hx hb dJ1_indexOfChar_4cfef_9 rfl (lv_at hl 5 rfl) ?_
      refine r_icmp_ge (tgt := 31) hx hb dJ1_indexOfChar_4cfef_10 (by decide) (by omega) (by omega) (fun h => absurd h (by omega)) (fun _ => ?_)
      refine lv_aload_n hx hb dJ1_indexOfChar_4cfef_13 rfl (lv_at hl 2 rfl) ?_
      refine lv_iload hx hb dJ1_indexOfChar_4cfef_14 (lv_at hl 0 rfl) ?_
      refine va_tb (v := .int (iI b)) hx hb hST.2.2.2.1 hw.2.2 (iI_in hk (by omega) (by omega)) (by rw [iI_clamp ⟨by omega, by omega⟩, hgd]) dJ1_indexOfChar_4cfef_16 ?_
      refine lv_iload hx hb dJ1_indexOfChar_4cfef_17 (lv_at hl 1 rfl) ?_
      unfold ixF at hR hix
      refine r_icmp_ne (tgt := 25) hx hb dJ1_indexOfChar_4cfef_19 (by decide) (by omega) g1 (fun h => ?_) (fun h => ?_)
      · rw [e1, b8_id h0 h1 hby.1 hby.2] at h
        rw [if_neg h] at hR hix
        refine r_iinc (v := (k + 1)) (lv' := [(5, .int (iI (k + 1))), (4, .int (iI x)), (0, .ref sv), (1, .int (iI c0)), (2, .int (iI 0)), (3, .int (iI bs.length))]) hx hb dJ1_indexOfChar_4cfef_25 hl (k := 0) rfl rfl (by decide) rfl (fun ls hl => ?_)
        refine lv_goto (tgt := 7) hx hb dJ1_indexOfChar_4cfef_28 (by decide) ?_
        exact ih (k + 1) H locs ls (by omega) (by rw [show (k + 1).toNat = k.toNat + 1 by omega]; exact hq0) (by omega) hw hl hR hix
      · rw [e1, b8_id h0 h1 hby.1 hby.2] at h
        rw [if_pos h] at hR hix
        refine lv_iload hx hb dJ1_indexOfChar_4cfef_22 (lv_at hl 0 rfl) ?_
        exact k_nret wq_0 (Rf := T0) (M0 := m0) (z := k) hx hb hr rfl hlk hw trivial hR hix dJ1_indexOfChar_4cfef_24
  have hR := ixF_R c0 bs 0 (by omega) (by omega)
  exact L bs 0 _ _ _ (by omega) rfl (by omega) hw hl ⟨by omega, by omega⟩ rfl
theorem s_ix1 (l : Launch) (D : va_G) (τ : Nat → ClassId) (sA sV : Nat → Nat) (sz sa sv : Nat) (bs : List Int) (c0 : Int) (h0 : 0 ≤ c0) (h1 : c0 < 65536) : Met l yJ1_indexOf_4cfef (lw_w yJ1_indexOf_4cfef cJ1_indexOf_4cfef 4 (some .int)) (rmk 2 0 0) (tPc D τ sA sV (W0 m0) sz sa sv bs [.ref sv, .int (iI c0), .int (iI 0), .int (iI bs.length)]) (gQi D (EQi W0 T0 (fun z _ => z = ixS bs c0)) (va_A (W0 m0) sz)) 0 0 (va_A (W0 m0) sz) := by
  refine t_met (ret := some .int) (Qc := gQi D (EQi W0 T0 (fun z _ => z = ixS bs c0))) (by decide +kernel) (Nat.le_of_ble_eq_true rfl) ?_
  intro p e s m args below meth c A ls hx hb hml hr hlk hnm hC hLS hST hA hw hl
  have hC : cx D τ s m args RJ1 := hC
  have hl : lv_has ls 4 [(0, .ref sv), (1, .int (iI c0)), (2, .int (iI 0)), (3, .int (iI bs.length))] := hl
  have hn := hST.2.2.2.2.2
  have hby := hST.2.2.2.2.1
  refine lv_iload_n hx hb dJ1_indexOf_4cfef_0 rfl (lv_at hl 1 rfl) ?_
  refine j_cSi (Wf := W0) (Rf := T0) (M0 := m0) (As := [.int (iI c0)]) (rest := []) (wr := []) hx hb hml hC hLS hA hw hl.1 (s_canEnc l D τ sA sV _ c0 h0 h1) kJ1_canEncode_9a6ad ml_J1_88 [] [] rfl rfl rfl rfl (fun i h => absurd h List.not_mem_nil) rfl rfl (Nat.le_of_ble_eq_true rfl) (rm_ok (by decide) (by decide)) ⟨by decide, by decide⟩ rfl rfl dJ1_indexOf_4cfef_1 (fun z1 M1 H locs g1 _ e1 hw => ?_)
  refine r_if_ne (tgt := 9) hx hb dJ1_indexOf_4cfef_4 (by decide) g1 (fun h => ?_) (fun h => ?_)
  · have hc : c0 < 256 := by omega
    refine lv_iload_n hx hb dJ1_indexOf_4cfef_9 rfl (lv_at hl 2 rfl) ?_
    refine r_iconst hx hb dJ1_indexOf_4cfef_10 ?_
    refine r_mmaxF hx hb hml hC hl.1 ml_J1_92 sm_max in_J9 cd_max (by decide) (Nat.le_of_ble_eq_true rfl) (by decide) (by decide) (by decide) (by decide) dJ1_indexOf_4cfef_11 (fun x3 e3 g3 => ?_)
    obtain rfl : x3 = 0 := by omega
    refine lv_istore_n (lv' := [(2, .int (iI 0)), (0, .ref sv), (1, .int (iI c0)), (3, .int (iI bs.length))]) hx hb dJ1_indexOf_4cfef_14 rfl hl (by decide) rfl (fun ls hl => ?_)
    refine lv_iload_n hx hb dJ1_indexOf_4cfef_15 rfl (lv_at hl 3 rfl) ?_
    refine lv_aload_n hx hb dJ1_indexOf_4cfef_16 rfl (lv_at hl 1 rfl) ?_
    refine va_tlen (v := iI bs.length) hx hb hST.2.2.2.1 hw.2.2 rfl dJ1_indexOf_4cfef_17 ?_
    refine r_mminF hx hb hml hC hl.1 ml_J1_38 sm_min in_J9 cd_min (by decide) (Nat.le_of_ble_eq_true rfl) (by decide) (by decide) (by omega) (by omega) dJ1_indexOf_4cfef_18 (fun x4 e4 g4 => ?_)
    obtain rfl : x4 = bs.length := by omega
    refine lv_istore_n (lv' := [(3, .int (iI bs.length)), (2, .int (iI 0)), (0, .ref sv), (1, .int (iI c0))]) hx hb dJ1_indexOf_4cfef_21 rfl hl (by decide) rfl (fun ls hl => ?_)
    refine lv_iload_n hx hb dJ1_indexOf_4cfef_22 rfl (lv_at hl 1 rfl) ?_
    refine lv_iload_n hx hb dJ1_indexOf_4cfef_23 rfl (lv_at hl 0 rfl) ?_
    refine r_icmp_lt (tgt := 29) hx hb dJ1_indexOf_4cfef_24 (by decide) (by decide) (by omega) (fun h => ?_) (fun h => ?_)
    · refine lv_aload_n hx hb dJ1_indexOf_4cfef_29 rfl (lv_at hl 2 rfl) ?_
      refine lv_iload_n hx hb dJ1_indexOf_4cfef_30 rfl (lv_at hl 3 rfl) ?_
      refine lv_iload_n hx hb dJ1_indexOf_4cfef_31 rfl (lv_at hl 1 rfl) ?_
      refine lv_iload_n hx hb dJ1_indexOf_4cfef_32 rfl (lv_at hl 0 rfl) ?_
      refine t_cSi (Wf := W0) (Rf := T0) (M0 := m0) (As := [.ref sv, .int (iI c0), .int (iI 0), .int (iI bs.length)]) (rest := []) (wr := []) hx hb hml hC hLS hA hw hl.1 (hST.down hA hw [] rfl) (s_ixChar l D τ sA sV _ sa sv bs c0 h0 hc) kJ1_indexOfChar_4cfef ml_J1_95 [] [] rfl rfl rfl rfl (fun i h => absurd h List.not_mem_nil) rfl rfl (Nat.le_of_ble_eq_true rfl) (rm_ok (by decide) (by decide)) ⟨by decide, by decide⟩ rfl rfl dJ1_indexOf_4cfef_33 (fun z5 M5 H locs g5 _ e5 hw => ?_)
      exact k_nret wq_0 (Rf := T0) (M0 := m0) (z := z5) hx hb hr rfl hlk hw trivial g5 e5 dJ1_indexOf_4cfef_36
    · refine r_iconst hx hb dJ1_indexOf_4cfef_27 ?_
      have hz : bs = [] := List.length_eq_zero_iff.mp (by omega)
      exact k_nret wq_0 (Rf := T0) (M0 := m0) (z := -1) hx hb hr rfl hlk hw trivial (by decide) (by rw [hz]; rfl) dJ1_indexOf_4cfef_28
  · refine r_iconst hx hb dJ1_indexOf_4cfef_7 ?_
    exact k_nret wq_0 (Rf := T0) (M0 := m0) (z := -1) hx hb hr rfl hlk hw trivial (by decide) (ixF_no bs 0 (fun b hb0 hq => by have := hby b hb0; omega)).symm dJ1_indexOf_4cfef_8
theorem s_ix2 (l : Launch) (D : va_G) (τ : Nat → ClassId) (sA sV : Nat → Nat) (sz sa sv : Nat) (bs : List Int) (c0 : Int) (h0 : 0 ≤ c0) (h1 : c0 < 65536) : Met l yJ0_indexOf_7cf53 (lw_w yJ0_indexOf_7cf53 cJ0_indexOf_7cf53 3 (some .int)) (rmk 3 0 0) (tPc D τ sA sV (W0 m0) sz sa sv bs [.ref sa, .int (iI c0), .int (iI 0)]) (gQi D (EQi W0 T0 (fun z _ => z = ixS bs c0)) (va_A (W0 m0) sz)) 0 0 (va_A (W0 m0) sz) := by
  refine t_met (ret := some .int) (Qc := gQi D (EQi W0 T0 (fun z _ => z = ixS bs c0))) (by decide +kernel) (Nat.le_of_ble_eq_true rfl) ?_
  intro p e s m args below meth c A ls hx hb hml hr hlk hnm hC hLS hST hA hw hl
  have hC : cx D τ s m args RJ0 := hC
  have hl : lv_has ls 3 [(0, .ref sa), (1, .int (iI c0)), (2, .int (iI 0))] := hl
  refine lv_aload_n hx hb dJ0_indexOf_7cf53_0 rfl (lv_at hl 0 rfl) ?_
  refine t_cVi0 wq_0 (As := []) (rest := []) hx hb hml hC hLS hA hw hl.1 hST rfl (s_latin l D τ sA sV _ sa sv bs) kJ0_isLatin1_aae02 ml_J0_492 rfl rfl (Nat.le_of_ble_eq_true rfl) (rm_ok (by decide) (by decide)) ⟨by decide, by decide⟩ dJ0_indexOf_7cf53_1 (fun z1 H locs hz1 hE1 hw => ?_)
  subst hE1
  refine r_if_eq (tgt := 23) hx hb dJ0_indexOf_7cf53_4 (by decide) (by decide) (fun h => absurd h (by decide)) (fun _ => ?_)
  refine lv_aload_n hx hb dJ0_indexOf_7cf53_7 rfl (lv_at hl 0 rfl) ?_
  refine vk_getf hx hb hST.2.2.1 hw.2.2 hC.2.1 (hC.1 _ fl_J0_9) (fun _ h => h) dJ0_indexOf_7cf53_8 ?_
  refine lv_iload_n hx hb dJ0_indexOf_7cf53_11 rfl (lv_at hl 1 rfl) ?_
  refine lv_iload_n hx hb dJ0_indexOf_7cf53_12 rfl (lv_at hl 2 rfl) ?_
  refine lv_aload_n hx hb dJ0_indexOf_7cf53_13 rfl (lv_at hl 0 rfl) ?_
  refine t_cVi0 wq_0 (As := []) (rest := [.int (iI 0), .int (iI c0), .ref sv]) hx hb hml hC hLS hA hw hl.1 hST rfl (s_length l D τ sA sV _ sa sv bs) kJ0_length_8abf5 ml_J0_505 rfl rfl (Nat.le_of_ble_eq_true rfl) (rm_ok (by decide) (by decide)) ⟨by decide, by decide⟩ dJ0_indexOf_7cf53_14 (fun z2 H locs hz2 hE2 hw => ?_)
  subst hE2
  refine t_cSi (Wf := W0) (Rf := T0) (M0 := m0) (As := [.ref sv, .int (iI c0), .int (iI 0), .int (iI bs.length)]) (rest := []) (wr := []) hx hb hml hC hLS hA hw hl.1 (hST.down hA hw [] rfl) (s_ix1 l D τ sA sV _ sa sv bs c0 h0 h1) kJ1_indexOf_4cfef ml_J0_637 [] [] rfl rfl rfl rfl (fun i h => absurd h List.not_mem_nil) rfl rfl (Nat.le_of_ble_eq_true rfl) (rm_ok (by decide) (by decide)) ⟨by decide, by decide⟩ rfl rfl dJ0_indexOf_7cf53_17 (fun z5 M5 H locs g5 _ e5 hw => ?_)
  refine lv_goto (tgt := 36) hx hb dJ0_indexOf_7cf53_20 (by decide) ?_
  exact k_nret wq_0 (Rf := T0) (M0 := m0) (z := z5) hx hb hr rfl hlk hw trivial g5 e5 dJ0_indexOf_7cf53_36
theorem s_indexOf (l : Launch) (D : va_G) (τ : Nat → ClassId) (sA sV : Nat → Nat) (sz sa sv : Nat) (bs : List Int) (c0 : Int) (h0 : 0 ≤ c0) (h1 : c0 < 65536) : Met l yJ0_indexOf_0f7a4 (lw_w yJ0_indexOf_0f7a4 cJ0_indexOf_0f7a4 2 (some .int)) (rmk 4 0 0) (tPc D τ sA sV (W0 m0) sz sa sv bs [.ref sa, .int (iI c0)]) (gQi D (EQi W0 T0 (fun z _ => z = ixS bs c0)) (va_A (W0 m0) sz)) 0 0 (va_A (W0 m0) sz) := by
  refine t_met (ret := some .int) (Qc := gQi D (EQi W0 T0 (fun z _ => z = ixS bs c0))) (by decide +kernel) (Nat.le_of_ble_eq_true rfl) ?_
  intro p e s m args below meth c A ls hx hb hml hr hlk hnm hC hLS hST hA hw hl
  have hC : cx D τ s m args RJ0 := hC
  have hl : lv_has ls 2 [(0, .ref sa), (1, .int (iI c0))] := hl
  refine lv_aload_n hx hb dJ0_indexOf_0f7a4_0 rfl (lv_at hl 0 rfl) ?_
  refine lv_iload_n hx hb dJ0_indexOf_0f7a4_1 rfl (lv_at hl 1 rfl) ?_
  refine r_iconst hx hb dJ0_indexOf_0f7a4_2 ?_
  refine t_cVi0 wq_0 (As := [.int (iI c0), .int (iI 0)]) (rest := []) hx hb hml hC hLS hA hw hl.1 hST rfl (s_ix2 l D τ sA sV _ sa sv bs c0 h0 h1) kJ0_indexOf_7cf53 ml_J0_633 rfl rfl (Nat.le_of_ble_eq_true rfl) (rm_ok (by decide) (by decide)) ⟨by decide, by decide⟩ dJ0_indexOf_0f7a4_3 (fun z1 H locs hz1 hE1 hw => ?_)
  exact k_nret wq_0 (Rf := T0) (M0 := m0) (z := z1) hx hb hr rfl hlk hw trivial hz1 hE1 dJ0_indexOf_0f7a4_6
section RT2
variable {p : Program} {l : Launch} {e : Env} {R : Room} {s : State} {m : MethodId} {args : Array Value} {below : List Frame} {meth : Method} {c : Code} {H : Heap} {locs : List Loc} {cells slots : Nat} {Q : State → Prop}
variable {cc : ByteArray} {pc : Nat} {ls : Array Slot} {rest st0 : List Value} {D : va_G} {A : Nat → Prop} {a : Nat} {τ : Nat → ClassId} {own : String} {sA sV : Nat → Nat} {index nL : Nat} {Wf : Mem → va_W} {M0 : Mem}
theorem k_indexOf (hWQ : WQ Wf) (hx : p.tables.exec = Jvm.exec) (hb : c.code = cc) (hml : c.maxLocals = nL) (hC : cx D τ s m args own) (hLS : LK A s s.heap sA sV) (hA : ∀ q, s.heap.size ≤ q → A q) (hw : wS D A s.heap (Wf M0) H locs) (hl : ls.size = nL) {sa sv : Nat} {bs : List Int} (hST : ST A s s.heap sa sv bs) {c0 : Int} (h0 : 0 ≤ c0) (h1 : c0 < 65536) (hlk : Cond.methodLink own index yJ0_indexOf_0f7a4 ∈ lw_good) (hcat : (rest.map fun v => v.category).sum ≤ 8) (hroom : 5 ≤ R.frames ∧ 8 + (2 + 11) + 64 * 4 ≤ R.locals) (hcs : cells ≤ R.cells ∧ slots ≤ R.slots) (hd : decode cc pc = .ok (.invokevirtual index, 3)) (kk : ∀ (z : Int) (H : Heap) (locs : List Loc), z = ixS bs c0 → iR z → wS D A s.heap (Wf M0) H locs → W p l e R s m args below meth c H locs cells slots Q (F0 m (pc + 3) ls (.int (iI z) :: rest))) : W p l e R s m args below meth c H locs cells slots Q (F0 m pc ls (.int (iI c0) :: .ref sa :: rest)) :=
  t_cVi0 hWQ (As := [.int (iI c0)]) hx hb hml hC hLS hA hw hl hST rfl (s_indexOf l D τ sA sV _ sa sv bs c0 h0 h1) kJ0_indexOf_0f7a4 hlk rfl rfl hcat hroom hcs hd (fun z H locs g e hw => kk z H locs e g hw)
theorem k_length (hWQ : WQ Wf) (hx : p.tables.exec = Jvm.exec) (hb : c.code = cc) (hml : c.maxLocals = nL) (hC : cx D τ s m args own) (hLS : LK A s s.heap sA sV) (hA : ∀ q, s.heap.size ≤ q → A q) (hw : wS D A s.heap (Wf M0) H locs) (hl : ls.size = nL) {sa sv : Nat} {bs : List Int} (hST : ST A s s.heap sa sv bs) (hlk : Cond.methodLink own index yJ0_length_8abf5 ∈ lw_good) (hcat : (rest.map fun v => v.category).sum ≤ 8) (hroom : 3 ≤ R.frames ∧ 8 + (1 + 11) + 64 * 2 ≤ R.locals) (hcs : cells ≤ R.cells ∧ slots ≤ R.slots) (hd : decode cc pc = .ok (.invokevirtual index, 3)) (kk : ∀ (z : Int) (H : Heap) (locs : List Loc), z = bs.length → iR z → wS D A s.heap (Wf M0) H locs → W p l e R s m args below meth c H locs cells slots Q (F0 m (pc + 3) ls (.int (iI z) :: rest))) : W p l e R s m args below meth c H locs cells slots Q (F0 m pc ls (.ref sa :: rest)) :=
  t_cVi0 hWQ (As := []) hx hb hml hC hLS hA hw hl hST rfl (s_length l D τ sA sV _ sa sv bs) kJ0_length_8abf5 hlk rfl rfl hcat hroom hcs hd (fun z H locs g e hw => kk z H locs e g hw)
theorem k_charAt (hWQ : WQ Wf) (hx : p.tables.exec = Jvm.exec) (hb : c.code = cc) (hml : c.maxLocals = nL) (hC : cx D τ s m args own) (hLS : LK A s s.heap sA sV) (hA : ∀ q, s.heap.size ≤ q → A q) (hw : wS D A s.heap (Wf M0) H locs) (hl : ls.size = nL) {sa sv : Nat} {bs : List Int} (hST : ST A s s.heap sa sv bs) {k : Int} (h0 : 0 ≤ k) (h1 : k < bs.length) (hlk : Cond.methodLink own index yJ0_charAt_5068e ∈ lw_good) (hcat : (rest.map fun v => v.category).sum ≤ 8) (hroom : 5 ≤ R.frames ∧ 8 + (2 + 11) + 64 * 4 ≤ R.locals) (hcs : cells ≤ R.cells ∧ slots ≤ R.slots) (hd : decode cc pc = .ok (.invokevirtual index, 3)) (kk : ∀ (z : Int) (H : Heap) (locs : List Loc), z = bs.getD k.toNat 0 → iR z → wS D A s.heap (Wf M0) H locs → W p l e R s m args below meth c H locs cells slots Q (F0 m (pc + 3) ls (.int (iI z) :: rest))) : W p l e R s m args below meth c H locs cells slots Q (F0 m pc ls (.int (iI k) :: .ref sa :: rest)) :=
  t_cVi0 hWQ (As := [.int (iI k)]) hx hb hml hC hLS hA hw hl hST rfl (s_charAt l D τ sA sV _ sa sv bs k h0 h1) kJ0_charAt_5068e hlk rfl rfl hcat hroom hcs hd (fun z H locs g e hw => kk z H locs e g hw)
theorem k_ldcwS (hx : p.tables.exec = Jvm.exec) (hb : c.code = cc) {tx : String} {q : Nat} (hown : s.vm.findClass own = some m.cls) (hZ : vk_R own index tx q s) (hdg : decode cc pc = .ok (.ldc_w index, 3)) (k : W p l e R s m args below meth c H locs cells slots Q (F0 m (pc + 3) ls (.ref q :: rest))) : W p l e R s m args below meth c H locs cells slots Q (F0 m pc ls rest) := by
  intro T hT X
  obtain ⟨t, a1, b1⟩ := k T hT X
  exact ⟨t, Stand.ldcStringW X hx hown (text := tx) (a := q) hZ.1 hZ.2 (g := F0 m pc ls rest) rfl (by rw [hb]; exact hdg) t a1, b1⟩
theorem k_tcViH (hWQ : WQ Wf) (hx : p.tables.exec = Jvm.exec) (hb : c.code = cc) (hml : c.maxLocals = nL) (hC : cx D τ s m args own) (hLS : LK A s s.heap sA sV) (hA : ∀ q, s.heap.size ≤ q → A q) (hw : wS D A s.heap (Wf M0) H locs) (hl : ls.size = nL) {Rf : Mem → Prop} {Q1 : Int → Mem → Prop} {sa sv : Nat} {bs : List Int} (hST : ST (va_A (Wf M0) H.size) s H sa sv bs) {y : MethodName} {b : ByteArray} {mL n lev : Nat} {ret : Option FieldType} {As : List Value} {st0 : List Value} (M : Met l y (lw_w y b mL ret) (rmk lev 0 0) (tPc D τ sA sV (Wf M0) H.size sa sv bs (.ref a :: As)) (gQi D (EQi Wf Rf Q1) (va_A (Wf M0) H.size)) 0 0 (va_A (Wf M0) H.size)) (K : KV y b mL ret n) (hlk : Cond.methodLink own index y ∈ lw_good) {q0 ci : Nat} {fs : List Value} {T : u_T} {N : Nat} (hci : vwCl[ci]? = some (y.cls, T, N)) (hq0 : (Wf M0)[q0]? = some (a, .inr (ci, fs))) (hst : st0 = As.reverse ++ .ref a :: rest) (hn : As.length = n) (hcat : (rest.map fun v => v.category).sum ≤ 8) (hroom : lev + 1 ≤ R.frames ∧ 8 + (mL + 11) + 64 * lev ≤ R.locals) (hcs : cells ≤ R.cells ∧ slots ≤ R.slots) (hd : decode cc pc = .ok (.invokevirtual index, 3)) (kk : ∀ (z : Int) (M : Mem) (H : Heap) (locs : List Loc), iR z → Rf M → Q1 z M → wS D A s.heap (Wf M) H locs → W p l e R s m args below meth c H locs cells slots Q (F0 m (pc + 3) ls (.int (iI z) :: rest))) : W p l e R s m args below meth c H locs cells slots Q (F0 m pc ls st0) := by
  obtain ⟨N, hN, hnd⟩ := hWQ
  have hp := pick_all (Wf M0)
  rw [hN] at hp
  exact t_cVi (wr := []) hx hb hml hC hLS hA hw hl hST M K hlk (List.range N) [] hp rfl hnd rfl (fun i h => absurd h List.not_mem_nil) (va_recv hC.2.2.1 hw.1 hci hq0) hst hn hcat hroom hcs rfl rfl hd kk
theorem k_tcVi (hWQ : WQ Wf) (hx : p.tables.exec = Jvm.exec) (hb : c.code = cc) (hml : c.maxLocals = nL) (hC : cx D τ s m args own) (hLS : LK A s s.heap sA sV) (hA : ∀ q, s.heap.size ≤ q → A q) (hw : wS D A s.heap (Wf M0) H locs) (hl : ls.size = nL) {sa sv : Nat} {bs : List Int} (hST : ST A s s.heap sa sv bs) {Rf : Mem → Prop} {Q1 : Int → Mem → Prop} {y : MethodName} {b : ByteArray} {mL n lev : Nat} {ret : Option FieldType} {As : List Value} {st0 : List Value} (M : Met l y (lw_w y b mL ret) (rmk lev 0 0) (tPc D τ sA sV (Wf M0) H.size sa sv bs (.ref a :: As)) (gQi D (EQi Wf Rf Q1) (va_A (Wf M0) H.size)) 0 0 (va_A (Wf M0) H.size)) (K : KV y b mL ret n) (hlk : Cond.methodLink own index y ∈ lw_good) {q0 ci : Nat} {fs : List Value} {T : u_T} {N : Nat} (hci : vwCl[ci]? = some (y.cls, T, N)) (hq0 : (Wf M0)[q0]? = some (a, .inr (ci, fs))) (hst : st0 = As.reverse ++ .ref a :: rest) (hn : As.length = n) (hcat : (rest.map fun v => v.category).sum ≤ 8) (hroom : lev + 1 ≤ R.frames ∧ 8 + (mL + 11) + 64 * lev ≤ R.locals) (hcs : cells ≤ R.cells ∧ slots ≤ R.slots) (hd : decode cc pc = .ok (.invokevirtual index, 3)) (kk : ∀ (z : Int) (M : Mem) (H : Heap) (locs : List Loc), iR z → Rf M → Q1 z M → wS D A s.heap (Wf M) H locs → W p l e R s m args below meth c H locs cells slots Q (F0 m (pc + 3) ls (.int (iI z) :: rest))) : W p l e R s m args below meth c H locs cells slots Q (F0 m pc ls st0) := by
  have hWQ' := hWQ
  obtain ⟨N', hN', hnd'⟩ := hWQ'
  have hp := pick_all (Wf M0)
  rw [hN'] at hp
  exact k_tcViH hWQ hx hb hml hC hLS hA hw hl (hST.down hA hw (List.range N') hp) M K hlk hci hq0 hst hn hcat hroom hcs hd kk
end RT2
end
section
/-! STRC: substring: a String newly made out of the first bytes of one that is there -/
theorem va_nd_range (n : Nat) : va_nd (List.range n) = true := by
  have h : ∀ l : List Nat, l.Nodup → va_nd l = true := by
    intro l
    induction l with
    | nil => intro _; rfl
    | cons a l ih =>
      intro h
      have h2 := List.nodup_cons.mp h
      unfold va_nd
      rw [ih h2.2]
      simp [h2.1]
  exact h _ List.nodup_range
def gQr (D : va_G) (E : Nat → State → va_W → Prop) (A : Nat → Prop) : Array Value → State → Outcome → State → Prop := va_Qr (fun _ : Unit => True) (fun _ a t => gW D A (E a t) t) A
theorem t_metE {l : Launch} {y : MethodName} {b : ByteArray} {mL k mc ms sz : Nat} {sa sv : Nat} {bs : List Int} {ret : Option FieldType} {D : va_G} {τ : Nat → ClassId} {sA sV : Nat → Nat} {wc : va_W} {As : List Value} {Qc : (Nat → Prop) → Array Value → State → Outcome → State → Prop} (hpl : plainFor y = true) (hn : (lg_sl As).length ≤ mL)
    (body : ∀ (p : Program) (e : Env) (s : State) (m : MethodId) (args : Array Value) (below : List Frame) (meth : Method) (c : Code) (ls : Array Slot), s.heap.size = sz → p.tables.exec = Jvm.exec → c.code = b → c.maxLocals = mL → meth.sig.returnType = ret → meth.locks = false → meth.name = y.name → cx D τ s m args y.cls → LK (va_A wc s.heap.size) s s.heap sA sV → ST (va_A wc s.heap.size) s s.heap sa sv bs → (∀ q : Nat, s.heap.size ≤ q → va_A wc s.heap.size q) → wS D (va_A wc s.heap.size) s.heap wc s.heap [] → lv_has ls mL (lv_args 0 As) →
      W p l e (rmk k mc ms) s m args below meth c s.heap [] 0 0 (MQ below (Qc (va_A wc s.heap.size)) args s mc ms (va_A wc s.heap.size)) (F0 m 0 ls [])) :
    Met l y (lw_w y b mL ret) (rmk k mc ms) (tPc D τ sA sV wc sz sa sv bs As) (Qc (va_A wc sz)) mc ms (va_A wc sz) := by
  refine va_MetF (cc := b) (maxL := mL) (ret := ret) hpl rfl ?_
  intro p e s m args below meth c s₁ B hml hv
  obtain ⟨rfl, ⟨⟨hsz, hP, hK, hD0⟩, hLS⟩, hST⟩ := hv
  have hts := atoms_spec (ws := lw_w y b mL ret) B.pre
  have hown : s.vm.findClass y.cls = some m.cls := findClass_of_methodNamed B.named
  subst hsz
  have hl := lv_entry As (n := mL) hn
  rw [lg_entry_eq]
  exact body p e s m _ below meth c _ rfl B.exec B.bytes hml B.returns B.notSynchronized (name_of_methodNamed B.named B.method).1 ⟨fun w hw => hts w (List.mem_cons_of_mem _ hw), hown, hK.1, hK.2⟩ hLS hST (fun q h => Or.inr h) ⟨hP, hD0.self, va_S.rf⟩ hl
section RR
variable {p : Program} {l : Launch} {e : Env} {R : Room} {s : State} {m : MethodId} {args : Array Value} {below : List Frame} {meth : Method} {c : Code} {H : Heap} {locs : List Loc} {cells slots : Nat} {Q : State → Prop}
variable {cc : ByteArray} {pc : Nat} {ls : Array Slot} {rest st0 : List Value} {D : va_G} {A : Nat → Prop} {a : Nat} {ws wc wr : va_W} {H0 : Heap} {τ : Nat → ClassId} {own : String} {sA sV : Nat → Nat}
variable {y : MethodName} {b : ByteArray} {mL n lev mc ms index nL cells' slots' : Nat} {ret : Option FieldType} {As : List Value}
theorem t_cSr (hx : p.tables.exec = Jvm.exec) (hb : c.code = cc) (hml : c.maxLocals = nL) (hC : cx D τ s m args own) (hLS : LK A s s.heap sA sV) (hA : ∀ q, s.heap.size ≤ q → A q) (hw : wS D A s.heap ws H locs) (hl : ls.size = nL) {sa sv : Nat} {bs : List Int} (hST : ST (va_A [] H.size) s H sa sv bs) {E : Nat → State → va_W → Prop} (M : Met l y (lw_w y b mL ret) (rmk lev mc ms) (tPc D τ sA sV [] H.size sa sv bs As) (gQr D E (va_A [] H.size)) mc ms (va_A [] H.size)) (K : KS y b mL ret n) (hlk : Cond.methodLink own index y ∈ lw_good) (hst : st0 = As.reverse ++ rest) (hn : As.length = n) (hcat : (rest.map fun v => v.category).sum ≤ 8) (hroom : lev + 1 ≤ R.frames ∧ 8 + (mL + 11) + 64 * lev ≤ R.locals) (hcs : cells + mc ≤ R.cells ∧ slots + ms ≤ R.slots) (hc2 : cells + mc = cells') (hs2 : slots + ms = slots') (hd : decode cc pc = .ok (.invokestatic index, 3))
    (kk : ∀ (ra : Nat) (t : State) (w1 : va_W) (H1 : Heap) (locs1 : List Loc), t.heap = H1 → s.vm.Alike t.vm → E ra t w1 → H.size ≤ H1.size → (∀ q : Nat, q < H.size → H1[q]? = H[q]?) → wS D A s.heap (ws ++ w1) H1 locs1 → W p l e R s m args below meth c H1 locs1 cells' slots' Q (F0 m (pc + 3) ls (.ref ra :: rest))) : W p l e R s m args below meth c H locs cells slots Q (F0 m pc ls st0) := by
  have hF := va_free hw.2.1 hw.2.2 hA [] (wc := []) rfl
  have hp := pick_all ws
  have hnd : va_nd (List.range ws.length) = true := va_nd_range _
  refine va_callr (va_runS ⟨hx, hb, hml, hC.2.1, hC.1⟩ M (va_cwS n hC.1 (g_wsS K hlk) rfl rfl rfl K.2.2.2 hroom) ⟨tPc_blind, t_pre (isC := []) rfl hC hA hLS hw rfl rfl hST⟩ rfl hn hl hst (lv_room hcat) hd hcs) hw.2.2 (fun q _ h => hF q h) hF (fun u ra t H1 locs1 ht hvm _ hB hsz hk1 hS => ?_)
  obtain ⟨w1, hE, h1⟩ := g_behind (isC := []) hw hA rfl hp hnd (fun i _ h => absurd h List.not_mem_nil) ht hk1 hS hB
  subst hc2
  subst hs2
  exact kk ra t w1 H1 locs1 ht hvm hE hsz (fun q hq => hk1 q hq (fun h => by
    rcases h with ⟨k, e, h⟩ | h
    · exact absurd h (by simp)
    · omega)) h1
theorem t_cVr (hx : p.tables.exec = Jvm.exec) (hb : c.code = cc) (hml : c.maxLocals = nL) (hC : cx D τ s m args own) (hLS : LK A s s.heap sA sV) (hA : ∀ q, s.heap.size ≤ q → A q) (hw : wS D A s.heap ws H locs) (hl : ls.size = nL) {sa sv : Nat} {bs : List Int} (hST : ST (va_A [] H.size) s H sa sv bs) {E : Nat → State → va_W → Prop} (M : Met l y (lw_w y b mL ret) (rmk lev mc ms) (tPc D τ sA sV [] H.size sa sv bs (.ref a :: As)) (gQr D E (va_A [] H.size)) mc ms (va_A [] H.size)) (K : KV y b mL ret n) (hlk : Cond.methodLink own index y ∈ lw_good) (hrv : ∃ cell : Cell, H[a]? = some cell ∧ cell.vm.isStatics = false ∧ s.vm.findClass y.cls = some cell.cls) (hst : st0 = As.reverse ++ .ref a :: rest) (hn : As.length = n) (hcat : (rest.map fun v => v.category).sum ≤ 8) (hroom : lev + 1 ≤ R.frames ∧ 8 + (mL + 11) + 64 * lev ≤ R.locals) (hcs : cells + mc ≤ R.cells ∧ slots + ms ≤ R.slots) (hc2 : cells + mc = cells') (hs2 : slots + ms = slots') (hd : decode cc pc = .ok (.invokevirtual index, 3))
    (kk : ∀ (ra : Nat) (t : State) (w1 : va_W) (H1 : Heap) (locs1 : List Loc), t.heap = H1 → s.vm.Alike t.vm → E ra t w1 → H.size ≤ H1.size → (∀ q : Nat, q < H.size → H1[q]? = H[q]?) → wS D A s.heap (ws ++ w1) H1 locs1 → W p l e R s m args below meth c H1 locs1 cells' slots' Q (F0 m (pc + 3) ls (.ref ra :: rest))) : W p l e R s m args below meth c H locs cells slots Q (F0 m pc ls st0) := by
  have hF := va_free hw.2.1 hw.2.2 hA [] (wc := []) rfl
  have hp := pick_all ws
  have hnd : va_nd (List.range ws.length) = true := va_nd_range _
  refine va_callr (va_runV ⟨hx, hb, hml, hC.2.1, hC.1⟩ M (cwV n hC.1 (g_wsV K hlk) rfl rfl rfl ⟨rfl, K.2.2.2⟩ hroom) ⟨tPc_blind, hrv, t_pre (isC := []) rfl hC hA hLS hw rfl rfl hST⟩ rfl hn hl hst (lv_room hcat) hd hcs) hw.2.2 (fun q _ h => hF q h) hF (fun u ra t H1 locs1 ht hvm _ hB hsz hk1 hS => ?_)
  obtain ⟨w1, hE, h1⟩ := g_behind (isC := []) hw hA rfl hp hnd (fun i _ h => absurd h List.not_mem_nil) ht hk1 hS hB
  subst hc2
  subst hs2
  exact kk ra t w1 H1 locs1 ht hvm hE hsz (fun q hq => hk1 q hq (fun h => by
    rcases h with ⟨k, e, h⟩ | h
    · exact absurd h (by simp)
    · omega)) h1
theorem k_aret (hx : p.tables.exec = Jvm.exec) (hb : c.code = cc) {rt : FieldType} (hr : meth.sig.returnType = some rt) (hrt : (∃ n, rt = .object n) ∨ ∃ t, rt = .array t) (hlk : meth.locks = false) (hw : wS D A s.heap ws H locs) {E : Nat → State → va_W → Prop} (w1 : va_W) (is : List Nat) (hpick : is.map (fun i => ws[i]?) = w1.map some) (hnd : va_nd is = true) (hE : ∀ t : State, t.heap = H → s.WarmedH t.vm → E a t w1) (hd : decode cc pc = .ok (.areturn, 1)) : W p l e R s m args below meth c H locs cells slots (MQ below (gQr D E A) args s cells slots A) (F0 m pc ls [.ref a]) :=
  W.aret hx hb hr hrt (Or.inr ⟨a, rfl⟩) (fun t ht hW => ⟨⟨(), a, rfl, trivial, w1, hE t ht hW, by rw [ht]; exact P_pick hw.1 hpick, hw.2.1.sub is hnd hpick⟩, hw.2.2.F ht⟩) hw.2.2.2.2 hd hlk
end RR
theorem s_ft3N (l : Launch) (D : va_G) (τ : Nat → ClassId) (sA sV : Nat → Nat) (sz : Nat) (k n : Int) (h0 : 0 ≤ k) (h1 : k ≤ n) (h2 : n ≤ 2147483647) : Met l yJ3_checkFromToIndex_8c36e (lw_w yJ3_checkFromToIndex_8c36e cJ3_checkFromToIndex_8c36e 4 (some .int)) (rmk 1 0 0) (kPc D τ sA sV (W0 m0) sz [.int (iI 0), .int (iI k), .int (iI n), .null]) (gQi D (EQi W0 T0 (fun z _ => z = 0)) (va_A (W0 m0) sz)) 0 0 (va_A (W0 m0) sz) := by
  refine k_met (ret := some .int) (Qc := gQi D (EQi W0 T0 (fun z _ => z = 0))) (by decide +kernel) (Nat.le_of_ble_eq_true rfl) ?_
  intro p e s m args below meth c A ls hx hb hml hr hlk hnm hC hLS hA hw hl
  have hC : cx D τ s m args RJ3 := hC
  have hl : lv_has ls 4 [(0, .int (iI 0)), (1, .int (iI k)), (2, .int (iI n)), (3, .null)] := hl
  refine lv_iload_n hx hb dJ3_checkFromToIndex_8c36e_0 rfl (lv_at hl 0 rfl) ?_
  refine r_if_lt (tgt := 14) hx hb dJ3_checkFromToIndex_8c36e_1 (by decide) (by omega) (fun h => absurd h (by omega)) (fun _ => ?_)
  refine lv_iload_n hx hb dJ3_checkFromToIndex_8c36e_4 rfl (lv_at hl 0 rfl) ?_
  refine lv_iload_n hx hb dJ3_checkFromToIndex_8c36e_5 rfl (lv_at hl 1 rfl) ?_
  refine r_icmp_gt (tgt := 14) hx hb dJ3_checkFromToIndex_8c36e_6 (by decide) (by decide) (by omega) (fun h => absurd h (by omega)) (fun _ => ?_)
  refine lv_iload_n hx hb dJ3_checkFromToIndex_8c36e_9 rfl (lv_at hl 1 rfl) ?_
  refine lv_iload_n hx hb dJ3_checkFromToIndex_8c36e_10 rfl (lv_at hl 2 rfl) ?_
  refine r_icmp_le (tgt := 22) hx hb dJ3_checkFromToIndex_8c36e_11 (by decide) (by omega) (by omega) (fun _ => ?_) (fun h => absurd h1 h)
  refine lv_iload_n hx hb dJ3_checkFromToIndex_8c36e_22 rfl (lv_at hl 0 rfl) ?_
  exact k_nret wq_0 (Rf := T0) (z := 0) hx hb hr rfl hlk hw trivial (by decide) rfl dJ3_checkFromToIndex_8c36e_23
theorem s_ft3R (l : Launch) (D : va_G) (τ : Nat → ClassId) (sA sV : Nat → Nat) (sz : Nat) (k n : Int) (t : Nat) (h0 : 0 ≤ k) (h1 : k ≤ n) (h2 : n ≤ 2147483647) : Met l yJ3_checkFromToIndex_8c36e (lw_w yJ3_checkFromToIndex_8c36e cJ3_checkFromToIndex_8c36e 4 (some .int)) (rmk 1 0 0) (kPc D τ sA sV (W0 m0) sz [.int (iI 0), .int (iI k), .int (iI n), (.ref t)]) (gQi D (EQi W0 T0 (fun z _ => z = 0)) (va_A (W0 m0) sz)) 0 0 (va_A (W0 m0) sz) := by
  refine k_met (ret := some .int) (Qc := gQi D (EQi W0 T0 (fun z _ => z = 0))) (by decide +kernel) (Nat.le_of_ble_eq_true rfl) ?_
  intro p e s m args below meth c A ls hx hb hml hr hlk hnm hC hLS hA hw hl
  have hC : cx D τ s m args RJ3 := hC
  have hl : lv_has ls 4 [(0, .int (iI 0)), (1, .int (iI k)), (2, .int (iI n)), (3, (.ref t))] := hl
  refine lv_iload_n hx hb dJ3_checkFromToIndex_8c36e_0 rfl (lv_at hl 0 rfl) ?_
  refine r_if_lt (tgt := 14) hx hb dJ3_checkFromToIndex_8c36e_1 (by decide) (by omega) (fun h => absurd h (by omega)) (fun _ => ?_)
  refine lv_iload_n hx hb dJ3_checkFromToIndex_8c36e_4 rfl (lv_at hl 0 rfl) ?_
  refine lv_iload_n hx hb dJ3_checkFromToIndex_8c36e_5 rfl (lv_at hl 1 rfl) ?_
  refine r_icmp_gt (tgt := 14) hx hb dJ3_checkFromToIndex_8c36e_6 (by decide) (by decide) (by omega) (fun h => absurd h (by omega)) (fun _ => ?_)
  refine lv_iload_n hx hb dJ3_checkFromToIndex_8c36e_9 rfl (lv_at hl 1 rfl) ?_
  refine lv_iload_n hx hb dJ3_checkFromToIndex_8c36e_10 rfl (lv_at hl 2 rfl) ?_
  refine r_icmp_le (tgt := 22) hx hb dJ3_checkFromToIndex_8c36e_11 (by decide) (by omega) (by omega) (fun _ => ?_) (fun h => absurd h1 h)
  refine lv_iload_n hx hb dJ3_checkFromToIndex_8c36e_22 rfl (lv_at hl 0 rfl) ?_
  exact k_nret wq_0 (Rf := T0) (z := 0) hx hb hr rfl hlk hw trivial (by decide) rfl dJ3_checkFromToIndex_8c36e_23
theorem s_bbe (l : Launch) (D : va_G) (τ : Nat → ClassId) (sA sV : Nat → Nat) (sz : Nat) (k n : Int) (h0 : 0 ≤ k) (h1 : k ≤ n) (h2 : n ≤ 2147483647) : Met l yJ0_checkBoundsBeginEnd_23922 (lw_w yJ0_checkBoundsBeginEnd_23922 cJ0_checkBoundsBeginEnd_23922 3 none) (rmk 2 0 0) (kPc D τ sA sV (W0 m0) sz [.int (iI 0), .int (iI k), .int (iI n)]) (gQv D (EQv W0 T0 (fun _ => True)) (va_A (W0 m0) sz)) 0 0 (va_A (W0 m0) sz) := by
  refine k_met (ret := none) (Qc := gQv D (EQv W0 T0 (fun _ => True))) (by decide +kernel) (Nat.le_of_ble_eq_true rfl) ?_
  intro p e s m args below meth c A ls hx hb hml hr hlk hnm hC hLS hA hw hl
  have hC : cx D τ s m args RJ0 := hC
  have hl : lv_has ls 3 [(0, .int (iI 0)), (1, .int (iI k)), (2, .int (iI n))] := hl
  refine lv_iload_n hx hb dJ0_checkBoundsBeginEnd_23922_0 rfl (lv_at hl 0 rfl) ?_
  refine lv_iload_n hx hb dJ0_checkBoundsBeginEnd_23922_1 rfl (lv_at hl 1 rfl) ?_
  refine lv_iload_n hx hb dJ0_checkBoundsBeginEnd_23922_2 rfl (lv_at hl 2 rfl) ?_
  rcases hLS.2.2 with hz | ⟨t, hz⟩
  · skip
    refine va_gets hx hb hz hw.2.2 hC.2.1 (hC.1 _ fl_J0_1053) (fun _ h => h) dJ0_checkBoundsBeginEnd_23922_3 ?_
    refine j_cSi (Wf := W0) (Rf := T0) (M0 := m0) (As := [.int (iI 0), .int (iI k), .int (iI n), .null]) (rest := []) (wr := []) hx hb hml hC hLS hA hw hl.1 (s_ft3N l D τ sA sV _ k n h0 h1 h2) kJ3_checkFromToIndex_8c36e ml_J0_1062 [] [] rfl rfl rfl rfl (fun i h => absurd h List.not_mem_nil) rfl rfl (Nat.le_of_ble_eq_true rfl) (rm_ok (by decide) (by decide)) ⟨by decide, by decide⟩ rfl rfl dJ0_checkBoundsBeginEnd_23922_6 (fun z1 M1 H locs hz1 _ _ hw => ?_)
    refine lv_pop hx hb dJ0_checkBoundsBeginEnd_23922_9 rfl ?_
    exact k_vret wq_0 (Rf := T0) (M0 := m0) (Q1 := fun _ => True) hx hb hr hlk hw trivial trivial dJ0_checkBoundsBeginEnd_23922_10
  · skip
    refine va_gets hx hb hz hw.2.2 hC.2.1 (hC.1 _ fl_J0_1053) (fun _ h => h) dJ0_checkBoundsBeginEnd_23922_3 ?_
    refine j_cSi (Wf := W0) (Rf := T0) (M0 := m0) (As := [.int (iI 0), .int (iI k), .int (iI n), .ref t]) (rest := []) (wr := []) hx hb hml hC hLS hA hw hl.1 (s_ft3R l D τ sA sV _ k n t h0 h1 h2) kJ3_checkFromToIndex_8c36e ml_J0_1062 [] [] rfl rfl rfl rfl (fun i h => absurd h List.not_mem_nil) rfl rfl (Nat.le_of_ble_eq_true rfl) (rm_ok (by decide) (by decide)) ⟨by decide, by decide⟩ rfl rfl dJ0_checkBoundsBeginEnd_23922_6 (fun z1 M1 H locs hz1 _ _ hw => ?_)
    refine lv_pop hx hb dJ0_checkBoundsBeginEnd_23922_9 rfl ?_
    exact k_vret wq_0 (Rf := T0) (M0 := m0) (Q1 := fun _ => True) hx hb hr hlk hw trivial trivial dJ0_checkBoundsBeginEnd_23922_10
theorem s_chkLen (l : Launch) (D : va_G) (τ : Nat → ClassId) (sA sV : Nat → Nat) (sz : Nat) (n : Int) (h0 : 0 ≤ n) (h2 : n ≤ 2147483647) : Met l yJ7_checkLength_df160 (lw_w yJ7_checkLength_df160 cJ7_checkLength_df160 2 none) (rmk 1 0 0) (kPc D τ sA sV (W0 m0) sz [.int (iI 0), .int (iI n)]) (gQv D (EQv W0 T0 (fun _ => True)) (va_A (W0 m0) sz)) 0 0 (va_A (W0 m0) sz) := by
  refine k_metF (ret := none) (Qc := gQv D (EQv W0 T0 (fun _ => True))) (by decide +kernel) (Nat.le_of_ble_eq_true rfl) ?_
  intro p e s m args below meth c A ls hx hb hml hr hlk hnm hC hLS hA hw hl
  have hC : cx D τ s m args RJ7 := hC
  have hl : lv_has ls 2 [(0, .int (iI 0)), (1, .int (iI n))] := hl
  refine lv_iload_n hx hb dJ7_checkLength_df160_0 rfl (lv_at hl 1 rfl) ?_
  refine lv_iload_n hx hb dJ7_checkLength_df160_1 rfl (lv_at hl 0 rfl) ?_
  refine r_icmp_ge (tgt := 37) hx hb dJ7_checkLength_df160_2 (by decide) (by omega) (by decide) (fun _ => ?_) (fun h => absurd h0 h)
  exact k_vret wq_0 (Rf := T0) (M0 := m0) (Q1 := fun _ => True) hx hb hr hlk hw trivial trivial dJ7_checkLength_df160_37
def bA (bs : List Int) : Nat → Int32 := fun j => iI (bs.getD j 0)
/-- a fresh byte array with the first n bytes -/
def EB (sz n : Nat) (bs : List Int) : Nat → State → va_W → Prop := fun a t w => sz ≤ a ∧ ∃ cA : ClassId, ArrOfT t cA .byte ∧ ∃ f : Nat → Int32, (∀ j, j < n → f j = bA bs j) ∧ w = [(a, .inl (cA, n, .inl f))]
theorem bA_fits {A : Nat → Prop} {U : State} {H : Heap} {sa sv : Nat} {bs : List Int} (h : ST A U H sa sv bs) {k : Nat} (hk : k < bs.length) : fits .byte (.int (bA bs k)) = true := by
  have hb := h.byt hk
  have hd : ∀ q : Nat, q < 128 → fits .byte (.int (iI q)) = true := by decide +kernel
  obtain ⟨q, hq⟩ := Int.eq_ofNat_of_zero_le hb.1
  unfold bA
  rw [hq]
  exact hd q (by omega)
theorem A_nil {sz q : Nat} (h : va_A [] sz q) : sz ≤ q := by
  rcases h with ⟨k, e, h⟩ | h
  · exact absurd h (by simp)
  · exact h
theorem s_cob (l : Launch) (D : va_G) (τ : Nat → ClassId) (sA sV : Nat → Nat) (sz sa sv : Nat) (bs : List Int) (n : Nat) (h0 : 0 < n) (h1 : n < bs.length) (h2 : n ≤ 8) : Met l yJ7_copyOfRangeByte_39247 (lw_w yJ7_copyOfRangeByte_39247 cJ7_copyOfRangeByte_39247 5 (some (.array .byte))) (rmk 2 1 8) (tPc D τ sA sV [] sz sa sv bs [.ref sv, .int (iI 0), .int (iI n)]) (gQr D (EB sz n bs) (va_A [] sz)) 1 8 (va_A [] sz) := by
  refine t_metE (ret := some (.array .byte)) (Qc := gQr D (EB sz n bs)) (by decide +kernel) (Nat.le_of_ble_eq_true rfl) ?_
  intro p e s m args below meth c ls hsz hx hb hml hr hlk hnm hC hLS hST hA hw hl
  have hC : cx D τ s m args RJ7 := hC
  have hl : lv_has ls 5 [(0, .ref sv), (1, .int (iI 0)), (2, .int (iI n))] := hl
  have hn := hST.2.2.2.2.2
  refine lv_iload_n hx hb dJ7_copyOfRangeByte_39247_0 rfl (lv_at hl 1 rfl) ?_
  refine lv_iload_n hx hb dJ7_copyOfRangeByte_39247_1 rfl (lv_at hl 2 rfl) ?_
  refine j_cSv (Wf := W0) (Rf := T0) (M0 := m0) (As := [.int (iI 0), .int (iI n)]) (rest := []) (wr := []) hx hb hml hC hLS hA hw hl.1 (s_chkLen l D τ sA sV _ n (by omega) (by omega)) kJ7_checkLength_df160 ml_J7_343 [] [] rfl rfl rfl rfl (fun i h => absurd h List.not_mem_nil) rfl rfl (Nat.le_of_ble_eq_true rfl) (rm_ok (by decide) (by decide)) ⟨Nat.zero_le _, Nat.zero_le _⟩ rfl rfl dJ7_copyOfRangeByte_39247_2 (fun M1 H locs _ _ hw => ?_)
  have hw : wS D (va_A [] s.heap.size) s.heap [] H locs := hw
  refine lv_iload_n hx hb dJ7_copyOfRangeByte_39247_5 rfl (lv_at hl 2 rfl) ?_
  refine lv_iload_n hx hb dJ7_copyOfRangeByte_39247_6 rfl (lv_at hl 1 rfl) ?_
  refine r_isub (z := (n : Int)) hx hb dJ7_copyOfRangeByte_39247_7 (by omega) ?_
  refine lv_istore_n (lv' := [(3, .int (iI n)), (0, .ref sv), (1, .int (iI 0)), (2, .int (iI n))]) hx hb dJ7_copyOfRangeByte_39247_8 rfl hl (by decide) rfl (fun ls hl => ?_)
  refine lv_iload_n hx hb dJ7_copyOfRangeByte_39247_9 rfl (lv_at hl 0 rfl) ?_
  refine va_newa (atype := .byte) hx hb (hC.1 _ ac_byte) rfl hC.2.2.1 hw.1 hw.2.1 hw.2.2 hA (a0 := (n, .inl (ar (fun _ => 0)))) (fun cA => rfl) (iI_nn ⟨by omega, by omega⟩ (by omega)) (by rw [iI_clamp ⟨by omega, by omega⟩]; exact Int.toNat_natCast n) (by show n * 1 ≤ _; omega) (Nat.le_refl 1) (by show 0 + n ≤ 8; omega) dJ7_copyOfRangeByte_39247_10 (fun q cA H g0 g1 g2 g3 => ?_)
  refine W.widen (k := 1) (n := 8) (by omega) (by omega) ?_
  refine lv_astore (lv' := [(4, .ref q), (3, .int (iI n)), (0, .ref sv), (1, .int (iI 0)), (2, .int (iI n))]) hx hb dJ7_copyOfRangeByte_39247_12 hl (by decide) rfl (fun ls hl => ?_)
  refine lv_aload_n hx hb dJ7_copyOfRangeByte_39247_14 rfl (lv_at hl 2 rfl) ?_
  refine lv_iload_n hx hb dJ7_copyOfRangeByte_39247_15 rfl (lv_at hl 3 rfl) ?_
  refine lv_aload hx hb dJ7_copyOfRangeByte_39247_16 (lv_at hl 0 rfl) ?_
  refine r_iconst hx hb dJ7_copyOfRangeByte_39247_18 ?_
  refine lv_aload_n hx hb dJ7_copyOfRangeByte_39247_19 rfl (lv_at hl 2 rfl) ?_
  refine va_tlen (v := iI bs.length) hx hb hST.2.2.2.1 g3 rfl dJ7_copyOfRangeByte_39247_20 ?_
  refine lv_iload_n hx hb dJ7_copyOfRangeByte_39247_21 rfl (lv_at hl 3 rfl) ?_
  refine r_isub (z := (bs.length : Int)) hx hb dJ7_copyOfRangeByte_39247_22 (by omega) ?_
  refine lv_iload_n hx hb dJ7_copyOfRangeByte_39247_23 rfl (lv_at hl 1 rfl) ?_
  refine r_mminF hx hb hml hC hl.1 ml_J7_304 sm_min in_J9 cd_min (by decide) (Nat.le_of_ble_eq_true rfl) (by decide) (by decide) (by omega) (by omega) dJ7_copyOfRangeByte_39247_24 (fun x4 e4 g4 => ?_)
  obtain rfl : x4 = (n : Int) := by omega
  have hz0 : (iI 0).toNatClampNeg = 0 := iI_clamp (by decide)
  have hzn : (iI n).toNatClampNeg = n := by rw [iI_clamp ⟨by omega, by omega⟩]; exact Int.toNat_natCast n
  refine vk_copyt (f := bA bs) (t1 := 5) hx hb (hml.trans hl.1.symm) hC.2.1 (hC.1 _ ml_J7_150) (hC.1 _ nm_arraycopy) (hC.1 _ sm_arraycopy) (hC.1 _ in_J10) g0 g1 g2 g3 hST.2.2.2.1 0 rfl rfl (iI_nn (by decide) (by decide)) (iI_nn (by decide) (by decide)) (iI_nn ⟨by omega, by omega⟩ (by omega)) (by rw [hz0, hzn]; omega) (by rw [hz0, hzn]; omega) (fun i hi => by rw [hz0, Nat.zero_add]; rw [hzn] at hi; exact bA_fits hST (by omega)) (by decide) (Nat.le_of_ble_eq_true rfl) dJ7_copyOfRangeByte_39247_27 (fun H locs g4 g5 g6 => ?_)
  refine lv_aload hx hb dJ7_copyOfRangeByte_39247_30 (lv_at hl 0 rfl) ?_
  rw [hz0, hzn] at g4 g5
  refine k_aret hx hb hr (Or.inr ⟨_, rfl⟩) hlk ⟨g4, g5, g6⟩ [(q, .inl (cA, n, .inl (va_cpy (bA bs) (ar (fun _ => 0)) 0 0 n)))] [0] rfl rfl (fun t ht hW => ⟨by rw [← hsz]; exact A_nil (g5.2 0 _ rfl), cA, arrOfT_moved hW.alike (g0.2 5 _ rfl).1, va_cpy (bA bs) (ar (fun _ => 0)) 0 0 n, fun j hj => ?_, rfl⟩) dJ7_copyOfRangeByte_39247_32
  rw [pk_cpy_in (by omega) (by omega)]
  simp
theorem s_cor (l : Launch) (D : va_G) (τ : Nat → ClassId) (sA sV : Nat → Nat) (sz sa sv : Nat) (bs : List Int) (n : Nat) (h0 : 0 < n) (h1 : n < bs.length) (h2 : n ≤ 8) : Met l yJ7_copyOfRange_39247 (lw_w yJ7_copyOfRange_39247 cJ7_copyOfRange_39247 3 (some (.array .byte))) (rmk 3 1 8) (tPc D τ sA sV [] sz sa sv bs [.ref sv, .int (iI 0), .int (iI n)]) (gQr D (EB sz n bs) (va_A [] sz)) 1 8 (va_A [] sz) := by
  refine t_metE (ret := some (.array .byte)) (Qc := gQr D (EB sz n bs)) (by decide +kernel) (Nat.le_of_ble_eq_true rfl) ?_
  intro p e s m args below meth c ls hsz hx hb hml hr hlk hnm hC hLS hST hA hw hl
  have hC : cx D τ s m args RJ7 := hC
  have hl : lv_has ls 3 [(0, .ref sv), (1, .int (iI 0)), (2, .int (iI n))] := hl
  have hn := hST.2.2.2.2.2
  refine lv_iload_n hx hb dJ7_copyOfRange_39247_0 rfl (lv_at hl 1 rfl) ?_
  refine r_if_ne (tgt := 10) hx hb dJ7_copyOfRange_39247_1 (by decide) (by decide) (fun h => absurd rfl h) (fun _ => ?_)
  refine lv_iload_n hx hb dJ7_copyOfRange_39247_4 rfl (lv_at hl 2 rfl) ?_
  refine lv_aload_n hx hb dJ7_copyOfRange_39247_5 rfl (lv_at hl 0 rfl) ?_
  refine va_tlen (v := iI bs.length) hx hb hST.2.2.2.1 hw.2.2 rfl dJ7_copyOfRange_39247_6 ?_
  refine r_icmp_eq (tgt := 17) hx hb dJ7_copyOfRange_39247_7 (by decide) (by omega) (by omega) (fun h => absurd h (by omega)) (fun _ => ?_)
  refine lv_aload_n hx hb dJ7_copyOfRange_39247_10 rfl (lv_at hl 0 rfl) ?_
  refine lv_iload_n hx hb dJ7_copyOfRange_39247_11 rfl (lv_at hl 1 rfl) ?_
  refine lv_iload_n hx hb dJ7_copyOfRange_39247_12 rfl (lv_at hl 2 rfl) ?_
  refine t_cSr (As := [.ref sv, .int (iI 0), .int (iI n)]) (rest := []) hx hb hml hC hLS hA hw hl.1 (hST.down hA hw [] rfl) (s_cob l D τ sA sV _ sa sv bs n h0 h1 h2) kJ7_copyOfRangeByte_39247 ml_J7_339 rfl rfl (Nat.le_of_ble_eq_true rfl) (rm_ok (by decide) (by decide)) ⟨by decide, by decide⟩ rfl rfl dJ7_copyOfRange_39247_13 (fun ra t w1 H1 locs1 ht hvm hE hsz1 hk1 hw => ?_)
  obtain ⟨q0, cA, q1, f, q2, rfl⟩ := hE
  refine k_aret hx hb hr (Or.inr ⟨_, rfl⟩) hlk hw [(ra, .inl (cA, n, .inl f))] [0] rfl rfl (fun t2 ht2 hW => ⟨by rw [← hsz]; exact q0, cA, arrOfT_moved (hvm.symm.trans hW.alike) q1, f, q2, rfl⟩) dJ7_copyOfRange_39247_16
theorem OF_of {D : va_G} {τ : Nat → ClassId} {s : State} {m : MethodId} {args : Array Value} {own : String} {H : Heap} {ws : va_W} {a q0 : Nat} {fs : List Value} {v : Value} (hC : cx D τ s m args own) (hP : va_P D vwCl ws H) (he : ws[q0]? = some (a, .inr (0, fs))) {k : Nat} (hk : k < 4) (hv : fs[k]? = some v) : va_OF (TJ0 k).1 (TJ0 k).2.1 (TJ0 k).2.2.1 v a (fun _ => False) s H := by
  obtain ⟨r, h1, cell, q1, q2, q3, q4⟩ := hP q0 _ he
  have hr : r = (RJ0, TJ0, 4) := Option.some.inj (h1.symm.trans rfl)
  subst hr
  obtain ⟨hS, hfc, kC, hkC, hkind⟩ := hC.2.2.1.1 0 (RJ0, TJ0, 4) rfl
  obtain ⟨cf, kf, fi, f, hi, hsl⟩ := hS k hk
  refine ⟨cf, kf, fi, f, cell, hi, (u_facts hfc hkC (u_lays hC.1 iJ0 hk) hi).1, q1, (by rw [q3]; exact (fun h => by cases h)), ?_, id⟩
  rw [hsl, q4 k hk]
  simp [vp_V, hv]
theorem s_strInit (l : Launch) (D : va_G) (τ : Nat → ClassId) (sz : Nat) (a q : Nat) : Met l yJ0_init_031fb (lw_w yJ0_init_031fb cJ0_init_031fb 3 none) (rmk 1 0 0) (gPc D τ [(a, .inr (0, [.null, .int 0, .int 0, .int 0]))] sz [.ref a, .ref q, .int (iI 0)]) (gQv D (fun w => w = [(a, .inr (0, [.ref q, .int 0, .int 0, .int 0]))]) (va_A [(a, .inr (0, [.null, .int 0, .int 0, .int 0]))] sz)) 0 0 (va_A [(a, .inr (0, [.null, .int 0, .int 0, .int 0]))] sz) := by
  refine g_met (ret := none) (Qc := gQv D (fun w => w = [(a, .inr (0, [.ref q, .int 0, .int 0, .int 0]))])) (by decide +kernel) (Nat.le_of_ble_eq_true rfl) ?_
  intro p e s m args below meth c A ls hx hb hml hr hlk hnm hC hA hw hl
  have hC : cx D τ s m args RJ0 := hC
  have hl : lv_has ls 3 [(0, .ref a), (1, .ref q), (2, .int (iI 0))] := hl
  have ml_J0_1 : Cond.methodLink RJ0 1 objectInit ∈ lw_good := lw_gl (ws := [_]) (by decide +kernel) _ (List.mem_singleton.mpr rfl)
  refine lv_aload_n hx hb dJ0_init_031fb_0 rfl (lv_at hl 0 rfl) ?_
  refine r_objInit hx hb hml hC hl.1 ml_J0_1 im_init cd_init (by decide) (Nat.le_of_ble_eq_true rfl) (by decide) dJ0_init_031fb_1 ?_
  refine lv_aload_n hx hb dJ0_init_031fb_4 rfl (lv_at hl 0 rfl) ?_
  refine lv_aload_n hx hb dJ0_init_031fb_5 rfl (lv_at hl 1 rfl) ?_
  refine r_putF (ws' := [(a, .inr (0, [.ref q, .int 0, .int 0, .int 0]))]) hx hb hC hw rfl iJ0 tyJ0 tyJ0_ok nmJ0 rfl 0 (by decide) fl_J0_9 rfl hnm rfl (ty := .array .byte) (by decide +kernel) rfl rfl 0 rfl (Nat.le_of_ble_eq_true rfl) rfl dJ0_init_031fb_6 (fun H locs hw => ?_)
  refine lv_aload_n hx hb dJ0_init_031fb_9 rfl (lv_at hl 0 rfl) ?_
  refine lv_iload_n hx hb dJ0_init_031fb_10 rfl (lv_at hl 2 rfl) ?_
  refine r_putF (ws' := [(a, .inr (0, [.ref q, .int 0, .int 0, .int 0]))]) hx hb hC hw rfl iJ0 tyJ0 tyJ0_ok nmJ0 rfl 1 (by decide) fl_J0_15 rfl hnm rfl (ty := .byte) (by decide +kernel) rfl rfl 0 rfl (Nat.le_of_ble_eq_true rfl) rfl dJ0_init_031fb_11 (fun H locs hw => ?_)
  exact r_vret hx hb hr hlk hw [(a, .inr (0, [.ref q, .int 0, .int 0, .int 0]))] [0] rfl rfl rfl dJ0_init_031fb_14
/-- the String of the first n bytes: there, and either fresh or one that was there -/
def ES (sz n sa sv : Nat) (sA sV : Nat → Nat) (bs : List Int) : Nat → State → va_W → Prop := fun a t w => w = [] ∧ ∃ qv : Nat, ST (fun _ => False) t t.heap a qv (bs.take n) ∧ (sz ≤ a ∨ a = sa ∨ a = sA 3) ∧ (sz ≤ qv ∨ qv = sv ∨ qv = sV 3)
theorem ST.any {A : Nat → Prop} {U : State} {H : Heap} {sa sv : Nat} {bs : List Int} (h : ST A U H sa sv bs) : ST (fun _ => False) U H sa sv bs := h.narrow (fun _ q => q.elim)
theorem ST.alike {A : Nat → Prop} {U V : State} {H : Heap} {sa sv : Nat} {bs : List Int} (hv : U.vm.Alike V.vm) (h : ST A U H sa sv bs) : ST A V H sa sv bs := h.moved hv
set_option maxHeartbeats 1000000 in
theorem s_newStr (l : Launch) (D : va_G) (τ : Nat → ClassId) (sA sV : Nat → Nat) (sz sa sv : Nat) (bs : List Int) (n : Nat) (h1 : n < bs.length) (h2 : n ≤ 8) : Met l yJ1_newString_b4f7a (lw_w yJ1_newString_b4f7a cJ1_newString_b4f7a 3 (some (.object "java/lang/String"))) (rmk 4 2 12) (tPc D τ sA sV [] sz sa sv bs [.ref sv, .int (iI 0), .int (iI n)]) (gQr D (ES sz n sa sv sA sV bs) (va_A [] sz)) 2 12 (va_A [] sz) := by
  refine t_metE (ret := some (.object "java/lang/String")) (Qc := gQr D (ES sz n sa sv sA sV bs)) (by decide +kernel) (Nat.le_of_ble_eq_true rfl) ?_
  intro p e s m args below meth c ls hsz hx hb hml hr hlk hnm hC hLS hST hA hw hl
  have hC : cx D τ s m args RJ1 := hC
  have hl : lv_has ls 3 [(0, .ref sv), (1, .int (iI 0)), (2, .int (iI n))] := hl
  have hn := hST.2.2.2.2.2
  refine lv_iload_n hx hb dJ1_newString_b4f7a_0 rfl (lv_at hl 2 rfl) ?_
  refine r_if_ne (tgt := 7) hx hb dJ1_newString_b4f7a_1 (by decide) (by omega) (fun h => ?_) (fun h => ?_)
  · have cl_J1_1 : Cond.classLink RJ1 1 RJ0 ∈ lw_good := lw_gl (ws := [_]) (by decide +kernel) _ (List.mem_singleton.mpr rfl)
    refine r_new (ci := 0) (fs := [.null, .int 0, .int 0, .int 0]) hx hb hC hA hw iJ0 tyJ0 tyJ0_ok rfl cl_J1_1 it_J0 in_J0 (fun j hj => match j, hj with | 0, _ => rfl | 1, _ => rfl | 2, _ => rfl | 3, _ => rfl | j + 4, h => absurd h (by omega)) (by decide) (by decide) rfl rfl dJ1_newString_b4f7a_7 (fun a H hw => ?_)
    have hw : wS D (va_A [] s.heap.size) s.heap [(a, .inr (0, [.null, .int 0, .int 0, .int 0]))] H _ := hw
    refine lv_dup hx hb dJ1_newString_b4f7a_10 rfl ?_
    refine lv_aload_n hx hb dJ1_newString_b4f7a_11 rfl (lv_at hl 0 rfl) ?_
    refine lv_iload_n hx hb dJ1_newString_b4f7a_12 rfl (lv_at hl 1 rfl) ?_
    refine lv_iload_n hx hb dJ1_newString_b4f7a_13 rfl (lv_at hl 1 rfl) ?_
    refine lv_iload_n hx hb dJ1_newString_b4f7a_14 rfl (lv_at hl 2 rfl) ?_
    refine r_iadd (z := (n : Int)) hx hb dJ1_newString_b4f7a_15 (by omega) ?_
    refine t_cSr (As := [.ref sv, .int (iI 0), .int (iI n)]) (rest := [.ref a, .ref a]) hx hb hml hC hLS hA hw hl.1 (hST.down hA hw [] rfl) (s_cor l D τ sA sV _ sa sv bs n (by omega) h1 h2) kJ7_copyOfRange_39247 ml_J1_232 rfl rfl (Nat.le_of_ble_eq_true rfl) (rm_ok (by decide) (by decide)) ⟨by decide, by decide⟩ rfl rfl dJ1_newString_b4f7a_16 (fun q t w1 H1 locs1 ht hvm hE hsz1 hk1 hw => ?_)
    obtain ⟨q0, cA, q1, f, q2, rfl⟩ := hE
    have q1 := arrOfT_moved hvm.symm q1
    refine r_iconst hx hb dJ1_newString_b4f7a_19 ?_
    refine g_cIv (As := [.ref q, .int (iI 0)]) (wr := [(q, .inl (cA, n, .inl f))]) (rest := [.ref a]) hx hb hml hC hA hw hl.1 (s_strInit l D τ _ a q) kJ0_init_031fb ml_J1_112 [0] [1] rfl rfl rfl rfl (by decide) rfl rfl (Nat.le_of_ble_eq_true rfl) (rm_ok (by decide) (by decide)) ⟨by decide, by decide⟩ rfl rfl dJ1_newString_b4f7a_20 (fun w1 H locs hE hw => ?_)
    subst hE
    have hw : wS D (va_A [] s.heap.size) s.heap [(q, .inl (cA, n, .inl f)), (a, .inr (0, [.ref q, .int 0, .int 0, .int 0]))] H locs := hw
    have hne : n ≠ 0 := by omega
    refine k_aret hx hb hr (Or.inl ⟨_, rfl⟩) hlk hw [] [] rfl rfl (fun t2 ht2 hW => ⟨rfl, q, ?_, Or.inl (by rw [← hsz]; exact A_nil (hw.2.1.2 1 _ rfl)), Or.inl (by rw [← hsz]; exact A_nil (hw.2.1.2 0 _ rfl))⟩) dJ1_newString_b4f7a_23
    have hlen : (bs.take n).length = n := by rw [List.length_take]; omega
    refine ST.alike hW.alike ?_
    rw [ht2]
    refine ⟨?_, OF_of hC hw.1 (q0 := 1) rfl (k := 1) (by decide) rfl, OF_of hC hw.1 (q0 := 1) rfl (k := 0) (by decide) rfl, ?_, fun b hb0 => hST.2.2.2.2.1 b (List.mem_of_mem_take hb0), by omega⟩
    · obtain ⟨cell, c1, c2, c3⟩ := va_recv (ci := 0) hC.2.2.1 hw.1 rfl (q0 := 1) rfl
      exact ⟨cell, c1, c2, c3, id⟩
    · have hc := hw.1 0 _ rfl
      refine ⟨arrV cA n (fun j => .int (f j)), hc, q1 _ _, (fun h => by cases h), (by rw [arrV_size, hlen]; first | done | exact Nat.le_refl _), (by rw [arrV_size, hlen]; first | done | rfl), fun j hj => ?_, id⟩
      rw [hlen] at hj
      rw [arrV_read _ _ hj, q2 j hj]
      show some (Value.int (bA bs j)) = some (Value.int (iI ((bs.take n).getD j 0)))
      unfold bA
      rw [List.getD_eq_getElem?_getD, List.getD_eq_getElem?_getD, List.getElem?_take_of_lt hj]
  · have hn0 : n = 0 := by omega
    subst hn0
    have hz := hLS.1 3 (by decide)
    refine va_ldcS hx hb hC.2.1 hz.1 dJ1_newString_b4f7a_4 ?_
    refine W.widen (k := 2) (n := 12) (by decide) (by decide) ?_
    exact k_aret hx hb hr (Or.inl ⟨_, rfl⟩) hlk hw [] [] rfl rfl (fun t2 ht2 hW => ⟨rfl, sV 3, by rw [ht2]; exact ST.alike hW.alike (((hz.2.kept hw.2.2.2.1).any)), Or.inr (Or.inr rfl), Or.inr (Or.inr rfl)⟩) dJ1_newString_b4f7a_6
theorem s_substr (l : Launch) (D : va_G) (τ : Nat → ClassId) (sA sV : Nat → Nat) (sz sa sv : Nat) (bs : List Int) (n : Nat) (h1 : n ≤ bs.length) (h2 : bs.length ≤ 8) : Met l yJ0_substring_37a41 (lw_w yJ0_substring_37a41 cJ0_substring_37a41 5 (some (.object "java/lang/String"))) (rmk 5 2 12) (tPc D τ sA sV [] sz sa sv bs [.ref sa, .int (iI 0), .int (iI n)]) (gQr D (ES sz n sa sv sA sV bs) (va_A [] sz)) 2 12 (va_A [] sz) := by
  refine t_metE (ret := some (.object "java/lang/String")) (Qc := gQr D (ES sz n sa sv sA sV bs)) (by decide +kernel) (Nat.le_of_ble_eq_true rfl) ?_
  intro p e s m args below meth c ls hsz hx hb hml hr hlk hnm hC hLS hST hA hw hl
  have hC : cx D τ s m args RJ0 := hC
  have hl : lv_has ls 5 [(0, .ref sa), (1, .int (iI 0)), (2, .int (iI n))] := hl
  have hw : wS D (va_A [] s.heap.size) s.heap (W0 m0) s.heap [] := hw
  refine lv_aload_n hx hb dJ0_substring_37a41_0 rfl (lv_at hl 0 rfl) ?_
  refine t_cVi0 wq_0 (As := []) (rest := []) hx hb hml hC hLS hA hw hl.1 hST rfl (s_length l D τ sA sV _ sa sv bs) kJ0_length_8abf5 ml_J0_505 rfl rfl (Nat.le_of_ble_eq_true rfl) (rm_ok (by decide) (by decide)) ⟨by decide, by decide⟩ dJ0_substring_37a41_1 (fun z2 H locs hz2 hE2 hw => ?_)
  subst hE2
  refine lv_istore_n (lv' := [(3, .int (iI bs.length)), (0, .ref sa), (1, .int (iI 0)), (2, .int (iI n))]) hx hb dJ0_substring_37a41_4 rfl hl (by decide) rfl (fun ls hl => ?_)
  refine lv_iload_n hx hb dJ0_substring_37a41_5 rfl (lv_at hl 2 rfl) ?_
  refine lv_iload_n hx hb dJ0_substring_37a41_6 rfl (lv_at hl 3 rfl) ?_
  refine lv_iload_n hx hb dJ0_substring_37a41_7 rfl (lv_at hl 0 rfl) ?_
  refine j_cSv (Wf := W0) (Rf := T0) (M0 := m0) (As := [.int (iI 0), .int (iI n), .int (iI bs.length)]) (rest := []) (wr := []) hx hb hml hC hLS hA hw hl.1 (s_bbe l D τ sA sV _ n bs.length (by omega) (by omega) (by omega)) kJ0_checkBoundsBeginEnd_23922 ml_J0_521 [] [] rfl rfl rfl rfl (fun i h => absurd h List.not_mem_nil) rfl rfl (Nat.le_of_ble_eq_true rfl) (rm_ok (by decide) (by decide)) ⟨Nat.zero_le _, Nat.zero_le _⟩ rfl rfl dJ0_substring_37a41_8 (fun M1 H locs _ _ hw => ?_)
  have hw : wS D (va_A [] s.heap.size) s.heap (W0 m0) H locs := hw
  refine lv_iload_n hx hb dJ0_substring_37a41_11 rfl (lv_at hl 2 rfl) ?_
  refine r_if_ne (tgt := 22) hx hb dJ0_substring_37a41_12 (by decide) (by decide) (fun h => absurd rfl h) (fun _ => ?_)
  refine lv_iload_n hx hb dJ0_substring_37a41_15 rfl (lv_at hl 3 rfl) ?_
  refine lv_iload_n hx hb dJ0_substring_37a41_16 rfl (lv_at hl 0 rfl) ?_
  refine r_icmp_ne (tgt := 22) hx hb dJ0_substring_37a41_17 (by decide) (by omega) (by omega) (fun h => ?_) (fun h => ?_)
  · refine lv_iload_n hx hb dJ0_substring_37a41_22 rfl (lv_at hl 3 rfl) ?_
    refine lv_iload_n hx hb dJ0_substring_37a41_23 rfl (lv_at hl 2 rfl) ?_
    refine r_isub (z := (n : Int)) hx hb dJ0_substring_37a41_24 (by omega) ?_
    refine lv_istore (lv' := [(4, .int (iI n)), (3, .int (iI bs.length)), (0, .ref sa), (1, .int (iI 0)), (2, .int (iI n))]) hx hb dJ0_substring_37a41_25 hl (by decide) rfl (fun ls hl => ?_)
    refine lv_aload_n hx hb dJ0_substring_37a41_27 rfl (lv_at hl 2 rfl) ?_
    refine t_cVi0 wq_0 (As := []) (rest := []) hx hb hml hC hLS hA hw hl.1 hST rfl (s_latin l D τ sA sV _ sa sv bs) kJ0_isLatin1_aae02 ml_J0_492 rfl rfl (Nat.le_of_ble_eq_true rfl) (rm_ok (by decide) (by decide)) ⟨by decide, by decide⟩ dJ0_substring_37a41_28 (fun z1 H locs hz1 hE1 hw => ?_)
    subst hE1
    refine r_if_eq (tgt := 47) hx hb dJ0_substring_37a41_31 (by decide) (by decide) (fun h => absurd h (by decide)) (fun _ => ?_)
    refine lv_aload_n hx hb dJ0_substring_37a41_34 rfl (lv_at hl 2 rfl) ?_
    refine vk_getf hx hb hST.2.2.1 hw.2.2 hC.2.1 (hC.1 _ fl_J0_9) (fun _ h => h) dJ0_substring_37a41_35 ?_
    refine lv_iload_n hx hb dJ0_substring_37a41_38 rfl (lv_at hl 3 rfl) ?_
    refine lv_iload hx hb dJ0_substring_37a41_39 (lv_at hl 0 rfl) ?_
    refine t_cSr (As := [.ref sv, .int (iI 0), .int (iI n)]) (rest := []) hx hb hml hC hLS hA hw hl.1 (hST.down hA hw [] rfl) (s_newStr l D τ sA sV _ sa sv bs n (by omega) (by omega)) kJ1_newString_b4f7a ml_J0_685 rfl rfl (Nat.le_of_ble_eq_true rfl) (rm_ok (by decide) (by decide)) ⟨by decide, by decide⟩ rfl rfl dJ0_substring_37a41_41 (fun ra t w1 H1 locs1 ht hvm hE hsz1 hk1 hw2 => ?_)
    obtain ⟨rfl, qv, e1, e2, e3⟩ := hE
    refine lv_goto (tgt := 57) hx hb dJ0_substring_37a41_44 (by decide) ?_
    have hs0 : s.heap.size ≤ H.size := hw.2.2.1
    refine k_aret hx hb hr (Or.inl ⟨_, rfl⟩) hlk hw2 [] [] rfl rfl (fun t2 ht2 hW => ⟨rfl, qv, ?_, ?_, ?_⟩) dJ0_substring_37a41_57
    · rw [ht] at e1
      rw [ht2]
      exact ST.alike (hvm.symm.trans hW.alike) e1
    · rcases e2 with e2 | e2
      · exact Or.inl (by omega)
      · exact Or.inr e2
    · rcases e3 with e3 | e3
      · exact Or.inl (by omega)
      · exact Or.inr e3
  · refine lv_aload_n hx hb dJ0_substring_37a41_20 rfl (lv_at hl 1 rfl) ?_
    refine W.widen (k := 2) (n := 12) (by decide) (by decide) ?_
    have hn : bs.take n = bs := List.take_of_length_le (by omega)
    exact k_aret hx hb hr (Or.inl ⟨_, rfl⟩) hlk hw [] [] rfl rfl (fun t2 ht2 hW => ⟨rfl, sv, by rw [ht2, hn]; exact ST.alike hW.alike (((hST.kept hw.2.2.2.1).any)), Or.inr (Or.inl rfl), Or.inr (Or.inl rfl)⟩) dJ0_substring_37a41_21
theorem ST.guard {A : Nat → Prop} {U : State} {H : Heap} {sa sv : Nat} {bs : List Int} (h : ST (fun _ => False) U H sa sv bs) (h1 : ¬ A sa) (h2 : ¬ A sv) : ST A U H sa sv bs := by
  obtain ⟨⟨c1, a1, a2, a3, -⟩, ⟨b0, b1, b2, b3, c2, b4, b5, b6, b7, b8, -⟩, ⟨d0, d1, d2, d3, c3, d4, d5, d6, d7, d8, -⟩, ⟨c4, e1, e2, e3, e4, e5, e6, -⟩, f⟩ := h
  exact ⟨⟨c1, a1, a2, a3, h1⟩, ⟨b0, b1, b2, b3, c2, b4, b5, b6, b7, b8, h1⟩, ⟨d0, d1, d2, d3, c3, d4, d5, d6, d7, d8, h1⟩, ⟨c4, e1, e2, e3, e4, e5, e6, h2⟩, f⟩
theorem ST.lt {A : Nat → Prop} {U : State} {H : Heap} {sa sv : Nat} {bs : List Int} (h : ST A U H sa sv bs) : sa < H.size ∧ sv < H.size := by
  obtain ⟨⟨c1, a1, -⟩, -, -, ⟨c4, e1, -⟩, -⟩ := h
  exact ⟨(Array.getElem?_eq_some_iff.mp a1).1, (Array.getElem?_eq_some_iff.mp e1).1⟩
theorem ST.notA {A : Nat → Prop} {U : State} {H : Heap} {sa sv : Nat} {bs : List Int} (h : ST A U H sa sv bs) : ¬ A sa ∧ ¬ A sv := by
  obtain ⟨⟨c1, a1, a2, a3, a4⟩, -, -, ⟨c4, e1, e2, e3, e4, e5, e6, e7⟩, -⟩ := h
  exact ⟨a4, e7⟩
section RR2
variable {p : Program} {l : Launch} {e : Env} {R : Room} {s : State} {m : MethodId} {args : Array Value} {below : List Frame} {meth : Method} {c : Code} {H : Heap} {locs : List Loc} {cells slots : Nat} {Q : State → Prop}
variable {cc : ByteArray} {pc : Nat} {ls : Array Slot} {rest st0 : List Value} {D : va_G} {A : Nat → Prop} {a : Nat} {τ : Nat → ClassId} {own : String} {sA sV : Nat → Nat} {index nL cells' slots' : Nat} {Wf : Mem → va_W} {M0 : Mem}
theorem k_substr (hWQ : WQ Wf) (hx : p.tables.exec = Jvm.exec) (hb : c.code = cc) (hml : c.maxLocals = nL) (hC : cx D τ s m args own) (hLS : LK A s s.heap sA sV) (hA : ∀ q, s.heap.size ≤ q → A q) (hw : wS D A s.heap (Wf M0) H locs) (hl : ls.size = nL) {sa sv : Nat} {bs : List Int} (hST : ST A s s.heap sa sv bs) (h8 : bs.length ≤ 8) {h : Int} (h0 : 0 ≤ h) (h1 : h ≤ bs.length) (hlk : Cond.methodLink own index yJ0_substring_37a41 ∈ lw_good) (hcat : (rest.map fun v => v.category).sum ≤ 8) (hroom : 6 ≤ R.frames ∧ 8 + (5 + 11) + 64 * 5 ≤ R.locals) (hcs : cells + 2 ≤ R.cells ∧ slots + 12 ≤ R.slots) (hc2 : cells + 2 = cells') (hs2 : slots + 12 = slots') (hd : decode cc pc = .ok (.invokevirtual index, 3))
    (kk : ∀ (q qv : Nat) (H : Heap) (locs : List Loc), ST (va_A (Wf M0) H.size) s H q qv (bs.take h.toNat) → wS D A s.heap (Wf M0) H locs → W p l e R s m args below meth c H locs cells' slots' Q (F0 m (pc + 3) ls (.ref q :: rest))) : W p l e R s m args below meth c H locs cells slots Q (F0 m pc ls (.int (iI h) :: .int (iI 0) :: .ref sa :: rest)) := by
  obtain ⟨n, rfl⟩ := Int.eq_ofNat_of_zero_le h0
  refine t_cVr (As := [.int (iI 0), .int (iI n)]) (rest := rest) hx hb hml hC hLS hA hw hl (hST.down hA hw [] rfl) (s_substr l D τ sA sV _ sa sv bs n (by omega) h8) kJ0_substring_37a41 hlk (hST.recv hw.2.2) rfl rfl hcat hroom hcs hc2 hs2 hd (fun ra t w1 H1 locs1 ht hvm hE hsz1 hk1 hw2 => ?_)
  obtain ⟨rfl, qv, e1, e2, e3⟩ := hE
  rw [List.append_nil] at hw2
  have e4 := e1.lt
  rw [ht] at e1 e4
  have nn : ∀ x y z : Nat, x < H1.size → (H.size ≤ x ∨ x = y ∨ x = z) → ¬ A y → ¬ A z → ¬ va_A (Wf M0) H1.size x := by
    intro x y z hx1 hx2 hy hz hh
    rcases hh with ⟨k, e, hk⟩ | hh
    · have hlt : x < H.size := (hw.1 k _ hk).lt
      have hAx : A x := hw.2.1.2 k _ hk
      rcases hx2 with h2 | h2 | h2
      · omega
      · exact hy (h2 ▸ hAx)
      · exact hz (h2 ▸ hAx)
    · omega
  have hz3 := (hLS.1 3 (by decide)).2
  exact kk ra qv H1 locs1 ((ST.alike hvm.symm e1).guard (nn ra sa (sA 3) e4.1 e2 hST.notA.1 hz3.notA.1) (nn qv sv (sV 3) e4.2 e3 hST.notA.2 hz3.notA.2)) hw2
end RR2
end
section
set_option maxHeartbeats 4000000 in
set_option maxRecDepth 100000 in
theorem mX2_add (l : Launch) (D : va_G) (τ : Nat → ClassId) (ad : Nat → Nat) (sA sV : Nat → Nat) (sz : Nat) (k0 : Nat) (p1 : Int) (p2 : Int) (hk0 : isL k0) (hp1 : iR p1) (hp2 : iR p2) (M : Mem) (hM : MR M) (Q : Mem → Prop) (hv : qX2_add k0 p1 p2 M Q) : Met l yX2_add (lw_w yX2_add cX2_add 3 none) (rmk 1 0 0) (kPc D τ sA sV (WX τ ad M) sz [.ref (ad k0), .int (iI p1), .int (iI p2)]) (gQv D (EQv (WX τ ad) MR Q) (va_A (WX τ ad M) sz)) 0 0 (va_A (WX τ ad M) sz) := by
  refine k_met (ret := none) (Qc := gQv D (EQv (WX τ ad) MR Q)) (by decide +kernel) (Nat.le_of_ble_eq_true rfl) ?_
  intro p e s m args below meth c A ls hx hb hml hr hlk hnm hC hLS hA hw hl
  have hC : cx D τ s m args RX2 := hC
  have hl : lv_has ls 3 [(0, .ref (ad k0)), (1, .int (iI p1)), (2, .int (iI p2))] := hl
  unfold qX2_add at hv
  refine lv_aload_n hx hb dX2_add_0 rfl (lv_at hl 0 rfl) ?_
  refine gf_X2_24 hx hb hC hw k0 (gL_X hk0 τ ad M) rfl dX2_add_1 ?_
  refine r_top (fun x1 e1 => ?_)
  have g1 : iR x1 := by rw [e1]; exact hM.get hk0.pos _
  have hv := hv x1 e1 g1
  refine r_bipush hx hb dX2_add_4 (by decide +kernel) ?_
  refine r_icmp_ge (tgt := 39) hx hb dX2_add_6 (by decide) g1 (by decide) (fun b2 => ?_) (fun b2 => ?_)
  · have hv := hv.1 b2
    exact k_vret (wq_X τ ad) hx hb hr hlk hw hM hv dX2_add_39
  · have hv := hv.2 b2
    refine lv_aload_n hx hb dX2_add_9 rfl (lv_at hl 0 rfl) ?_
    refine gf_X2_9 hx hb hC hw k0 (gL_X hk0 τ ad M) rfl dX2_add_10 ?_
    refine lv_aload_n hx hb dX2_add_13 rfl (lv_at hl 0 rfl) ?_
    refine gf_X2_24 hx hb hC hw k0 (gL_X hk0 τ ad M) rfl dX2_add_14 ?_
    refine r_top (fun x3 e3 => ?_)
    have g3 : iR x3 := by rw [e3]; exact hM.get hk0.pos _
    have hv := hv x3 e3 g3
    refine lv_iload_n hx hb dX2_add_17 rfl (lv_at hl 1 rfl) ?_
    obtain ⟨c4, hv⟩ := hv
    obtain ⟨c5, hv⟩ := hv
    obtain ⟨M6, e6⟩ : ∃ M6 : Mem, M6 = up2 M (k0 + 1) x3 p1 := ⟨_, rfl⟩
    have hv := hv M6 e6
    refine r_iast (ws' := (WX τ ad M6)) hx hb hC hw (k0 + 1) (gI_X (isL_f0 hk0) τ ad M) c4 c5 (by decide) (by rw [e6]; exact sI_X (isL_f0 hk0) τ ad M _ _) dX2_add_18 (fun H locs hw => ?_)
    have hM : MR M6 := by rw [e6]; exact hM.put (isL_f0 hk0).pos hp1
    refine lv_aload_n hx hb dX2_add_19 rfl (lv_at hl 0 rfl) ?_
    refine gf_X2_15 hx hb hC hw k0 (gL_X hk0 τ ad M6) rfl dX2_add_20 ?_
    refine lv_aload_n hx hb dX2_add_23 rfl (lv_at hl 0 rfl) ?_
    refine gf_X2_24 hx hb hC hw k0 (gL_X hk0 τ ad M6) rfl dX2_add_24 ?_
    refine r_top (fun x7 e7 => ?_)
    have g7 : iR x7 := by rw [e7]; exact hM.get hk0.pos _
    have hv := hv x7 e7 g7
    refine lv_iload_n hx hb dX2_add_27 rfl (lv_at hl 2 rfl) ?_
    obtain ⟨c8, hv⟩ := hv
    obtain ⟨c9, hv⟩ := hv
    obtain ⟨M10, e10⟩ : ∃ M10 : Mem, M10 = up2 M6 (k0 + 2) x7 p2 := ⟨_, rfl⟩
    have hv := hv M10 e10
    refine r_iast (ws' := (WX τ ad M10)) hx hb hC hw (k0 + 2) (gI_X (isL_f1 hk0) τ ad M6) c8 c9 (by decide) (by rw [e10]; exact sI_X (isL_f1 hk0) τ ad M6 _ _) dX2_add_28 (fun H locs hw => ?_)
    have hM : MR M10 := by rw [e10]; exact hM.put (isL_f1 hk0).pos hp2
    refine lv_aload_n hx hb dX2_add_29 rfl (lv_at hl 0 rfl) ?_
    refine lv_dup hx hb dX2_add_30 rfl ?_
    refine gf_X2_24 hx hb hC hw k0 (gL_X hk0 τ ad M10) rfl dX2_add_31 ?_
    refine r_top (fun x11 e11 => ?_)
    have g11 : iR x11 := by rw [e11]; exact hM.get hk0.pos _
    have hv := hv x11 e11 g11
    refine r_iconst hx hb dX2_add_34 ?_
    refine r_iadd (z := (x11 + 1)) hx hb dX2_add_35 rfl ?_
    obtain ⟨c12, hv⟩ := hv
    obtain ⟨M13, e13⟩ : ∃ M13 : Mem, M13 = up2 M10 k0 4 (x11 + 1) := ⟨_, rfl⟩
    have hv := hv M13 e13
    refine pf_X2_24 (ws' := (WX τ ad M13)) hx hb hC hw k0 (gL_X hk0 τ ad M10) (Nat.le_of_ble_eq_true rfl) (by rw [e13]; exact sL_4 hk0 τ ad M10 _) dX2_add_36 (fun H locs hw => ?_)
    have hM : MR M13 := by rw [e13]; exact hM.put hk0.pos c12
    exact k_vret (wq_X τ ad) hx hb hr hlk hw hM hv dX2_add_39
set_option maxHeartbeats 4000000 in
set_option maxRecDepth 100000 in
theorem mX2_addLetter (l : Launch) (D : va_G) (τ : Nat → ClassId) (ad : Nat → Nat) (sA sV : Nat → Nat) (sz : Nat) (k0 : Nat) (p1 : Int) (hk0 : isL k0) (hp1 : iR p1) (M : Mem) (hM : MR M) (Q : Mem → Prop) (hv : qX2_addLetter k0 p1 M Q) : Met l yX2_addLetter (lw_w yX2_addLetter cX2_addLetter 2 none) (rmk 2 0 0) (kPc D τ sA sV (WX τ ad M) sz [.ref (ad k0), .int (iI p1)]) (gQv D (EQv (WX τ ad) MR Q) (va_A (WX τ ad M) sz)) 0 0 (va_A (WX τ ad M) sz) := by
  refine k_met (ret := none) (Qc := gQv D (EQv (WX τ ad) MR Q)) (by decide +kernel) (Nat.le_of_ble_eq_true rfl) ?_
  intro p e s m args below meth c A ls hx hb hml hr hlk hnm hC hLS hA hw hl
  have hC : cx D τ s m args RX2 := hC
  have hl : lv_has ls 2 [(0, .ref (ad k0)), (1, .int (iI p1))] := hl
  unfold qX2_addLetter at hv
  refine lv_aload_n hx hb dX2_addLetter_0 rfl (lv_at hl 0 rfl) ?_
  refine r_sipush hx hb dX2_addLetter_1 (by decide +kernel) ?_
  refine lv_iload_n hx hb dX2_addLetter_4 rfl (lv_at hl 1 rfl) ?_
  refine k_cVv (wq_X τ ad) hx hb hml hC hLS hA hw hl.1 (mX2_add l D τ ad sA sV _ k0 301 p1 hk0 (by decide) hp1 M hM _ hv) kX2_add ml_X2_34 rfl (gL_X hk0 τ ad M) rfl rfl (Nat.le_of_ble_eq_true rfl) (rm_ok (by decide) (by decide)) ⟨Nat.zero_le _, Nat.zero_le _⟩ dX2_addLetter_5 (fun M1 H locs hM hv hw => ?_)
  refine lv_aload_n hx hb dX2_addLetter_8 rfl (lv_at hl 0 rfl) ?_
  refine lv_dup hx hb dX2_addLetter_9 rfl ?_
  refine gf_X2_28 hx hb hC hw k0 (gL_X hk0 τ ad M1) rfl dX2_addLetter_10 ?_
  refine r_top (fun x2 e2 => ?_)
  have g2 : iR x2 := by rw [e2]; exact hM.get hk0.pos _
  have hv := hv x2 e2 g2
  refine r_iconst hx hb dX2_addLetter_13 ?_
  refine lv_iload_n hx hb dX2_addLetter_14 rfl (lv_at hl 1 rfl) ?_
  refine r_ishlF hx hb dX2_addLetter_15 (fun x3 e3 g3 => ?_)
  have hv := hv x3 e3 g3
  refine r_iorF hx hb dX2_addLetter_16 (fun x4 e4 g4 => ?_)
  have hv := hv x4 e4 g4
  obtain ⟨M5, e5⟩ : ∃ M5 : Mem, M5 = up2 M1 k0 5 x4 := ⟨_, rfl⟩
  have hv := hv M5 e5
  refine pf_X2_28 (ws' := (WX τ ad M5)) hx hb hC hw k0 (gL_X hk0 τ ad M1) (Nat.le_of_ble_eq_true rfl) (by rw [e5]; exact sL_5 hk0 τ ad M1 _) dX2_addLetter_17 (fun H locs hw => ?_)
  have hM : MR M5 := by rw [e5]; exact hM.put hk0.pos g4
  exact k_vret (wq_X τ ad) hx hb hr hlk hw hM hv dX2_addLetter_20
set_option maxHeartbeats 4000000 in
set_option maxRecDepth 100000 in
theorem mX2_clear (l : Launch) (D : va_G) (τ : Nat → ClassId) (ad : Nat → Nat) (sA sV : Nat → Nat) (sz : Nat) (k0 : Nat) (hk0 : isL k0) (M : Mem) (hM : MR M) (Q : Mem → Prop) (hv : qX2_clear k0 M Q) : Met l yX2_clear (lw_w yX2_clear cX2_clear 1 none) (rmk 1 0 0) (kPc D τ sA sV (WX τ ad M) sz [.ref (ad k0)]) (gQv D (EQv (WX τ ad) MR Q) (va_A (WX τ ad M) sz)) 0 0 (va_A (WX τ ad M) sz) := by
  refine k_met (ret := none) (Qc := gQv D (EQv (WX τ ad) MR Q)) (by decide +kernel) (Nat.le_of_ble_eq_true rfl) ?_
  intro p e s m args below meth c A ls hx hb hml hr hlk hnm hC hLS hA hw hl
  have hC : cx D τ s m args RX2 := hC
  have hl : lv_has ls 1 [(0, .ref (ad k0))] := hl
  unfold qX2_clear at hv
  refine lv_aload_n hx hb dX2_clear_0 rfl (lv_at hl 0 rfl) ?_
  refine r_iconst hx hb dX2_clear_1 ?_
  obtain ⟨M1, e1⟩ : ∃ M1 : Mem, M1 = up2 M k0 4 0 := ⟨_, rfl⟩
  have hv := hv M1 e1
  refine pf_X2_24 (ws' := (WX τ ad M1)) hx hb hC hw k0 (gL_X hk0 τ ad M) (Nat.le_of_ble_eq_true rfl) (by rw [e1]; exact sL_4 hk0 τ ad M _) dX2_clear_2 (fun H locs hw => ?_)
  have hM : MR M1 := by rw [e1]; exact hM.put hk0.pos (by decide)
  refine lv_aload_n hx hb dX2_clear_5 rfl (lv_at hl 0 rfl) ?_
  refine r_iconst hx hb dX2_clear_6 ?_
  obtain ⟨M2, e2⟩ : ∃ M2 : Mem, M2 = up2 M1 k0 5 0 := ⟨_, rfl⟩
  have hv := hv M2 e2
  refine pf_X2_28 (ws' := (WX τ ad M2)) hx hb hC hw k0 (gL_X hk0 τ ad M1) (Nat.le_of_ble_eq_true rfl) (by rw [e2]; exact sL_5 hk0 τ ad M1 _) dX2_clear_7 (fun H locs hw => ?_)
  have hM : MR M2 := by rw [e2]; exact hM.put hk0.pos (by decide)
  exact k_vret (wq_X τ ad) hx hb hr hlk hw hM hv dX2_clear_10
set_option maxHeartbeats 4000000 in
set_option maxRecDepth 100000 in
theorem mX2_becomePlain (l : Launch) (D : va_G) (τ : Nat → ClassId) (ad : Nat → Nat) (sA sV : Nat → Nat) (sz : Nat) (k0 : Nat) (hk0 : isL k0) (M : Mem) (hM : MR M) (Q : Mem → Prop) (hv : qX2_becomePlain k0 M Q) : Met l yX2_becomePlain (lw_w yX2_becomePlain cX2_becomePlain 1 none) (rmk 3 0 0) (kPc D τ sA sV (WX τ ad M) sz [.ref (ad k0)]) (gQv D (EQv (WX τ ad) MR Q) (va_A (WX τ ad M) sz)) 0 0 (va_A (WX τ ad M) sz) := by
  refine k_met (ret := none) (Qc := gQv D (EQv (WX τ ad) MR Q)) (by decide +kernel) (Nat.le_of_ble_eq_true rfl) ?_
  intro p e s m args below meth c A ls hx hb hml hr hlk hnm hC hLS hA hw hl
  have hC : cx D τ s m args RX2 := hC
  have hl : lv_has ls 1 [(0, .ref (ad k0))] := hl
  unfold qX2_becomePlain at hv
  refine lv_aload_n hx hb dX2_becomePlain_0 rfl (lv_at hl 0 rfl) ?_
  refine k_cVv (wq_X τ ad) hx hb hml hC hLS hA hw hl.1 (mX2_clear l D τ ad sA sV _ k0 hk0 M hM _ hv) kX2_clear ml_X2_31 rfl (gL_X hk0 τ ad M) rfl rfl (Nat.le_of_ble_eq_true rfl) (rm_ok (by decide) (by decide)) ⟨Nat.zero_le _, Nat.zero_le _⟩ dX2_becomePlain_1 (fun M1 H locs hM hv hw => ?_)
  refine lv_aload_n hx hb dX2_becomePlain_4 rfl (lv_at hl 0 rfl) ?_
  refine r_sipush hx hb dX2_becomePlain_5 (by decide +kernel) ?_
  refine r_iconst hx hb dX2_becomePlain_8 ?_
  refine k_cVv (wq_X τ ad) hx hb hml hC hLS hA hw hl.1 (mX2_add l D τ ad sA sV _ k0 300 1 hk0 (by decide) (by decide) M1 hM _ hv) kX2_add ml_X2_34 rfl (gL_X hk0 τ ad M1) rfl rfl (Nat.le_of_ble_eq_true rfl) (rm_ok (by decide) (by decide)) ⟨Nat.zero_le _, Nat.zero_le _⟩ dX2_becomePlain_9 (fun M2 H locs hM hv hw => ?_)
  refine lv_aload_n hx hb dX2_becomePlain_12 rfl (lv_at hl 0 rfl) ?_
  refine r_iconst hx hb dX2_becomePlain_13 ?_
  refine k_cVv (wq_X τ ad) hx hb hml hC hLS hA hw hl.1 (mX2_addLetter l D τ ad sA sV _ k0 1 hk0 (by decide) M2 hM _ hv) kX2_addLetter ml_X2_38 rfl (gL_X hk0 τ ad M2) rfl rfl (Nat.le_of_ble_eq_true rfl) (rm_ok (by decide) (by decide)) ⟨Nat.zero_le _, Nat.zero_le _⟩ dX2_becomePlain_14 (fun M3 H locs hM hv hw => ?_)
  refine lv_aload_n hx hb dX2_becomePlain_17 rfl (lv_at hl 0 rfl) ?_
  refine r_sipush hx hb dX2_becomePlain_18 (by decide +kernel) ?_
  refine r_iconst hx hb dX2_becomePlain_21 ?_
  refine k_cVv (wq_X τ ad) hx hb hml hC hLS hA hw hl.1 (mX2_add l D τ ad sA sV _ k0 300 2 hk0 (by decide) (by decide) M3 hM _ hv) kX2_add ml_X2_34 rfl (gL_X hk0 τ ad M3) rfl rfl (Nat.le_of_ble_eq_true rfl) (rm_ok (by decide) (by decide)) ⟨Nat.zero_le _, Nat.zero_le _⟩ dX2_becomePlain_22 (fun M4 H locs hM hv hw => ?_)
  refine lv_aload_n hx hb dX2_becomePlain_25 rfl (lv_at hl 0 rfl) ?_
  refine r_bipush hx hb dX2_becomePlain_26 (by decide +kernel) ?_
  refine r_iconst hx hb dX2_becomePlain_28 ?_
  refine k_cVv (wq_X τ ad) hx hb hml hC hLS hA hw hl.1 (mX2_add l D τ ad sA sV _ k0 62 0 hk0 (by decide) (by decide) M4 hM _ hv) kX2_add ml_X2_34 rfl (gL_X hk0 τ ad M4) rfl rfl (Nat.le_of_ble_eq_true rfl) (rm_ok (by decide) (by decide)) ⟨Nat.zero_le _, Nat.zero_le _⟩ dX2_becomePlain_29 (fun M5 H locs hM hv hw => ?_)
  refine lv_aload_n hx hb dX2_becomePlain_32 rfl (lv_at hl 0 rfl) ?_
  refine r_bipush hx hb dX2_becomePlain_33 (by decide +kernel) ?_
  refine r_iconst hx hb dX2_becomePlain_35 ?_
  refine k_cVv (wq_X τ ad) hx hb hml hC hLS hA hw hl.1 (mX2_add l D τ ad sA sV _ k0 43 0 hk0 (by decide) (by decide) M5 hM _ hv) kX2_add ml_X2_34 rfl (gL_X hk0 τ ad M5) rfl rfl (Nat.le_of_ble_eq_true rfl) (rm_ok (by decide) (by decide)) ⟨Nat.zero_le _, Nat.zero_le _⟩ dX2_becomePlain_36 (fun M6 H locs hM hv hw => ?_)
  exact k_vret (wq_X τ ad) hx hb hr hlk hw hM hv dX2_becomePlain_39
set_option maxHeartbeats 4000000 in
set_option maxRecDepth 100000 in
theorem mX9_addFour (l : Launch) (D : va_G) (τ : Nat → ClassId) (ad : Nat → Nat) (sA sV : Nat → Nat) (sz : Nat) (p1 : Int) (hp1 : iR p1) (M : Mem) (hM : MR M) (Q : Int → Mem → Prop) (hv : qX9_addFour p1 M Q) : Met l yX9_addFour (lw_w yX9_addFour cX9_addFour 3 (some .boolean)) (rmk 1 0 0) (kPc D τ sA sV (WX τ ad M) sz [.ref (ad 156), .int (iI p1)]) (gQi D (EQz (WX τ ad) MR Q) (va_A (WX τ ad M) sz)) 0 0 (va_A (WX τ ad M) sz) := by
  refine k_met (ret := (some .boolean)) (Qc := gQi D (EQz (WX τ ad) MR Q)) (by decide +kernel) (Nat.le_of_ble_eq_true rfl) ?_
  intro p e s m args below meth c A ls hx hb hml hr hlk hnm hC hLS hA hw hl
  have hC : cx D τ s m args RX9 := hC
  have hl : lv_has ls 3 [(0, .ref (ad 156)), (1, .int (iI p1))] := hl
  unfold qX9_addFour at hv
  have L16 : ∀ (n : Nat) (v2 : Int) (M : Mem) (H : Heap) (locs : List Loc) (ls : Array Slot), MR M → qX9_addFour_L16 p1  Q n v2 M → wS D A s.heap (WX τ ad M) H locs → lv_has ls 3 [(0, .ref (ad 156)), (1, .int (iI p1)), (2, .int (iI v2))] → W p l e (rmk 1 0 0) s m args below meth c H locs 0 0 (MQ below (gQi D (EQz (WX τ ad) MR Q) A) args s 0 0 A) (F0 m 16 ls []) := by
    intro n
    induction n with
    | zero => intro v2 M H locs ls hM hv; rw [qX9_addFour_L16] at hv; exact hv.elim
    | succ n ih =>
      intro v2 M H locs ls hM hv hw hl
      rw [qX9_addFour_L16] at hv
      refine lv_iload_n hx hb dX9_addFour_16 rfl (lv_at hl 2 rfl) ?_
      obtain ⟨c4, hv⟩ := hv
      refine r_if_lt (tgt := 52) hx hb dX9_addFour_17 (by decide) c4  (fun b5 => ?_) (fun b5 => ?_)
      · have hv := hv.1 b5
        refine r_iconst hx hb dX9_addFour_52 ?_
        exact k_zret (wq_X τ ad) hx hb hr hlk hw hM (by decide) (by decide) hv dX9_addFour_53
      · have hv := hv.2 b5
        refine lv_aload_n hx hb dX9_addFour_20 rfl (lv_at hl 0 rfl) ?_
        refine gf_X9_9 hx hb hC hw 156 (gX_156 τ ad M) rfl dX9_addFour_21 ?_
        refine lv_aload_n hx hb dX9_addFour_24 rfl (lv_at hl 0 rfl) ?_
        refine gf_X9_15 hx hb hC hw 156 (gX_156 τ ad M) rfl dX9_addFour_25 ?_
        refine r_top (fun x6 e6 => ?_)
        have g6 : iR x6 := by rw [e6]; exact hM.get (by decide) _
        have hv := hv x6 e6 g6
        refine lv_iload_n hx hb dX9_addFour_28 rfl (lv_at hl 1 rfl) ?_
        refine lv_iload_n hx hb dX9_addFour_29 rfl (lv_at hl 2 rfl) ?_
        refine r_iushrF hx hb dX9_addFour_30 (fun x7 e7 g7 => ?_)
        have hv := hv x7 e7 g7
        refine r_sipush hx hb dX9_addFour_31 (by decide +kernel) ?_
        refine r_iandF hx hb dX9_addFour_34 (fun x8 e8 g8 => ?_)
        have hv := hv x8 e8 g8
        obtain ⟨c9, hv⟩ := hv
        obtain ⟨c10, hv⟩ := hv
        obtain ⟨M11, e11⟩ : ∃ M11 : Mem, M11 = up2 M 157 x6 x8 := ⟨_, rfl⟩
        have hv := hv M11 e11
        refine r_iast (ws' := (WX τ ad M11)) hx hb hC hw 157 (gI_X aX_157 τ ad M) c9 c10 (by decide) (by rw [e11]; exact sI_X aX_157 τ ad M _ _) dX9_addFour_35 (fun H locs hw => ?_)
        have hM : MR M11 := by rw [e11]; exact hM.put aX_157.pos g8
        refine lv_aload_n hx hb dX9_addFour_36 rfl (lv_at hl 0 rfl) ?_
        refine lv_dup hx hb dX9_addFour_37 rfl ?_
        refine gf_X9_15 hx hb hC hw 156 (gX_156 τ ad M11) rfl dX9_addFour_38 ?_
        refine r_top (fun x12 e12 => ?_)
        have g12 : iR x12 := by rw [e12]; exact hM.get (by decide) _
        have hv := hv x12 e12 g12
        refine r_iconst hx hb dX9_addFour_41 ?_
        refine r_iadd (z := (x12 + 1)) hx hb dX9_addFour_42 rfl ?_
        obtain ⟨c13, hv⟩ := hv
        obtain ⟨M14, e14⟩ : ∃ M14 : Mem, M14 = up2 M11 156 1 (x12 + 1) := ⟨_, rfl⟩
        have hv := hv M14 e14
        refine pf_X9_15 (ws' := (WX τ ad M14)) hx hb hC hw 156 (gX_156 τ ad M11) (Nat.le_of_ble_eq_true rfl) (by rw [e14]; exact sX_156_1 τ ad M11 _) dX9_addFour_43 (fun H locs hw => ?_)
        have hM : MR M14 := by rw [e14]; exact hM.put (by decide) c13
        refine r_iinc (v := (v2 + (-8))) (lv' := [(2, .int (iI (v2 + (-8)))), (0, .ref (ad 156)), (1, .int (iI p1))]) hx hb dX9_addFour_46 hl (k := 2) rfl rfl (by decide) rfl (fun ls hl => ?_)
        refine lv_goto (tgt := 16) hx hb dX9_addFour_49 (by decide) ?_
        exact ih (v2 + (-8)) M14 _ _ _ hM hv hw (lv_sub hl [1, 2, 0] rfl)
  refine lv_aload_n hx hb dX9_addFour_0 rfl (lv_at hl 0 rfl) ?_
  refine gf_X9_15 hx hb hC hw 156 (gX_156 τ ad M) rfl dX9_addFour_1 ?_
  refine r_top (fun x1 e1 => ?_)
  have g1 : iR x1 := by rw [e1]; exact hM.get (by decide) _
  have hv := hv x1 e1 g1
  refine r_iconst hx hb dX9_addFour_4 ?_
  refine r_iadd (z := (x1 + 4)) hx hb dX9_addFour_5 rfl ?_
  refine r_bipush hx hb dX9_addFour_6 (by decide +kernel) ?_
  obtain ⟨c2, hv⟩ := hv
  refine r_icmp_le (tgt := 13) hx hb dX9_addFour_8 (by decide) c2 (by decide) (fun b3 => ?_) (fun b3 => ?_)
  · have hv := hv.1 b3
    refine r_bipush hx hb dX9_addFour_13 (by decide +kernel) ?_
    refine lv_istore_n (lv' := [(2, .int (iI 24)), (0, .ref (ad 156)), (1, .int (iI p1))]) hx hb dX9_addFour_15 rfl hl (by decide) rfl (fun ls hl => ?_)
    obtain ⟨n15, hv⟩ := hv
    refine L16  n15 24 M _ _ _ hM hv hw (lv_sub hl [1, 2, 0] rfl)
  · have hv := hv.2 b3
    refine r_iconst hx hb dX9_addFour_11 ?_
    exact k_zret (wq_X τ ad) hx hb hr hlk hw hM (by decide) (by decide) hv dX9_addFour_12
set_option maxHeartbeats 4000000 in
set_option maxRecDepth 100000 in
theorem mX11_sign (l : Launch) (D : va_G) (τ : Nat → ClassId) (ad : Nat → Nat) (sA sV : Nat → Nat) (sz : Nat) (p1 : Int) (hp1 : iR p1) (M : Mem) (hM : MR M) (Q : Int → Mem → Prop) (hv : qX11_sign p1 M Q) : Met l yX11_sign (lw_w yX11_sign cX11_sign 2 (some .int)) (rmk 2 0 0) (kPc D τ sA sV (WX τ ad M) sz [.ref (ad 155), .int (iI p1)]) (gQi D (EQi (WX τ ad) MR Q) (va_A (WX τ ad M) sz)) 0 0 (va_A (WX τ ad M) sz) := by
  refine k_met (ret := (some .int)) (Qc := gQi D (EQi (WX τ ad) MR Q)) (by decide +kernel) (Nat.le_of_ble_eq_true rfl) ?_
  intro p e s m args below meth c A ls hx hb hml hr hlk hnm hC hLS hA hw hl
  have hC : cx D τ s m args RX11 := hC
  have hl : lv_has ls 2 [(0, .ref (ad 155)), (1, .int (iI p1))] := hl
  unfold qX11_sign at hv
  refine lv_aload_n hx hb dX11_sign_0 rfl (lv_at hl 0 rfl) ?_
  refine gf_X11_10 hx hb hC hw 155 (gX_155 τ ad M) rfl dX11_sign_1 ?_
  refine lv_iload_n hx hb dX11_sign_4 rfl (lv_at hl 1 rfl) ?_
  refine k_cVz (wq_X τ ad) hx hb hml hC hLS hA hw hl.1 (mX9_addFour l D τ ad sA sV _ p1 hp1 M hM _ hv) kX9_addFour ml_X11_115 rfl (gX_156 τ ad M) rfl rfl (Nat.le_of_ble_eq_true rfl) (rm_ok (by decide) (by decide)) ⟨Nat.zero_le _, Nat.zero_le _⟩ dX11_sign_5 (fun x1 M1 H locs g1 z1 hM hv hw => ?_)
  have hv := hv g1 z1
  refine r_if_eq (tgt := 21) hx hb dX11_sign_8 (by decide) g1  (fun b2 => ?_) (fun b2 => ?_)
  · have hv := hv.1 b2
    refine r_iconst hx hb dX11_sign_21 ?_
    exact k_iret (wq_X τ ad) hx hb hr hlk hw hM (by decide) hv dX11_sign_22
  · have hv := hv.2 b2
    refine lv_aload_n hx hb dX11_sign_11 rfl (lv_at hl 0 rfl) ?_
    refine gf_X11_10 hx hb hC hw 155 (gX_155 τ ad M1) rfl dX11_sign_12 ?_
    refine gf_X11_119 hx hb hC hw 156 (gX_156 τ ad M1) rfl dX11_sign_15 ?_
    refine r_top (fun x3 e3 => ?_)
    have g3 : iR x3 := by rw [e3]; exact hM.get (by decide) _
    have hv := hv x3 e3 g3
    refine lv_goto (tgt := 22) hx hb dX11_sign_18 (by decide) ?_
    exact k_iret (wq_X τ ad) hx hb hr hlk hw hM g3 hv dX11_sign_22
set_option maxHeartbeats 4000000 in
set_option maxRecDepth 100000 in
theorem mX9_cutTo (l : Launch) (D : va_G) (τ : Nat → ClassId) (ad : Nat → Nat) (sA sV : Nat → Nat) (sz : Nat) (p1 : Int) (hp1 : iR p1) (M : Mem) (hM : MR M) (Q : Int → Mem → Prop) (hv : qX9_cutTo p1 M Q) : Met l yX9_cutTo (lw_w yX9_cutTo cX9_cutTo 2 (some .boolean)) (rmk 1 0 0) (kPc D τ sA sV (WX τ ad M) sz [.ref (ad 156), .int (iI p1)]) (gQi D (EQz (WX τ ad) MR Q) (va_A (WX τ ad M) sz)) 0 0 (va_A (WX τ ad M) sz) := by
  refine k_met (ret := (some .boolean)) (Qc := gQi D (EQz (WX τ ad) MR Q)) (by decide +kernel) (Nat.le_of_ble_eq_true rfl) ?_
  intro p e s m args below meth c A ls hx hb hml hr hlk hnm hC hLS hA hw hl
  have hC : cx D τ s m args RX9 := hC
  have hl : lv_has ls 2 [(0, .ref (ad 156)), (1, .int (iI p1))] := hl
  unfold qX9_cutTo at hv
  refine lv_iload_n hx hb dX9_cutTo_0 rfl (lv_at hl 1 rfl) ?_
  refine r_if_lt (tgt := 12) hx hb dX9_cutTo_1 (by decide) hp1  (fun b1 => ?_) (fun b1 => ?_)
  · have hv := hv.1 b1
    refine r_iconst hx hb dX9_cutTo_12 ?_
    exact k_zret (wq_X τ ad) hx hb hr hlk hw hM (by decide) (by decide) hv dX9_cutTo_13
  · have hv := hv.2 b1
    refine lv_iload_n hx hb dX9_cutTo_4 rfl (lv_at hl 1 rfl) ?_
    refine lv_aload_n hx hb dX9_cutTo_5 rfl (lv_at hl 0 rfl) ?_
    refine gf_X9_15 hx hb hC hw 156 (gX_156 τ ad M) rfl dX9_cutTo_6 ?_
    refine r_top (fun x2 e2 => ?_)
    have g2 : iR x2 := by rw [e2]; exact hM.get (by decide) _
    have hv := hv x2 e2 g2
    refine r_icmp_le (tgt := 14) hx hb dX9_cutTo_9 (by decide) hp1 g2 (fun b3 => ?_) (fun b3 => ?_)
    · have hv := hv.1 b3
      refine lv_aload_n hx hb dX9_cutTo_14 rfl (lv_at hl 0 rfl) ?_
      refine lv_iload_n hx hb dX9_cutTo_15 rfl (lv_at hl 1 rfl) ?_
      obtain ⟨M4, e4⟩ : ∃ M4 : Mem, M4 = up2 M 156 1 p1 := ⟨_, rfl⟩
      have hv := hv M4 e4
      refine pf_X9_15 (ws' := (WX τ ad M4)) hx hb hC hw 156 (gX_156 τ ad M) (Nat.le_of_ble_eq_true rfl) (by rw [e4]; exact sX_156_1 τ ad M _) dX9_cutTo_16 (fun H locs hw => ?_)
      have hM : MR M4 := by rw [e4]; exact hM.put (by decide) hp1
      refine r_iconst hx hb dX9_cutTo_19 ?_
      exact k_zret (wq_X τ ad) hx hb hr hlk hw hM (by decide) (by decide) hv dX9_cutTo_20
    · have hv := hv.2 b3
      refine r_iconst hx hb dX9_cutTo_12 ?_
      exact k_zret (wq_X τ ad) hx hb hr hlk hw hM (by decide) (by decide) hv dX9_cutTo_13
set_option maxHeartbeats 4000000 in
set_option maxRecDepth 100000 in
theorem mX11_end (l : Launch) (D : va_G) (τ : Nat → ClassId) (ad : Nat → Nat) (sA sV : Nat → Nat) (sz : Nat) (p1 : Int) (hp1 : iR p1) (M : Mem) (hM : MR M) (Q : Int → Mem → Prop) (hv : qX11_end p1 M Q) : Met l yX11_end (lw_w yX11_end cX11_end 2 (some .boolean)) (rmk 2 0 0) (kPc D τ sA sV (WX τ ad M) sz [.ref (ad 155), .int (iI p1)]) (gQi D (EQz (WX τ ad) MR Q) (va_A (WX τ ad M) sz)) 0 0 (va_A (WX τ ad M) sz) := by
  refine k_met (ret := (some .boolean)) (Qc := gQi D (EQz (WX τ ad) MR Q)) (by decide +kernel) (Nat.le_of_ble_eq_true rfl) ?_
  intro p e s m args below meth c A ls hx hb hml hr hlk hnm hC hLS hA hw hl
  have hC : cx D τ s m args RX11 := hC
  have hl : lv_has ls 2 [(0, .ref (ad 155)), (1, .int (iI p1))] := hl
  unfold qX11_end at hv
  refine lv_aload_n hx hb dX11_end_0 rfl (lv_at hl 0 rfl) ?_
  refine gf_X11_10 hx hb hC hw 155 (gX_155 τ ad M) rfl dX11_end_1 ?_
  refine lv_iload_n hx hb dX11_end_4 rfl (lv_at hl 1 rfl) ?_
  refine k_cVz (wq_X τ ad) hx hb hml hC hLS hA hw hl.1 (mX9_cutTo l D τ ad sA sV _ p1 hp1 M hM _ hv) kX9_cutTo ml_X11_122 rfl (gX_156 τ ad M) rfl rfl (Nat.le_of_ble_eq_true rfl) (rm_ok (by decide) (by decide)) ⟨Nat.zero_le _, Nat.zero_le _⟩ dX11_end_5 (fun x1 M1 H locs g1 z1 hM hv hw => ?_)
  have hv := hv g1 z1
  obtain ⟨c2, hv⟩ := hv
  exact k_zret (wq_X τ ad) hx hb hr hlk hw hM g1 c2 hv dX11_end_8
set_option maxHeartbeats 4000000 in
set_option maxRecDepth 100000 in
theorem mX9_signAt (l : Launch) (D : va_G) (τ : Nat → ClassId) (ad : Nat → Nat) (sA sV : Nat → Nat) (sz : Nat) (p1 : Int) (hp1 : iR p1) (M : Mem) (hM : MR M) (Q : Int → Mem → Prop) (hv : qX9_signAt p1 M Q) : Met l yX9_signAt (lw_w yX9_signAt cX9_signAt 2 (some .int)) (rmk 1 0 0) (kPc D τ sA sV (WX τ ad M) sz [.ref (ad 156), .int (iI p1)]) (gQi D (EQi (WX τ ad) MR Q) (va_A (WX τ ad M) sz)) 0 0 (va_A (WX τ ad M) sz) := by
  refine k_met (ret := (some .int)) (Qc := gQi D (EQi (WX τ ad) MR Q)) (by decide +kernel) (Nat.le_of_ble_eq_true rfl) ?_
  intro p e s m args below meth c A ls hx hb hml hr hlk hnm hC hLS hA hw hl
  have hC : cx D τ s m args RX9 := hC
  have hl : lv_has ls 2 [(0, .ref (ad 156)), (1, .int (iI p1))] := hl
  unfold qX9_signAt at hv
  refine lv_iload_n hx hb dX9_signAt_0 rfl (lv_at hl 1 rfl) ?_
  refine r_if_lt (tgt := 21) hx hb dX9_signAt_1 (by decide) hp1  (fun b1 => ?_) (fun b1 => ?_)
  · have hv := hv.1 b1
    refine r_iconst hx hb dX9_signAt_21 ?_
    exact k_iret (wq_X τ ad) hx hb hr hlk hw hM (by decide) hv dX9_signAt_22
  · have hv := hv.2 b1
    refine lv_iload_n hx hb dX9_signAt_4 rfl (lv_at hl 1 rfl) ?_
    refine lv_aload_n hx hb dX9_signAt_5 rfl (lv_at hl 0 rfl) ?_
    refine gf_X9_15 hx hb hC hw 156 (gX_156 τ ad M) rfl dX9_signAt_6 ?_
    refine r_top (fun x2 e2 => ?_)
    have g2 : iR x2 := by rw [e2]; exact hM.get (by decide) _
    have hv := hv x2 e2 g2
    refine r_icmp_ge (tgt := 21) hx hb dX9_signAt_9 (by decide) hp1 g2 (fun b3 => ?_) (fun b3 => ?_)
    · have hv := hv.1 b3
      refine r_iconst hx hb dX9_signAt_21 ?_
      exact k_iret (wq_X τ ad) hx hb hr hlk hw hM (by decide) hv dX9_signAt_22
    · have hv := hv.2 b3
      refine lv_aload_n hx hb dX9_signAt_12 rfl (lv_at hl 0 rfl) ?_
      refine gf_X9_9 hx hb hC hw 156 (gX_156 τ ad M) rfl dX9_signAt_13 ?_
      refine lv_iload_n hx hb dX9_signAt_16 rfl (lv_at hl 1 rfl) ?_
      obtain ⟨c4, hv⟩ := hv
      obtain ⟨c5, hv⟩ := hv
      refine r_iald hx hb hC hw 157 (gI_X aX_157 τ ad M) c4 c5 (by decide) dX9_signAt_17 ?_
      refine r_top (fun x6 e6 => ?_)
      have g6 : iR x6 := by rw [e6]; exact hM.get aX_157.pos _
      have hv := hv x6 e6 g6
      refine lv_goto (tgt := 22) hx hb dX9_signAt_18 (by decide) ?_
      exact k_iret (wq_X τ ad) hx hb hr hlk hw hM g6 hv dX9_signAt_22
set_option maxHeartbeats 4000000 in
set_option maxRecDepth 100000 in
theorem mX11_avenueFault (l : Launch) (D : va_G) (τ : Nat → ClassId) (ad : Nat → Nat) (sA sV : Nat → Nat) (sz : Nat)   (M : Mem) (hM : MR M) (Q : Int → Mem → Prop) (hv : qX11_avenueFault  M Q) : Met l yX11_avenueFault (lw_w yX11_avenueFault cX11_avenueFault 3 (some .int)) (rmk 2 0 0) (kPc D τ sA sV (WX τ ad M) sz [.ref (ad 155)]) (gQi D (EQi (WX τ ad) MR Q) (va_A (WX τ ad M) sz)) 0 0 (va_A (WX τ ad M) sz) := by
  refine k_met (ret := (some .int)) (Qc := gQi D (EQi (WX τ ad) MR Q)) (by decide +kernel) (Nat.le_of_ble_eq_true rfl) ?_
  intro p e s m args below meth c A ls hx hb hml hr hlk hnm hC hLS hA hw hl
  have hC : cx D τ s m args RX11 := hC
  have hl : lv_has ls 3 [(0, .ref (ad 155))] := hl
  unfold qX11_avenueFault at hv
  have L2 : ∀ (X48 : Mem → Prop), (∀  (M : Mem) (H : Heap) (locs : List Loc) (ls : Array Slot), MR M → X48  M → wS D A s.heap (WX τ ad M) H locs → lv_has ls 3 [(0, .ref (ad 155))] → W p l e (rmk 2 0 0) s m args below meth c H locs 0 0 (MQ below (gQi D (EQi (WX τ ad) MR Q) A) args s 0 0 A) (F0 m 48 ls [])) → ∀ (n : Nat) (v1 : Int) (M : Mem) (H : Heap) (locs : List Loc) (ls : Array Slot), MR M → qX11_avenueFault_L2  X48 Q n v1 M → wS D A s.heap (WX τ ad M) H locs → lv_has ls 3 [(0, .ref (ad 155)), (1, .int (iI v1))] → W p l e (rmk 2 0 0) s m args below meth c H locs 0 0 (MQ below (gQi D (EQi (WX τ ad) MR Q) A) args s 0 0 A) (F0 m 2 ls []) := by
    intro X48 hX48 n
    induction n with
    | zero => intro v1 M H locs ls hM hv; rw [qX11_avenueFault_L2] at hv; exact hv.elim
    | succ n ih =>
      intro v1 M H locs ls hM hv hw hl
      rw [qX11_avenueFault_L2] at hv
      refine lv_iload_n hx hb dX11_avenueFault_2 rfl (lv_at hl 1 rfl) ?_
      refine lv_aload_n hx hb dX11_avenueFault_3 rfl (lv_at hl 0 rfl) ?_
      refine gf_X11_10 hx hb hC hw 155 (gX_155 τ ad M) rfl dX11_avenueFault_4 ?_
      refine gf_X11_119 hx hb hC hw 156 (gX_156 τ ad M) rfl dX11_avenueFault_7 ?_
      refine r_top (fun x1 e1 => ?_)
      have g1 : iR x1 := by rw [e1]; exact hM.get (by decide) _
      have hv := hv x1 e1 g1
      obtain ⟨c2, hv⟩ := hv
      refine r_icmp_ge (tgt := 48) hx hb dX11_avenueFault_10 (by decide) c2 g1 (fun b3 => ?_) (fun b3 => ?_)
      · have hv := hv.1 b3
        exact hX48  M _ _ _ hM hv hw (lv_sub hl [0] rfl)
      · have hv := hv.2 b3
        refine lv_aload_n hx hb dX11_avenueFault_13 rfl (lv_at hl 0 rfl) ?_
        refine gf_X11_10 hx hb hC hw 155 (gX_155 τ ad M) rfl dX11_avenueFault_14 ?_
        refine lv_iload_n hx hb dX11_avenueFault_17 rfl (lv_at hl 1 rfl) ?_
        refine k_cVi (wq_X τ ad) hx hb hml hC hLS hA hw hl.1 (mX9_signAt l D τ ad sA sV _ v1 c2 M hM _ hv) kX9_signAt ml_X11_141 rfl (gX_156 τ ad M) rfl rfl (Nat.le_of_ble_eq_true rfl) (rm_ok (by decide) (by decide)) ⟨Nat.zero_le _, Nat.zero_le _⟩ dX11_avenueFault_18 (fun x4 M4 H locs g4 hM hv hw => ?_)
        have hv := hv g4
        refine lv_istore_n (lv' := [(2, .int (iI x4)), (0, .ref (ad 155)), (1, .int (iI v1))]) hx hb dX11_avenueFault_21 rfl hl (by decide) rfl (fun ls hl => ?_)
        refine lv_iload_n hx hb dX11_avenueFault_22 rfl (lv_at hl 2 rfl) ?_
        refine r_bipush hx hb dX11_avenueFault_23 (by decide +kernel) ?_
        refine r_icmp_eq (tgt := 40) hx hb dX11_avenueFault_25 (by decide) c2 (by decide) (fun b5 => ?_) (fun b5 => ?_)
        · have hv := hv.1 b5
          refine lv_iload_n hx hb dX11_avenueFault_40 rfl (lv_at hl 2 rfl) ?_
          exact k_iret (wq_X τ ad) hx hb hr hlk hw hM c2 hv dX11_avenueFault_41
        · have hv := hv.2 b5
          refine lv_iload_n hx hb dX11_avenueFault_28 rfl (lv_at hl 0 rfl) ?_
          refine r_bipush hx hb dX11_avenueFault_29 (by decide +kernel) ?_
          refine r_icmp_eq (tgt := 42) hx hb dX11_avenueFault_31 (by decide) g4 (by decide) (fun b6 => ?_) (fun b6 => ?_)
          · have hv := hv.1 b6
            refine r_iinc (v := (v1 + 1)) (lv' := [(1, .int (iI (v1 + 1))), (2, .int (iI x4)), (0, .ref (ad 155))]) hx hb dX11_avenueFault_42 hl (k := 2) rfl rfl (by decide) rfl (fun ls hl => ?_)
            refine lv_goto (tgt := 2) hx hb dX11_avenueFault_45 (by decide) ?_
            exact ih (v1 + 1) M4 _ _ _ hM hv hw (lv_sub hl [2, 0] rfl)
          · have hv := hv.2 b6
            refine lv_iload_n hx hb dX11_avenueFault_34 rfl (lv_at hl 0 rfl) ?_
            refine r_bipush hx hb dX11_avenueFault_35 (by decide +kernel) ?_
            refine r_icmp_eq (tgt := 42) hx hb dX11_avenueFault_37 (by decide) g4 (by decide) (fun b7 => ?_) (fun b7 => ?_)
            · have hv := hv.1 b7
              refine r_iinc (v := (v1 + 1)) (lv' := [(1, .int (iI (v1 + 1))), (2, .int (iI x4)), (0, .ref (ad 155))]) hx hb dX11_avenueFault_42 hl (k := 2) rfl rfl (by decide) rfl (fun ls hl => ?_)
              refine lv_goto (tgt := 2) hx hb dX11_avenueFault_45 (by decide) ?_
              exact ih (v1 + 1) M4 _ _ _ hM hv hw (lv_sub hl [2, 0] rfl)
            · have hv := hv.2 b7
              refine lv_iload_n hx hb dX11_avenueFault_40 rfl (lv_at hl 2 rfl) ?_
              exact k_iret (wq_X τ ad) hx hb hr hlk hw hM c2 hv dX11_avenueFault_41
  refine r_iconst hx hb dX11_avenueFault_0 ?_
  refine lv_istore_n (lv' := [(1, .int (iI 0)), (0, .ref (ad 155))]) hx hb dX11_avenueFault_1 rfl hl (by decide) rfl (fun ls hl => ?_)
  obtain ⟨n8, hv⟩ := hv
  refine L2 _ ?_ n8 0 M _ _ _ hM hv hw (lv_sub hl [1, 0] rfl)
  · intro  M H locs ls hM hv hw hl
    refine lv_aload_n hx hb dX11_avenueFault_48 rfl (lv_at hl 0 rfl) ?_
    refine gf_X11_10 hx hb hC hw 155 (gX_155 τ ad M) rfl dX11_avenueFault_49 ?_
    refine gf_X11_119 hx hb hC hw 156 (gX_156 τ ad M) rfl dX11_avenueFault_52 ?_
    refine r_top (fun x9 e9 => ?_)
    have g9 : iR x9 := by rw [e9]; exact hM.get (by decide) _
    have hv := hv x9 e9 g9
    refine r_iconst hx hb dX11_avenueFault_55 ?_
    refine r_icmp_ge (tgt := 69) hx hb dX11_avenueFault_56 (by decide) g9 (by decide) (fun b10 => ?_) (fun b10 => ?_)
    · have hv := hv.1 b10
      refine r_iconst hx hb dX11_avenueFault_69 ?_
      exact k_iret (wq_X τ ad) hx hb hr hlk hw hM (by decide) hv dX11_avenueFault_70
    · have hv := hv.2 b10
      refine lv_aload_n hx hb dX11_avenueFault_59 rfl (lv_at hl 0 rfl) ?_
      refine gf_X11_10 hx hb hC hw 155 (gX_155 τ ad M) rfl dX11_avenueFault_60 ?_
      refine gf_X11_119 hx hb hC hw 156 (gX_156 τ ad M) rfl dX11_avenueFault_63 ?_
      refine r_top (fun x11 e11 => ?_)
      have g11 : iR x11 := by rw [e11]; exact hM.get (by decide) _
      have hv := hv x11 e11 g11
      refine lv_goto (tgt := 70) hx hb dX11_avenueFault_66 (by decide) ?_
      exact k_iret (wq_X τ ad) hx hb hr hlk hw hM g11 hv dX11_avenueFault_70
set_option maxHeartbeats 4000000 in
set_option maxRecDepth 100000 in
theorem mX11_forgetKept (l : Launch) (D : va_G) (τ : Nat → ClassId) (ad : Nat → Nat) (sA sV : Nat → Nat) (sz : Nat)   (M : Mem) (hM : MR M) (Q : Mem → Prop) (hv : qX11_forgetKept  M Q) : Met l yX11_forgetKept (lw_w yX11_forgetKept cX11_forgetKept 2 none) (rmk 1 0 0) (kPc D τ sA sV (WX τ ad M) sz [.ref (ad 155)]) (gQv D (EQv (WX τ ad) MR Q) (va_A (WX τ ad M) sz)) 0 0 (va_A (WX τ ad M) sz) := by
  refine k_met (ret := none) (Qc := gQv D (EQv (WX τ ad) MR Q)) (by decide +kernel) (Nat.le_of_ble_eq_true rfl) ?_
  intro p e s m args below meth c A ls hx hb hml hr hlk hnm hC hLS hA hw hl
  have hC : cx D τ s m args RX11 := hC
  have hl : lv_has ls 2 [(0, .ref (ad 155))] := hl
  unfold qX11_forgetKept at hv
  have L2 : ∀ (n : Nat) (v1 : Int) (M : Mem) (H : Heap) (locs : List Loc) (ls : Array Slot), MR M → qX11_forgetKept_L2   Q n v1 M → wS D A s.heap (WX τ ad M) H locs → lv_has ls 2 [(0, .ref (ad 155)), (1, .int (iI v1))] → W p l e (rmk 1 0 0) s m args below meth c H locs 0 0 (MQ below (gQv D (EQv (WX τ ad) MR Q) A) args s 0 0 A) (F0 m 2 ls []) := by
    intro n
    induction n with
    | zero => intro v1 M H locs ls hM hv; rw [qX11_forgetKept_L2] at hv; exact hv.elim
    | succ n ih =>
      intro v1 M H locs ls hM hv hw hl
      rw [qX11_forgetKept_L2] at hv
      refine lv_iload_n hx hb dX11_forgetKept_2 rfl (lv_at hl 1 rfl) ?_
      refine r_iconst hx hb dX11_forgetKept_3 ?_
      obtain ⟨c1, hv⟩ := hv
      refine r_icmp_ge (tgt := 20) hx hb dX11_forgetKept_4 (by decide) c1 (by decide) (fun b2 => ?_) (fun b2 => ?_)
      · have hv := hv.1 b2
        exact k_vret (wq_X τ ad) hx hb hr hlk hw hM hv dX11_forgetKept_20
      · have hv := hv.2 b2
        refine lv_aload_n hx hb dX11_forgetKept_7 rfl (lv_at hl 0 rfl) ?_
        refine gf_X11_59 hx hb hC hw 155 (gX_155 τ ad M) rfl dX11_forgetKept_8 ?_
        refine lv_iload_n hx hb dX11_forgetKept_11 rfl (lv_at hl 1 rfl) ?_
        refine r_iconst hx hb dX11_forgetKept_12 ?_
        obtain ⟨c3, hv⟩ := hv
        obtain ⟨c4, hv⟩ := hv
        obtain ⟨M5, e5⟩ : ∃ M5 : Mem, M5 = up2 M 166 v1 0 := ⟨_, rfl⟩
        have hv := hv M5 e5
        refine r_zast (ws' := (WX τ ad M5)) hx hb hC hw 166 (gZ_X aX_166 τ ad M) c3 c4 (by decide) (by decide) (by rw [e5]; exact sZ_X aX_166 τ ad M _ _) dX11_forgetKept_13 (fun H locs hw => ?_)
        have hM : MR M5 := by rw [e5]; exact hM.put aX_166.pos (by decide)
        refine r_iinc (v := (v1 + 1)) (lv' := [(1, .int (iI (v1 + 1))), (0, .ref (ad 155))]) hx hb dX11_forgetKept_14 hl (k := 1) rfl rfl (by decide) rfl (fun ls hl => ?_)
        refine lv_goto (tgt := 2) hx hb dX11_forgetKept_17 (by decide) ?_
        exact ih (v1 + 1) M5 _ _ _ hM hv hw (lv_sub hl [1, 0] rfl)
  refine r_iconst hx hb dX11_forgetKept_0 ?_
  refine lv_istore_n (lv' := [(1, .int (iI 0)), (0, .ref (ad 155))]) hx hb dX11_forgetKept_1 rfl hl (by decide) rfl (fun ls hl => ?_)
  obtain ⟨n6, hv⟩ := hv
  refine L2  n6 0 M _ _ _ hM hv hw (lv_sub hl [1, 0] rfl)
set_option maxHeartbeats 4000000 in
set_option maxRecDepth 100000 in
theorem mX1_clear (l : Launch) (D : va_G) (τ : Nat → ClassId) (ad : Nat → Nat) (sA sV : Nat → Nat) (sz : Nat)   (M : Mem) (hM : MR M) (Q : Mem → Prop) (hv : qX1_clear  M Q) : Met l yX1_clear (lw_w yX1_clear cX1_clear 1 none) (rmk 1 0 0) (kPc D τ sA sV (WX τ ad M) sz [.ref (ad 163)]) (gQv D (EQv (WX τ ad) MR Q) (va_A (WX τ ad M) sz)) 0 0 (va_A (WX τ ad M) sz) := by
  refine k_met (ret := none) (Qc := gQv D (EQv (WX τ ad) MR Q)) (by decide +kernel) (Nat.le_of_ble_eq_true rfl) ?_
  intro p e s m args below meth c A ls hx hb hml hr hlk hnm hC hLS hA hw hl
  have hC : cx D τ s m args RX1 := hC
  have hl : lv_has ls 1 [(0, .ref (ad 163))] := hl
  unfold qX1_clear at hv
  refine lv_aload_n hx hb dX1_clear_0 rfl (lv_at hl 0 rfl) ?_
  refine r_iconst hx hb dX1_clear_1 ?_
  obtain ⟨M1, e1⟩ : ∃ M1 : Mem, M1 = up2 M 163 2 0 := ⟨_, rfl⟩
  have hv := hv M1 e1
  refine pf_X1_21 (ws' := (WX τ ad M1)) hx hb hC hw 163 (gX_163 τ ad M) (Nat.le_of_ble_eq_true rfl) (by rw [e1]; exact sX_163_2 τ ad M _) dX1_clear_2 (fun H locs hw => ?_)
  have hM : MR M1 := by rw [e1]; exact hM.put (by decide) (by decide)
  exact k_vret (wq_X τ ad) hx hb hr hlk hw hM hv dX1_clear_5
set_option maxHeartbeats 4000000 in
set_option maxRecDepth 100000 in
theorem mX6_clear (l : Launch) (D : va_G) (τ : Nat → ClassId) (ad : Nat → Nat) (sA sV : Nat → Nat) (sz : Nat) (k0 : Nat) (hk0 : isS k0) (M : Mem) (hM : MR M) (Q : Mem → Prop) (hv : qX6_clear k0 M Q) : Met l yX6_clear (lw_w yX6_clear cX6_clear 1 none) (rmk 1 0 0) (kPc D τ sA sV (WX τ ad M) sz [.ref (ad k0)]) (gQv D (EQv (WX τ ad) MR Q) (va_A (WX τ ad M) sz)) 0 0 (va_A (WX τ ad M) sz) := by
  refine k_met (ret := none) (Qc := gQv D (EQv (WX τ ad) MR Q)) (by decide +kernel) (Nat.le_of_ble_eq_true rfl) ?_
  intro p e s m args below meth c A ls hx hb hml hr hlk hnm hC hLS hA hw hl
  have hC : cx D τ s m args RX6 := hC
  have hl : lv_has ls 1 [(0, .ref (ad k0))] := hl
  unfold qX6_clear at hv
  refine lv_aload_n hx hb dX6_clear_0 rfl (lv_at hl 0 rfl) ?_
  refine r_iconst hx hb dX6_clear_1 ?_
  obtain ⟨M1, e1⟩ : ∃ M1 : Mem, M1 = up2 M k0 6 0 := ⟨_, rfl⟩
  have hv := hv M1 e1
  refine pf_X6_30 (ws' := (WX τ ad M1)) hx hb hC hw k0 (gS_X hk0 τ ad M) (Nat.le_of_ble_eq_true rfl) (by rw [e1]; exact sS_6 hk0 τ ad M _) dX6_clear_2 (fun H locs hw => ?_)
  have hM : MR M1 := by rw [e1]; exact hM.put hk0.pos (by decide)
  refine lv_aload_n hx hb dX6_clear_5 rfl (lv_at hl 0 rfl) ?_
  refine r_iconst hx hb dX6_clear_6 ?_
  obtain ⟨M2, e2⟩ : ∃ M2 : Mem, M2 = up2 M1 k0 7 0 := ⟨_, rfl⟩
  have hv := hv M2 e2
  refine pf_X6_34 (ws' := (WX τ ad M2)) hx hb hC hw k0 (gS_X hk0 τ ad M1) (Nat.le_of_ble_eq_true rfl) (by rw [e2]; exact sS_7 hk0 τ ad M1 _) dX6_clear_7 (fun H locs hw => ?_)
  have hM : MR M2 := by rw [e2]; exact hM.put hk0.pos (by decide)
  refine lv_aload_n hx hb dX6_clear_10 rfl (lv_at hl 0 rfl) ?_
  refine r_iconst hx hb dX6_clear_11 ?_
  obtain ⟨M3, e3⟩ : ∃ M3 : Mem, M3 = up2 M2 k0 8 0 := ⟨_, rfl⟩
  have hv := hv M3 e3
  refine pf_X6_37 (ws' := (WX τ ad M3)) hx hb hC hw k0 (gS_X hk0 τ ad M2) (Nat.le_of_ble_eq_true rfl) (by rw [e3]; exact sS_8 hk0 τ ad M2 _) dX6_clear_12 (fun H locs hw => ?_)
  have hM : MR M3 := by rw [e3]; exact hM.put hk0.pos (by decide)
  refine lv_aload_n hx hb dX6_clear_15 rfl (lv_at hl 0 rfl) ?_
  refine r_iconst hx hb dX6_clear_16 ?_
  obtain ⟨M4, e4⟩ : ∃ M4 : Mem, M4 = up2 M3 k0 9 0 := ⟨_, rfl⟩
  have hv := hv M4 e4
  refine pf_X6_40 (ws' := (WX τ ad M4)) hx hb hC hw k0 (gS_X hk0 τ ad M3) (Nat.le_of_ble_eq_true rfl) (by rw [e4]; exact sS_9 hk0 τ ad M3 _) dX6_clear_17 (fun H locs hw => ?_)
  have hM : MR M4 := by rw [e4]; exact hM.put hk0.pos (by decide)
  refine lv_aload_n hx hb dX6_clear_20 rfl (lv_at hl 0 rfl) ?_
  refine r_iconst hx hb dX6_clear_21 ?_
  obtain ⟨M5, e5⟩ : ∃ M5 : Mem, M5 = up2 M4 k0 10 0 := ⟨_, rfl⟩
  have hv := hv M5 e5
  refine pf_X6_43 (ws' := (WX τ ad M5)) hx hb hC hw k0 (gS_X hk0 τ ad M4) (Nat.le_of_ble_eq_true rfl) (by rw [e5]; exact sS_10 hk0 τ ad M4 _) dX6_clear_22 (fun H locs hw => ?_)
  have hM : MR M5 := by rw [e5]; exact hM.put hk0.pos (by decide)
  exact k_vret (wq_X τ ad) hx hb hr hlk hw hM hv dX6_clear_25
set_option maxHeartbeats 4000000 in
set_option maxRecDepth 100000 in
theorem mX8_become (l : Launch) (D : va_G) (τ : Nat → ClassId) (ad : Nat → Nat) (sA sV : Nat → Nat) (sz : Nat)   (M : Mem) (hM : MR M) (Q : Mem → Prop) (hv : qX8_become  M Q) : Met l yX8_become (lw_w yX8_become cX8_become 3 none) (rmk 2 0 0) (kPc D τ sA sV (WX τ ad M) sz [.ref (ad 158), .ref (ad 156)]) (gQv D (EQv (WX τ ad) MR Q) (va_A (WX τ ad M) sz)) 0 0 (va_A (WX τ ad M) sz) := by
  refine k_met (ret := none) (Qc := gQv D (EQv (WX τ ad) MR Q)) (by decide +kernel) (Nat.le_of_ble_eq_true rfl) ?_
  intro p e s m args below meth c A ls hx hb hml hr hlk hnm hC hLS hA hw hl
  have hC : cx D τ s m args RX8 := hC
  have hl : lv_has ls 3 [(0, .ref (ad 158)), (1, .ref (ad 156))] := hl
  unfold qX8_become at hv
  have J45 : ∀ (R : Int → Mem → Prop), (∀ (v2 : Int) (M : Mem) (H : Heap) (locs : List Loc) (ls : Array Slot), MR M → R v2 M → wS D A s.heap (WX τ ad M) H locs → lv_has ls 3 [(0, .ref (ad 158)), (1, .ref (ad 156)), (2, .int (iI v2))] → W p l e (rmk 2 0 0) s m args below meth c H locs 0 0 (MQ below (gQv D (EQv (WX τ ad) MR Q) A) args s 0 0 A) (F0 m 15 ls [])) → ∀ (v2 : Int) (t0 : Int) (t1 : Int) (M : Mem) (H : Heap) (locs : List Loc) (ls : Array Slot), MR M → qX8_become_J45  R  Q v2 t0 t1 M → wS D A s.heap (WX τ ad M) H locs → lv_has ls 3 [(0, .ref (ad 158)), (1, .ref (ad 156)), (2, .int (iI v2))] → W p l e (rmk 2 0 0) s m args below meth c H locs 0 0 (MQ below (gQv D (EQv (WX τ ad) MR Q) A) args s 0 0 A) (F0 m 45 ls [.int (iI t0), .int (iI t1), .ref (ad 158)]) := by
    intro R hR  v2 t0 t1 M H locs ls hM hv hw hl
    unfold qX8_become_J45 at hv
    refine r_iorF hx hb dX8_become_45 (fun x10 e10 g10 => ?_)
    have hv := hv x10 e10 g10
    obtain ⟨M11, e11⟩ : ∃ M11 : Mem, M11 = up2 M 158 2 x10 := ⟨_, rfl⟩
    have hv := hv M11 e11
    refine pf_X8_19 (ws' := (WX τ ad M11)) hx hb hC hw 158 (gX_158 τ ad M) (Nat.le_of_ble_eq_true rfl) (by rw [e11]; exact sX_158_2 τ ad M _) dX8_become_46 (fun H locs hw => ?_)
    have hM : MR M11 := by rw [e11]; exact hM.put (by decide) g10
    refine r_iinc (v := (v2 + 1)) (lv' := [(2, .int (iI (v2 + 1))), (0, .ref (ad 158)), (1, .ref (ad 156))]) hx hb dX8_become_49 hl (k := 2) rfl rfl (by decide) rfl (fun ls hl => ?_)
    refine lv_goto (tgt := 15) hx hb dX8_become_52 (by decide) ?_
    exact hR (v2 + 1) M11 _ _ _ hM hv hw (lv_sub hl [1, 2, 0] rfl)
  have L15 : ∀ (n : Nat) (v2 : Int) (M : Mem) (H : Heap) (locs : List Loc) (ls : Array Slot), MR M → qX8_become_L15   Q n v2 M → wS D A s.heap (WX τ ad M) H locs → lv_has ls 3 [(0, .ref (ad 158)), (1, .ref (ad 156)), (2, .int (iI v2))] → W p l e (rmk 2 0 0) s m args below meth c H locs 0 0 (MQ below (gQv D (EQv (WX τ ad) MR Q) A) args s 0 0 A) (F0 m 15 ls []) := by
    intro n
    induction n with
    | zero => intro v2 M H locs ls hM hv; rw [qX8_become_L15] at hv; exact hv.elim
    | succ n ih =>
      intro v2 M H locs ls hM hv hw hl
      rw [qX8_become_L15] at hv
      refine lv_iload_n hx hb dX8_become_15 rfl (lv_at hl 2 rfl) ?_
      refine lv_aload_n hx hb dX8_become_16 rfl (lv_at hl 0 rfl) ?_
      refine gf_X8_15 hx hb hC hw 158 (gX_158 τ ad M) rfl dX8_become_17 ?_
      refine r_top (fun x4 e4 => ?_)
      have g4 : iR x4 := by rw [e4]; exact hM.get (by decide) _
      have hv := hv x4 e4 g4
      obtain ⟨c5, hv⟩ := hv
      refine r_icmp_ge (tgt := 55) hx hb dX8_become_20 (by decide) c5 g4 (fun b6 => ?_) (fun b6 => ?_)
      · have hv := hv.1 b6
        exact k_vret (wq_X τ ad) hx hb hr hlk hw hM hv dX8_become_55
      · have hv := hv.2 b6
        refine lv_aload_n hx hb dX8_become_23 rfl (lv_at hl 0 rfl) ?_
        refine lv_dup hx hb dX8_become_24 rfl ?_
        refine gf_X8_19 hx hb hC hw 158 (gX_158 τ ad M) rfl dX8_become_25 ?_
        refine r_top (fun x7 e7 => ?_)
        have g7 : iR x7 := by rw [e7]; exact hM.get (by decide) _
        have hv := hv x7 e7 g7
        refine lv_aload_n hx hb dX8_become_28 rfl (lv_at hl 1 rfl) ?_
        refine lv_iload_n hx hb dX8_become_29 rfl (lv_at hl 2 rfl) ?_
        refine k_cVi (wq_X τ ad) hx hb hml hC hLS hA hw hl.1 (mX9_signAt l D τ ad sA sV _ v2 c5 M hM _ hv) kX9_signAt ml_X8_30 rfl (gX_156 τ ad M) rfl rfl (Nat.le_of_ble_eq_true rfl) (rm_ok (by decide) (by decide)) ⟨Nat.zero_le _, Nat.zero_le _⟩ dX8_become_30 (fun x8 M8 H locs g8 hM hv hw => ?_)
        have hv := hv g8
        refine r_bipush hx hb dX8_become_33 (by decide +kernel) ?_
        refine r_icmp_ne (tgt := 44) hx hb dX8_become_35 (by decide) g8 (by decide) (fun b9 => ?_) (fun b9 => ?_)
        · have hv := hv.1 b9
          refine r_iconst hx hb dX8_become_44 ?_
          exact J45 _ ih  v2 0 x7 M8 _ _ _ hM hv hw (lv_sub hl [0, 1, 2] rfl)
        · have hv := hv.2 b9
          refine r_iconst hx hb dX8_become_38 ?_
          refine lv_iload_n hx hb dX8_become_39 rfl (lv_at hl 2 rfl) ?_
          refine r_ishlF hx hb dX8_become_40 (fun x12 e12 g12 => ?_)
          have hv := hv x12 e12 g12
          refine lv_goto (tgt := 45) hx hb dX8_become_41 (by decide) ?_
          exact J45 _ ih  v2 x12 x7 M8 _ _ _ hM hv hw (lv_sub hl [0, 1, 2] rfl)
  refine lv_aload_n hx hb dX8_become_0 rfl (lv_at hl 0 rfl) ?_
  refine lv_aload_n hx hb dX8_become_1 rfl (lv_at hl 1 rfl) ?_
  refine gf_X8_25 hx hb hC hw 156 (gX_156 τ ad M) rfl dX8_become_2 ?_
  refine r_top (fun x1 e1 => ?_)
  have g1 : iR x1 := by rw [e1]; exact hM.get (by decide) _
  have hv := hv x1 e1 g1
  obtain ⟨M2, e2⟩ : ∃ M2 : Mem, M2 = up2 M 158 1 x1 := ⟨_, rfl⟩
  have hv := hv M2 e2
  refine pf_X8_15 (ws' := (WX τ ad M2)) hx hb hC hw 158 (gX_158 τ ad M) (Nat.le_of_ble_eq_true rfl) (by rw [e2]; exact sX_158_1 τ ad M _) dX8_become_5 (fun H locs hw => ?_)
  have hM : MR M2 := by rw [e2]; exact hM.put (by decide) g1
  refine lv_aload_n hx hb dX8_become_8 rfl (lv_at hl 0 rfl) ?_
  refine r_iconst hx hb dX8_become_9 ?_
  obtain ⟨M3, e3⟩ : ∃ M3 : Mem, M3 = up2 M2 158 2 0 := ⟨_, rfl⟩
  have hv := hv M3 e3
  refine pf_X8_19 (ws' := (WX τ ad M3)) hx hb hC hw 158 (gX_158 τ ad M2) (Nat.le_of_ble_eq_true rfl) (by rw [e3]; exact sX_158_2 τ ad M2 _) dX8_become_10 (fun H locs hw => ?_)
  have hM : MR M3 := by rw [e3]; exact hM.put (by decide) (by decide)
  refine r_iconst hx hb dX8_become_13 ?_
  refine lv_istore_n (lv' := [(2, .int (iI 0)), (0, .ref (ad 158)), (1, .ref (ad 156))]) hx hb dX8_become_14 rfl hl (by decide) rfl (fun ls hl => ?_)
  obtain ⟨n13, hv⟩ := hv
  refine L15  n13 0 M3 _ _ _ hM hv hw (lv_sub hl [1, 2, 0] rfl)
set_option maxHeartbeats 4000000 in
set_option maxRecDepth 100000 in
theorem mX9_clear (l : Launch) (D : va_G) (τ : Nat → ClassId) (ad : Nat → Nat) (sA sV : Nat → Nat) (sz : Nat)   (M : Mem) (hM : MR M) (Q : Mem → Prop) (hv : qX9_clear  M Q) : Met l yX9_clear (lw_w yX9_clear cX9_clear 1 none) (rmk 1 0 0) (kPc D τ sA sV (WX τ ad M) sz [.ref (ad 156)]) (gQv D (EQv (WX τ ad) MR Q) (va_A (WX τ ad M) sz)) 0 0 (va_A (WX τ ad M) sz) := by
  refine k_met (ret := none) (Qc := gQv D (EQv (WX τ ad) MR Q)) (by decide +kernel) (Nat.le_of_ble_eq_true rfl) ?_
  intro p e s m args below meth c A ls hx hb hml hr hlk hnm hC hLS hA hw hl
  have hC : cx D τ s m args RX9 := hC
  have hl : lv_has ls 1 [(0, .ref (ad 156))] := hl
  unfold qX9_clear at hv
  refine lv_aload_n hx hb dX9_clear_0 rfl (lv_at hl 0 rfl) ?_
  refine r_iconst hx hb dX9_clear_1 ?_
  obtain ⟨M1, e1⟩ : ∃ M1 : Mem, M1 = up2 M 156 1 0 := ⟨_, rfl⟩
  have hv := hv M1 e1
  refine pf_X9_15 (ws' := (WX τ ad M1)) hx hb hC hw 156 (gX_156 τ ad M) (Nat.le_of_ble_eq_true rfl) (by rw [e1]; exact sX_156_1 τ ad M _) dX9_clear_2 (fun H locs hw => ?_)
  have hM : MR M1 := by rw [e1]; exact hM.put (by decide) (by decide)
  exact k_vret (wq_X τ ad) hx hb hr hlk hw hM hv dX9_clear_5
set_option maxHeartbeats 4000000 in
set_option maxRecDepth 100000 in
theorem mX11_avenue (l : Launch) (D : va_G) (τ : Nat → ClassId) (ad : Nat → Nat) (sA sV : Nat → Nat) (sz : Nat)   (M : Mem) (hM : MR M) (Q : Int → Mem → Prop) (hv : qX11_avenue  M Q) : Met l yX11_avenue (lw_w yX11_avenue cX11_avenue 3 (some .int)) (rmk 3 0 0) (kPc D τ sA sV (WX τ ad M) sz [.ref (ad 155)]) (gQi D (EQi (WX τ ad) MR Q) (va_A (WX τ ad M) sz)) 0 0 (va_A (WX τ ad M) sz) := by
  refine k_met (ret := (some .int)) (Qc := gQi D (EQi (WX τ ad) MR Q)) (by decide +kernel) (Nat.le_of_ble_eq_true rfl) ?_
  intro p e s m args below meth c A ls hx hb hml hr hlk hnm hC hLS hA hw hl
  have hC : cx D τ s m args RX11 := hC
  have hl : lv_has ls 3 [(0, .ref (ad 155))] := hl
  unfold qX11_avenue at hv
  have J47 : ∀ (v1 : Int) (v2 : Int) (M : Mem) (H : Heap) (locs : List Loc) (ls : Array Slot), MR M → qX11_avenue_J47  Q v1 v2 M → wS D A s.heap (WX τ ad M) H locs → lv_has ls 3 [(0, .ref (ad 155)), (1, .int (iI v1)), (2, .int (iI v2))] → W p l e (rmk 3 0 0) s m args below meth c H locs 0 0 (MQ below (gQi D (EQi (WX τ ad) MR Q) A) args s 0 0 A) (F0 m 47 ls []) := by
    intro v1 v2 M H locs ls hM hv hw hl
    unfold qX11_avenue_J47 at hv
    refine lv_aload_n hx hb dX11_avenue_47 rfl (lv_at hl 0 rfl) ?_
    refine gf_X11_10 hx hb hC hw 155 (gX_155 τ ad M) rfl dX11_avenue_48 ?_
    refine k_cVv (wq_X τ ad) hx hb hml hC hLS hA hw hl.1 (mX9_clear l D τ ad sA sV _   M hM _ hv) kX9_clear ml_X11_140 rfl (gX_156 τ ad M) rfl rfl (Nat.le_of_ble_eq_true rfl) (rm_ok (by decide) (by decide)) ⟨Nat.zero_le _, Nat.zero_le _⟩ dX11_avenue_51 (fun M4 H locs hM hv hw => ?_)
    refine lv_iload_n hx hb dX11_avenue_54 rfl (lv_at hl 1 rfl) ?_
    refine r_iconst hx hb dX11_avenue_55 ?_
    obtain ⟨c5, hv⟩ := hv
    refine r_icmp_ne (tgt := 63) hx hb dX11_avenue_56 (by decide) c5 (by decide) (fun b6 => ?_) (fun b6 => ?_)
    · have hv := hv.1 b6
      refine r_iconst hx hb dX11_avenue_63 ?_
      refine lv_iload_n hx hb dX11_avenue_64 rfl (lv_at hl 1 rfl) ?_
      refine r_isub (z := ((-1) - v1)) hx hb dX11_avenue_65 rfl ?_
      obtain ⟨c7, hv⟩ := hv
      exact k_iret (wq_X τ ad) hx hb hr hlk hw hM c7 hv dX11_avenue_66
    · have hv := hv.2 b6
      refine lv_iload_n hx hb dX11_avenue_59 rfl (lv_at hl 2 rfl) ?_
      refine lv_goto (tgt := 66) hx hb dX11_avenue_60 (by decide) ?_
      obtain ⟨c8, hv⟩ := hv
      exact k_iret (wq_X τ ad) hx hb hr hlk hw hM c8 hv dX11_avenue_66
  refine lv_aload_n hx hb dX11_avenue_0 rfl (lv_at hl 0 rfl) ?_
  refine k_cVi (wq_X τ ad) hx hb hml hC hLS hA hw hl.1 (mX11_avenueFault l D τ ad sA sV _   M hM _ hv) kX11_avenueFault ml_X11_125 rfl (gX_155 τ ad M) rfl rfl (Nat.le_of_ble_eq_true rfl) (rm_ok (by decide) (by decide)) ⟨Nat.zero_le _, Nat.zero_le _⟩ dX11_avenue_1 (fun x1 M1 H locs g1 hM hv hw => ?_)
  have hv := hv g1
  refine lv_istore_n (lv' := [(1, .int (iI x1)), (0, .ref (ad 155))]) hx hb dX11_avenue_4 rfl hl (by decide) rfl (fun ls hl => ?_)
  refine lv_aload_n hx hb dX11_avenue_5 rfl (lv_at hl 1 rfl) ?_
  refine gf_X11_10 hx hb hC hw 155 (gX_155 τ ad M1) rfl dX11_avenue_6 ?_
  refine gf_X11_119 hx hb hC hw 156 (gX_156 τ ad M1) rfl dX11_avenue_9 ?_
  refine r_top (fun x2 e2 => ?_)
  have g2 : iR x2 := by rw [e2]; exact hM.get (by decide) _
  have hv := hv x2 e2 g2
  refine lv_istore_n (lv' := [(2, .int (iI x2)), (1, .int (iI x1)), (0, .ref (ad 155))]) hx hb dX11_avenue_12 rfl hl (by decide) rfl (fun ls hl => ?_)
  refine lv_iload_n hx hb dX11_avenue_13 rfl (lv_at hl 1 rfl) ?_
  refine r_iconst hx hb dX11_avenue_14 ?_
  refine r_icmp_ne (tgt := 47) hx hb dX11_avenue_15 (by decide) g1 (by decide) (fun b3 => ?_) (fun b3 => ?_)
  · have hv := hv.1 b3
    exact J47 x1 x2 M1 _ _ _ hM hv hw (lv_sub hl [2, 1, 0] rfl)
  · have hv := hv.2 b3
    refine lv_aload_n hx hb dX11_avenue_18 rfl (lv_at hl 2 rfl) ?_
    refine gf_X11_19 hx hb hC hw 155 (gX_155 τ ad M1) rfl dX11_avenue_19 ?_
    refine lv_aload_n hx hb dX11_avenue_22 rfl (lv_at hl 2 rfl) ?_
    refine gf_X11_10 hx hb hC hw 155 (gX_155 τ ad M1) rfl dX11_avenue_23 ?_
    refine k_cVv (wq_X τ ad) hx hb hml hC hLS hA hw hl.1 (mX8_become l D τ ad sA sV _   M1 hM _ hv) kX8_become ml_X11_129 rfl (gX_158 τ ad M1) rfl rfl (Nat.le_of_ble_eq_true rfl) (rm_ok (by decide) (by decide)) ⟨Nat.zero_le _, Nat.zero_le _⟩ dX11_avenue_26 (fun M9 H locs hM hv hw => ?_)
    refine lv_aload_n hx hb dX11_avenue_29 rfl (lv_at hl 2 rfl) ?_
    refine gf_X11_26 hx hb hC hw 155 (gX_155 τ ad M9) rfl dX11_avenue_30 ?_
    refine k_cVv (wq_X τ ad) hx hb hml hC hLS hA hw hl.1 (mX6_clear l D τ ad sA sV _ 1 (by decide) M9 hM _ hv) kX6_clear ml_X11_133 rfl (gS_X (by decide) τ ad M9) rfl rfl (Nat.le_of_ble_eq_true rfl) (rm_ok (by decide) (by decide)) ⟨Nat.zero_le _, Nat.zero_le _⟩ dX11_avenue_33 (fun M10 H locs hM hv hw => ?_)
    refine lv_aload_n hx hb dX11_avenue_36 rfl (lv_at hl 2 rfl) ?_
    refine gf_X11_51 hx hb hC hw 155 (gX_155 τ ad M10) rfl dX11_avenue_37 ?_
    refine k_cVv (wq_X τ ad) hx hb hml hC hLS hA hw hl.1 (mX1_clear l D τ ad sA sV _   M10 hM _ hv) kX1_clear ml_X11_136 rfl (gX_163 τ ad M10) rfl rfl (Nat.le_of_ble_eq_true rfl) (rm_ok (by decide) (by decide)) ⟨Nat.zero_le _, Nat.zero_le _⟩ dX11_avenue_40 (fun M11 H locs hM hv hw => ?_)
    refine lv_aload_n hx hb dX11_avenue_43 rfl (lv_at hl 2 rfl) ?_
    refine k_cVv (wq_X τ ad) hx hb hml hC hLS hA hw hl.1 (mX11_forgetKept l D τ ad sA sV _   M11 hM _ hv) kX11_forgetKept ml_X11_137 rfl (gX_155 τ ad M11) rfl rfl (Nat.le_of_ble_eq_true rfl) (rm_ok (by decide) (by decide)) ⟨Nat.zero_le _, Nat.zero_le _⟩ dX11_avenue_44 (fun M12 H locs hM hv hw => ?_)
    exact J47 x1 x2 M12 _ _ _ hM hv hw (lv_sub hl [2, 1, 0] rfl)
set_option maxHeartbeats 4000000 in
set_option maxRecDepth 100000 in
theorem mX8_gate (l : Launch) (D : va_G) (τ : Nat → ClassId) (ad : Nat → Nat) (sA sV : Nat → Nat) (sz : Nat)   (M : Mem) (hM : MR M) (Q : Int → Mem → Prop) (hv : qX8_gate  M Q) : Met l yX8_gate (lw_w yX8_gate cX8_gate 1 (some .int)) (rmk 1 0 0) (kPc D τ sA sV (WX τ ad M) sz [.ref (ad 158)]) (gQi D (EQi (WX τ ad) MR Q) (va_A (WX τ ad M) sz)) 0 0 (va_A (WX τ ad M) sz) := by
  refine k_met (ret := (some .int)) (Qc := gQi D (EQi (WX τ ad) MR Q)) (by decide +kernel) (Nat.le_of_ble_eq_true rfl) ?_
  intro p e s m args below meth c A ls hx hb hml hr hlk hnm hC hLS hA hw hl
  have hC : cx D τ s m args RX8 := hC
  have hl : lv_has ls 1 [(0, .ref (ad 158))] := hl
  unfold qX8_gate at hv
  refine lv_aload_n hx hb dX8_gate_0 rfl (lv_at hl 0 rfl) ?_
  refine gf_X8_15 hx hb hC hw 158 (gX_158 τ ad M) rfl dX8_gate_1 ?_
  refine r_top (fun x1 e1 => ?_)
  have g1 : iR x1 := by rw [e1]; exact hM.get (by decide) _
  have hv := hv x1 e1 g1
  refine r_iconst hx hb dX8_gate_4 ?_
  refine r_isub (z := (x1 - 1)) hx hb dX8_gate_5 rfl ?_
  obtain ⟨c2, hv⟩ := hv
  exact k_iret (wq_X τ ad) hx hb hr hlk hw hM c2 hv dX8_gate_6
set_option maxHeartbeats 4000000 in
set_option maxRecDepth 100000 in
theorem mX9_back (l : Launch) (D : va_G) (τ : Nat → ClassId) (ad : Nat → Nat) (sA sV : Nat → Nat) (sz : Nat)   (M : Mem) (hM : MR M) (Q : Mem → Prop) (hv : qX9_back  M Q) : Met l yX9_back (lw_w yX9_back cX9_back 1 none) (rmk 1 0 0) (kPc D τ sA sV (WX τ ad M) sz [.ref (ad 156)]) (gQv D (EQv (WX τ ad) MR Q) (va_A (WX τ ad M) sz)) 0 0 (va_A (WX τ ad M) sz) := by
  refine k_met (ret := none) (Qc := gQv D (EQv (WX τ ad) MR Q)) (by decide +kernel) (Nat.le_of_ble_eq_true rfl) ?_
  intro p e s m args below meth c A ls hx hb hml hr hlk hnm hC hLS hA hw hl
  have hC : cx D τ s m args RX9 := hC
  have hl : lv_has ls 1 [(0, .ref (ad 156))] := hl
  unfold qX9_back at hv
  refine lv_aload_n hx hb dX9_back_0 rfl (lv_at hl 0 rfl) ?_
  refine gf_X9_19 hx hb hC hw 156 (gX_156 τ ad M) rfl dX9_back_1 ?_
  refine r_top (fun x1 e1 => ?_)
  have g1 : iR x1 := by rw [e1]; exact hM.get (by decide) _
  have hv := hv x1 e1 g1
  refine r_if_le (tgt := 17) hx hb dX9_back_4 (by decide) g1  (fun b2 => ?_) (fun b2 => ?_)
  · have hv := hv.1 b2
    exact k_vret (wq_X τ ad) hx hb hr hlk hw hM hv dX9_back_17
  · have hv := hv.2 b2
    refine lv_aload_n hx hb dX9_back_7 rfl (lv_at hl 0 rfl) ?_
    refine lv_dup hx hb dX9_back_8 rfl ?_
    refine gf_X9_19 hx hb hC hw 156 (gX_156 τ ad M) rfl dX9_back_9 ?_
    refine r_top (fun x3 e3 => ?_)
    have g3 : iR x3 := by rw [e3]; exact hM.get (by decide) _
    have hv := hv x3 e3 g3
    refine r_iconst hx hb dX9_back_12 ?_
    refine r_isub (z := (x3 - 1)) hx hb dX9_back_13 rfl ?_
    obtain ⟨c4, hv⟩ := hv
    obtain ⟨M5, e5⟩ : ∃ M5 : Mem, M5 = up2 M 156 2 (x3 - 1) := ⟨_, rfl⟩
    have hv := hv M5 e5
    refine pf_X9_19 (ws' := (WX τ ad M5)) hx hb hC hw 156 (gX_156 τ ad M) (Nat.le_of_ble_eq_true rfl) (by rw [e5]; exact sX_156_2 τ ad M _) dX9_back_14 (fun H locs hw => ?_)
    have hM : MR M5 := by rw [e5]; exact hM.put (by decide) c4
    exact k_vret (wq_X τ ad) hx hb hr hlk hw hM hv dX9_back_17
set_option maxHeartbeats 4000000 in
set_option maxRecDepth 100000 in
theorem mX9_look (l : Launch) (D : va_G) (τ : Nat → ClassId) (ad : Nat → Nat) (sA sV : Nat → Nat) (sz : Nat)   (M : Mem) (hM : MR M) (Q : Int → Mem → Prop) (hv : qX9_look  M Q) : Met l yX9_look (lw_w yX9_look cX9_look 1 (some .int)) (rmk 1 0 0) (kPc D τ sA sV (WX τ ad M) sz [.ref (ad 156)]) (gQi D (EQi (WX τ ad) MR Q) (va_A (WX τ ad M) sz)) 0 0 (va_A (WX τ ad M) sz) := by
  refine k_met (ret := (some .int)) (Qc := gQi D (EQi (WX τ ad) MR Q)) (by decide +kernel) (Nat.le_of_ble_eq_true rfl) ?_
  intro p e s m args below meth c A ls hx hb hml hr hlk hnm hC hLS hA hw hl
  have hC : cx D τ s m args RX9 := hC
  have hl : lv_has ls 1 [(0, .ref (ad 156))] := hl
  unfold qX9_look at hv
  refine lv_aload_n hx hb dX9_look_0 rfl (lv_at hl 0 rfl) ?_
  refine gf_X9_19 hx hb hC hw 156 (gX_156 τ ad M) rfl dX9_look_1 ?_
  refine r_top (fun x1 e1 => ?_)
  have g1 : iR x1 := by rw [e1]; exact hM.get (by decide) _
  have hv := hv x1 e1 g1
  refine lv_aload_n hx hb dX9_look_4 rfl (lv_at hl 0 rfl) ?_
  refine gf_X9_22 hx hb hC hw 156 (gX_156 τ ad M) rfl dX9_look_5 ?_
  refine r_top (fun x2 e2 => ?_)
  have g2 : iR x2 := by rw [e2]; exact hM.get (by decide) _
  have hv := hv x2 e2 g2
  refine r_icmp_ge (tgt := 23) hx hb dX9_look_8 (by decide) g1 g2 (fun b3 => ?_) (fun b3 => ?_)
  · have hv := hv.1 b3
    refine r_iconst hx hb dX9_look_23 ?_
    exact k_iret (wq_X τ ad) hx hb hr hlk hw hM (by decide) hv dX9_look_24
  · have hv := hv.2 b3
    refine lv_aload_n hx hb dX9_look_11 rfl (lv_at hl 0 rfl) ?_
    refine gf_X9_9 hx hb hC hw 156 (gX_156 τ ad M) rfl dX9_look_12 ?_
    refine lv_aload_n hx hb dX9_look_15 rfl (lv_at hl 0 rfl) ?_
    refine gf_X9_19 hx hb hC hw 156 (gX_156 τ ad M) rfl dX9_look_16 ?_
    refine r_top (fun x4 e4 => ?_)
    have g4 : iR x4 := by rw [e4]; exact hM.get (by decide) _
    have hv := hv x4 e4 g4
    obtain ⟨c5, hv⟩ := hv
    obtain ⟨c6, hv⟩ := hv
    refine r_iald hx hb hC hw 157 (gI_X aX_157 τ ad M) c5 c6 (by decide) dX9_look_19 ?_
    refine r_top (fun x7 e7 => ?_)
    have g7 : iR x7 := by rw [e7]; exact hM.get aX_157.pos _
    have hv := hv x7 e7 g7
    refine lv_goto (tgt := 24) hx hb dX9_look_20 (by decide) ?_
    exact k_iret (wq_X τ ad) hx hb hr hlk hw hM g7 hv dX9_look_24
set_option maxHeartbeats 4000000 in
set_option maxRecDepth 100000 in
theorem mX9_pass (l : Launch) (D : va_G) (τ : Nat → ClassId) (ad : Nat → Nat) (sA sV : Nat → Nat) (sz : Nat)   (M : Mem) (hM : MR M) (Q : Mem → Prop) (hv : qX9_pass  M Q) : Met l yX9_pass (lw_w yX9_pass cX9_pass 1 none) (rmk 1 0 0) (kPc D τ sA sV (WX τ ad M) sz [.ref (ad 156)]) (gQv D (EQv (WX τ ad) MR Q) (va_A (WX τ ad M) sz)) 0 0 (va_A (WX τ ad M) sz) := by
  refine k_met (ret := none) (Qc := gQv D (EQv (WX τ ad) MR Q)) (by decide +kernel) (Nat.le_of_ble_eq_true rfl) ?_
  intro p e s m args below meth c A ls hx hb hml hr hlk hnm hC hLS hA hw hl
  have hC : cx D τ s m args RX9 := hC
  have hl : lv_has ls 1 [(0, .ref (ad 156))] := hl
  unfold qX9_pass at hv
  refine lv_aload_n hx hb dX9_pass_0 rfl (lv_at hl 0 rfl) ?_
  refine gf_X9_19 hx hb hC hw 156 (gX_156 τ ad M) rfl dX9_pass_1 ?_
  refine r_top (fun x1 e1 => ?_)
  have g1 : iR x1 := by rw [e1]; exact hM.get (by decide) _
  have hv := hv x1 e1 g1
  refine lv_aload_n hx hb dX9_pass_4 rfl (lv_at hl 0 rfl) ?_
  refine gf_X9_22 hx hb hC hw 156 (gX_156 τ ad M) rfl dX9_pass_5 ?_
  refine r_top (fun x2 e2 => ?_)
  have g2 : iR x2 := by rw [e2]; exact hM.get (by decide) _
  have hv := hv x2 e2 g2
  refine r_icmp_ge (tgt := 21) hx hb dX9_pass_8 (by decide) g1 g2 (fun b3 => ?_) (fun b3 => ?_)
  · have hv := hv.1 b3
    exact k_vret (wq_X τ ad) hx hb hr hlk hw hM hv dX9_pass_21
  · have hv := hv.2 b3
    refine lv_aload_n hx hb dX9_pass_11 rfl (lv_at hl 0 rfl) ?_
    refine lv_dup hx hb dX9_pass_12 rfl ?_
    refine gf_X9_19 hx hb hC hw 156 (gX_156 τ ad M) rfl dX9_pass_13 ?_
    refine r_top (fun x4 e4 => ?_)
    have g4 : iR x4 := by rw [e4]; exact hM.get (by decide) _
    have hv := hv x4 e4 g4
    refine r_iconst hx hb dX9_pass_16 ?_
    refine r_iadd (z := (x4 + 1)) hx hb dX9_pass_17 rfl ?_
    obtain ⟨c5, hv⟩ := hv
    obtain ⟨M6, e6⟩ : ∃ M6 : Mem, M6 = up2 M 156 2 (x4 + 1) := ⟨_, rfl⟩
    have hv := hv M6 e6
    refine pf_X9_19 (ws' := (WX τ ad M6)) hx hb hC hw 156 (gX_156 τ ad M) (Nat.le_of_ble_eq_true rfl) (by rw [e6]; exact sX_156_2 τ ad M _) dX9_pass_18 (fun H locs hw => ?_)
    have hM : MR M6 := by rw [e6]; exact hM.put (by decide) c5
    exact k_vret (wq_X τ ad) hx hb hr hlk hw hM hv dX9_pass_21
set_option maxHeartbeats 4000000 in
set_option maxRecDepth 100000 in
theorem mX9_digit (l : Launch) (D : va_G) (τ : Nat → ClassId) (ad : Nat → Nat) (sA sV : Nat → Nat) (sz : Nat)   (M : Mem) (hM : MR M) (Q : Int → Mem → Prop) (hv : qX9_digit  M Q) : Met l yX9_digit (lw_w yX9_digit cX9_digit 2 (some .int)) (rmk 2 0 0) (kPc D τ sA sV (WX τ ad M) sz [.ref (ad 156)]) (gQi D (EQi (WX τ ad) MR Q) (va_A (WX τ ad M) sz)) 0 0 (va_A (WX τ ad M) sz) := by
  refine k_met (ret := (some .int)) (Qc := gQi D (EQi (WX τ ad) MR Q)) (by decide +kernel) (Nat.le_of_ble_eq_true rfl) ?_
  intro p e s m args below meth c A ls hx hb hml hr hlk hnm hC hLS hA hw hl
  have hC : cx D τ s m args RX9 := hC
  have hl : lv_has ls 2 [(0, .ref (ad 156))] := hl
  unfold qX9_digit at hv
  refine lv_aload_n hx hb dX9_digit_0 rfl (lv_at hl 0 rfl) ?_
  refine k_cVi (wq_X τ ad) hx hb hml hC hLS hA hw hl.1 (mX9_look l D τ ad sA sV _   M hM _ hv) kX9_look ml_X9_31 rfl (gX_156 τ ad M) rfl rfl (Nat.le_of_ble_eq_true rfl) (rm_ok (by decide) (by decide)) ⟨Nat.zero_le _, Nat.zero_le _⟩ dX9_digit_1 (fun x1 M1 H locs g1 hM hv hw => ?_)
  have hv := hv g1
  refine lv_istore_n (lv' := [(1, .int (iI x1)), (0, .ref (ad 156))]) hx hb dX9_digit_4 rfl hl (by decide) rfl (fun ls hl => ?_)
  refine lv_iload_n hx hb dX9_digit_5 rfl (lv_at hl 0 rfl) ?_
  refine r_bipush hx hb dX9_digit_6 (by decide +kernel) ?_
  refine r_icmp_lt (tgt := 17) hx hb dX9_digit_8 (by decide) g1 (by decide) (fun b2 => ?_) (fun b2 => ?_)
  · have hv := hv.1 b2
    refine r_iconst hx hb dX9_digit_17 ?_
    exact k_iret (wq_X τ ad) hx hb hr hlk hw hM (by decide) hv dX9_digit_18
  · have hv := hv.2 b2
    refine lv_iload_n hx hb dX9_digit_11 rfl (lv_at hl 0 rfl) ?_
    refine r_bipush hx hb dX9_digit_12 (by decide +kernel) ?_
    refine r_icmp_le (tgt := 19) hx hb dX9_digit_14 (by decide) g1 (by decide) (fun b3 => ?_) (fun b3 => ?_)
    · have hv := hv.1 b3
      refine lv_aload_n hx hb dX9_digit_19 rfl (lv_at hl 1 rfl) ?_
      refine k_cVv (wq_X τ ad) hx hb hml hC hLS hA hw hl.1 (mX9_pass l D τ ad sA sV _   M1 hM _ hv) kX9_pass ml_X9_35 rfl (gX_156 τ ad M1) rfl rfl (Nat.le_of_ble_eq_true rfl) (rm_ok (by decide) (by decide)) ⟨Nat.zero_le _, Nat.zero_le _⟩ dX9_digit_20 (fun M4 H locs hM hv hw => ?_)
      refine lv_iload_n hx hb dX9_digit_23 rfl (lv_at hl 0 rfl) ?_
      refine r_bipush hx hb dX9_digit_24 (by decide +kernel) ?_
      refine r_isub (z := (x1 - 48)) hx hb dX9_digit_26 rfl ?_
      obtain ⟨c5, hv⟩ := hv
      exact k_iret (wq_X τ ad) hx hb hr hlk hw hM c5 hv dX9_digit_27
    · have hv := hv.2 b3
      refine r_iconst hx hb dX9_digit_17 ?_
      exact k_iret (wq_X τ ad) hx hb hr hlk hw hM (by decide) hv dX9_digit_18
set_option maxHeartbeats 4000000 in
set_option maxRecDepth 100000 in
theorem mX9_number (l : Launch) (D : va_G) (τ : Nat → ClassId) (ad : Nat → Nat) (sA sV : Nat → Nat) (sz : Nat) (p1 : Int) (hp1 : iR p1) (M : Mem) (hM : MR M) (Q : Int → Mem → Prop) (hv : qX9_number p1 M Q) : Met l yX9_number (lw_w yX9_number cX9_number 5 (some .int)) (rmk 3 0 0) (kPc D τ sA sV (WX τ ad M) sz [.ref (ad 156), .int (iI p1)]) (gQi D (EQi (WX τ ad) MR Q) (va_A (WX τ ad M) sz)) 0 0 (va_A (WX τ ad M) sz) := by
  refine k_met (ret := (some .int)) (Qc := gQi D (EQi (WX τ ad) MR Q)) (by decide +kernel) (Nat.le_of_ble_eq_true rfl) ?_
  intro p e s m args below meth c A ls hx hb hml hr hlk hnm hC hLS hA hw hl
  have hC : cx D τ s m args RX9 := hC
  have hl : lv_has ls 5 [(0, .ref (ad 156)), (1, .int (iI p1))] := hl
  unfold qX9_number at hv
  have L10 : ∀ (n : Nat) (v2 : Int) (v3 : Int) (v4 : Int) (M : Mem) (H : Heap) (locs : List Loc) (ls : Array Slot), MR M → qX9_number_L10 p1  Q n v2 v3 v4 M → wS D A s.heap (WX τ ad M) H locs → lv_has ls 5 [(0, .ref (ad 156)), (1, .int (iI p1)), (2, .int (iI v2)), (3, .int (iI v3)), (4, .int (iI v4))] → W p l e (rmk 3 0 0) s m args below meth c H locs 0 0 (MQ below (gQi D (EQi (WX τ ad) MR Q) A) args s 0 0 A) (F0 m 10 ls []) := by
    intro n
    induction n with
    | zero => intro v2 v3 v4 M H locs ls hM hv; rw [qX9_number_L10] at hv; exact hv.elim
    | succ n ih =>
      intro v2 v3 v4 M H locs ls hM hv hw hl
      rw [qX9_number_L10] at hv
      refine lv_iload hx hb dX9_number_10 (lv_at hl 4 rfl) ?_
      refine lv_iload_n hx hb dX9_number_12 rfl (lv_at hl 1 rfl) ?_
      obtain ⟨c2, hv⟩ := hv
      refine r_icmp_ge (tgt := 48) hx hb dX9_number_13 (by decide) c2 hp1 (fun b3 => ?_) (fun b3 => ?_)
      · have hv := hv.1 b3
        refine lv_iload_n hx hb dX9_number_48 rfl (lv_at hl 2 rfl) ?_
        obtain ⟨c4, hv⟩ := hv
        exact k_iret (wq_X τ ad) hx hb hr hlk hw hM c4 hv dX9_number_49
      · have hv := hv.2 b3
        refine lv_iload_n hx hb dX9_number_16 rfl (lv_at hl 3 rfl) ?_
        refine r_iconst hx hb dX9_number_17 ?_
        obtain ⟨c5, hv⟩ := hv
        refine r_icmp_eq (tgt := 48) hx hb dX9_number_18 (by decide) c5 (by decide) (fun b6 => ?_) (fun b6 => ?_)
        · have hv := hv.1 b6
          refine lv_iload_n hx hb dX9_number_48 rfl (lv_at hl 2 rfl) ?_
          obtain ⟨c7, hv⟩ := hv
          exact k_iret (wq_X τ ad) hx hb hr hlk hw hM c7 hv dX9_number_49
        · have hv := hv.2 b6
          refine lv_aload_n hx hb dX9_number_21 rfl (lv_at hl 0 rfl) ?_
          refine k_cVi (wq_X τ ad) hx hb hml hC hLS hA hw hl.1 (mX9_digit l D τ ad sA sV _   M hM _ hv) kX9_digit ml_X9_38 rfl (gX_156 τ ad M) rfl rfl (Nat.le_of_ble_eq_true rfl) (rm_ok (by decide) (by decide)) ⟨Nat.zero_le _, Nat.zero_le _⟩ dX9_number_22 (fun x8 M8 H locs g8 hM hv hw => ?_)
          have hv := hv g8
          refine lv_istore_n (lv' := [(3, .int (iI x8)), (0, .ref (ad 156)), (1, .int (iI p1)), (2, .int (iI v2)), (4, .int (iI v4))]) hx hb dX9_number_25 rfl hl (by decide) rfl (fun ls hl => ?_)
          refine lv_iload_n hx hb dX9_number_26 rfl (lv_at hl 0 rfl) ?_
          refine r_iconst hx hb dX9_number_27 ?_
          refine r_icmp_ne (tgt := 35) hx hb dX9_number_28 (by decide) g8 (by decide) (fun b9 => ?_) (fun b9 => ?_)
          · have hv := hv.1 b9
            refine lv_iload_n hx hb dX9_number_35 rfl (lv_at hl 3 rfl) ?_
            refine r_bipush hx hb dX9_number_36 (by decide +kernel) ?_
            refine r_imul (z := (v2 * 10)) hx hb dX9_number_38 rfl ?_
            refine lv_iload_n hx hb dX9_number_39 rfl (lv_at hl 0 rfl) ?_
            refine r_iadd (z := ((v2 * 10) + x8)) hx hb dX9_number_40 rfl ?_
            refine lv_istore_n (lv' := [(2, .int (iI ((v2 * 10) + x8))), (3, .int (iI x8)), (0, .ref (ad 156)), (1, .int (iI p1)), (4, .int (iI v4))]) hx hb dX9_number_41 rfl hl (by decide) rfl (fun ls hl => ?_)
            refine r_iinc (v := (v4 + 1)) (lv' := [(4, .int (iI (v4 + 1))), (2, .int (iI ((v2 * 10) + x8))), (3, .int (iI x8)), (0, .ref (ad 156)), (1, .int (iI p1))]) hx hb dX9_number_42 hl (k := 4) rfl rfl (by decide) rfl (fun ls hl => ?_)
            refine lv_goto (tgt := 10) hx hb dX9_number_45 (by decide) ?_
            exact ih ((v2 * 10) + x8) x8 (v4 + 1) M8 _ _ _ hM hv hw (lv_sub hl [3, 4, 1, 2, 0] rfl)
          · have hv := hv.2 b9
            refine lv_iload_n hx hb dX9_number_31 rfl (lv_at hl 3 rfl) ?_
            refine lv_goto (tgt := 41) hx hb dX9_number_32 (by decide) ?_
            refine lv_istore_n (lv' := [(2, .int (iI v2)), (3, .int (iI x8)), (0, .ref (ad 156)), (1, .int (iI p1)), (4, .int (iI v4))]) hx hb dX9_number_41 rfl hl (by decide) rfl (fun ls hl => ?_)
            refine r_iinc (v := (v4 + 1)) (lv' := [(4, .int (iI (v4 + 1))), (2, .int (iI v2)), (3, .int (iI x8)), (0, .ref (ad 156)), (1, .int (iI p1))]) hx hb dX9_number_42 hl (k := 4) rfl rfl (by decide) rfl (fun ls hl => ?_)
            refine lv_goto (tgt := 10) hx hb dX9_number_45 (by decide) ?_
            exact ih v2 x8 (v4 + 1) M8 _ _ _ hM hv hw (lv_sub hl [3, 4, 1, 2, 0] rfl)
  refine lv_aload_n hx hb dX9_number_0 rfl (lv_at hl 0 rfl) ?_
  refine k_cVi (wq_X τ ad) hx hb hml hC hLS hA hw hl.1 (mX9_digit l D τ ad sA sV _   M hM _ hv) kX9_digit ml_X9_38 rfl (gX_156 τ ad M) rfl rfl (Nat.le_of_ble_eq_true rfl) (rm_ok (by decide) (by decide)) ⟨Nat.zero_le _, Nat.zero_le _⟩ dX9_number_1 (fun x1 M1 H locs g1 hM hv hw => ?_)
  have hv := hv g1
  refine lv_istore_n (lv' := [(2, .int (iI x1)), (0, .ref (ad 156)), (1, .int (iI p1))]) hx hb dX9_number_4 rfl hl (by decide) rfl (fun ls hl => ?_)
  refine lv_iload_n hx hb dX9_number_5 rfl (lv_at hl 0 rfl) ?_
  refine lv_istore_n (lv' := [(3, .int (iI x1)), (2, .int (iI x1)), (0, .ref (ad 156)), (1, .int (iI p1))]) hx hb dX9_number_6 rfl hl (by decide) rfl (fun ls hl => ?_)
  refine r_iconst hx hb dX9_number_7 ?_
  refine lv_istore (lv' := [(4, .int (iI 1)), (3, .int (iI x1)), (2, .int (iI x1)), (0, .ref (ad 156)), (1, .int (iI p1))]) hx hb dX9_number_8 hl (by decide) rfl (fun ls hl => ?_)
  obtain ⟨n10, hv⟩ := hv
  refine L10  n10 x1 x1 1 M1 _ _ _ hM hv hw (lv_sub hl [3, 4, 2, 1, 0] rfl)
set_option maxHeartbeats 4000000 in
set_option maxRecDepth 100000 in
theorem mX11_readCell (l : Launch) (D : va_G) (τ : Nat → ClassId) (ad : Nat → Nat) (sA sV : Nat → Nat) (sz : Nat)   (M : Mem) (hM : MR M) (Q : Int → Mem → Prop) (hv : qX11_readCell  M Q) : Met l yX11_readCell (lw_w yX11_readCell cX11_readCell 2 (some .int)) (rmk 4 0 0) (kPc D τ sA sV (WX τ ad M) sz [.ref (ad 155)]) (gQi D (EQi (WX τ ad) MR Q) (va_A (WX τ ad M) sz)) 0 0 (va_A (WX τ ad M) sz) := by
  refine k_met (ret := (some .int)) (Qc := gQi D (EQi (WX τ ad) MR Q)) (by decide +kernel) (Nat.le_of_ble_eq_true rfl) ?_
  intro p e s m args below meth c A ls hx hb hml hr hlk hnm hC hLS hA hw hl
  have hC : cx D τ s m args RX11 := hC
  have hl : lv_has ls 2 [(0, .ref (ad 155))] := hl
  unfold qX11_readCell at hv
  refine lv_aload_n hx hb dX11_readCell_0 rfl (lv_at hl 0 rfl) ?_
  refine gf_X11_10 hx hb hC hw 155 (gX_155 τ ad M) rfl dX11_readCell_1 ?_
  refine r_iconst hx hb dX11_readCell_4 ?_
  refine k_cVi (wq_X τ ad) hx hb hml hC hLS hA hw hl.1 (mX9_number l D τ ad sA sV _ 2 (by decide) M hM _ hv) kX9_number ml_X11_204 rfl (gX_156 τ ad M) rfl rfl (Nat.le_of_ble_eq_true rfl) (rm_ok (by decide) (by decide)) ⟨Nat.zero_le _, Nat.zero_le _⟩ dX11_readCell_5 (fun x1 M1 H locs g1 hM hv hw => ?_)
  have hv := hv g1
  refine lv_istore_n (lv' := [(1, .int (iI x1)), (0, .ref (ad 155))]) hx hb dX11_readCell_8 rfl hl (by decide) rfl (fun ls hl => ?_)
  refine lv_iload_n hx hb dX11_readCell_9 rfl (lv_at hl 0 rfl) ?_
  refine lv_aload_n hx hb dX11_readCell_10 rfl (lv_at hl 1 rfl) ?_
  refine gf_X11_19 hx hb hC hw 155 (gX_155 τ ad M1) rfl dX11_readCell_11 ?_
  refine k_cVi (wq_X τ ad) hx hb hml hC hLS hA hw hl.1 (mX8_gate l D τ ad sA sV _   M1 hM _ hv) kX8_gate ml_X11_207 rfl (gX_158 τ ad M1) rfl rfl (Nat.le_of_ble_eq_true rfl) (rm_ok (by decide) (by decide)) ⟨Nat.zero_le _, Nat.zero_le _⟩ dX11_readCell_14 (fun x2 M2 H locs g2 hM hv hw => ?_)
  have hv := hv g2
  refine r_icmp_lt (tgt := 29) hx hb dX11_readCell_17 (by decide) g1 g2 (fun b3 => ?_) (fun b3 => ?_)
  · have hv := hv.1 b3
    refine lv_iload_n hx hb dX11_readCell_29 rfl (lv_at hl 0 rfl) ?_
    exact k_iret (wq_X τ ad) hx hb hr hlk hw hM g1 hv dX11_readCell_30
  · have hv := hv.2 b3
    refine lv_aload_n hx hb dX11_readCell_20 rfl (lv_at hl 1 rfl) ?_
    refine gf_X11_10 hx hb hC hw 155 (gX_155 τ ad M2) rfl dX11_readCell_21 ?_
    refine k_cVv (wq_X τ ad) hx hb hml hC hLS hA hw hl.1 (mX9_back l D τ ad sA sV _   M2 hM _ hv) kX9_back ml_X11_185 rfl (gX_156 τ ad M2) rfl rfl (Nat.le_of_ble_eq_true rfl) (rm_ok (by decide) (by decide)) ⟨Nat.zero_le _, Nat.zero_le _⟩ dX11_readCell_24 (fun M4 H locs hM hv hw => ?_)
    refine r_iconst hx hb dX11_readCell_27 ?_
    exact k_iret (wq_X τ ad) hx hb hr hlk hw hM (by decide) hv dX11_readCell_28
set_option maxHeartbeats 4000000 in
set_option maxRecDepth 100000 in
theorem mX6_addHearse (l : Launch) (D : va_G) (τ : Nat → ClassId) (ad : Nat → Nat) (sA sV : Nat → Nat) (sz : Nat) (k0 : Nat) (p1 : Int) (hk0 : isS k0) (hp1 : iR p1) (M : Mem) (hM : MR M) (Q : Mem → Prop) (hv : qX6_addHearse k0 p1 M Q) : Met l yX6_addHearse (lw_w yX6_addHearse cX6_addHearse 2 none) (rmk 1 0 0) (kPc D τ sA sV (WX τ ad M) sz [.ref (ad k0), .int (iI p1)]) (gQv D (EQv (WX τ ad) MR Q) (va_A (WX τ ad M) sz)) 0 0 (va_A (WX τ ad M) sz) := by
  refine k_met (ret := none) (Qc := gQv D (EQv (WX τ ad) MR Q)) (by decide +kernel) (Nat.le_of_ble_eq_true rfl) ?_
  intro p e s m args below meth c A ls hx hb hml hr hlk hnm hC hLS hA hw hl
  have hC : cx D τ s m args RX6 := hC
  have hl : lv_has ls 2 [(0, .ref (ad k0)), (1, .int (iI p1))] := hl
  unfold qX6_addHearse at hv
  refine lv_aload_n hx hb dX6_addHearse_0 rfl (lv_at hl 0 rfl) ?_
  refine gf_X6_9 hx hb hC hw k0 (gS_X hk0 τ ad M) rfl dX6_addHearse_1 ?_
  refine lv_aload_n hx hb dX6_addHearse_4 rfl (lv_at hl 0 rfl) ?_
  refine gf_X6_30 hx hb hC hw k0 (gS_X hk0 τ ad M) rfl dX6_addHearse_5 ?_
  refine r_top (fun x1 e1 => ?_)
  have g1 : iR x1 := by rw [e1]; exact hM.get hk0.pos _
  have hv := hv x1 e1 g1
  refine lv_iload_n hx hb dX6_addHearse_8 rfl (lv_at hl 1 rfl) ?_
  obtain ⟨c2, hv⟩ := hv
  obtain ⟨c3, hv⟩ := hv
  obtain ⟨M4, e4⟩ : ∃ M4 : Mem, M4 = up2 M (k0 + 1) x1 p1 := ⟨_, rfl⟩
  have hv := hv M4 e4
  refine r_iast (ws' := (WX τ ad M4)) hx hb hC hw (k0 + 1) (gI_X (isS_f0 hk0) τ ad M) c2 c3 (by decide) (by rw [e4]; exact sI_X (isS_f0 hk0) τ ad M _ _) dX6_addHearse_9 (fun H locs hw => ?_)
  have hM : MR M4 := by rw [e4]; exact hM.put (isS_f0 hk0).pos hp1
  refine lv_aload_n hx hb dX6_addHearse_10 rfl (lv_at hl 0 rfl) ?_
  refine gf_X6_15 hx hb hC hw k0 (gS_X hk0 τ ad M4) rfl dX6_addHearse_11 ?_
  refine lv_aload_n hx hb dX6_addHearse_14 rfl (lv_at hl 0 rfl) ?_
  refine gf_X6_30 hx hb hC hw k0 (gS_X hk0 τ ad M4) rfl dX6_addHearse_15 ?_
  refine r_top (fun x5 e5 => ?_)
  have g5 : iR x5 := by rw [e5]; exact hM.get hk0.pos _
  have hv := hv x5 e5 g5
  refine r_iconst hx hb dX6_addHearse_18 ?_
  obtain ⟨c6, hv⟩ := hv
  obtain ⟨c7, hv⟩ := hv
  obtain ⟨M8, e8⟩ : ∃ M8 : Mem, M8 = up2 M4 (k0 + 2) x5 0 := ⟨_, rfl⟩
  have hv := hv M8 e8
  refine r_iast (ws' := (WX τ ad M8)) hx hb hC hw (k0 + 2) (gI_X (isS_f1 hk0) τ ad M4) c6 c7 (by decide) (by rw [e8]; exact sI_X (isS_f1 hk0) τ ad M4 _ _) dX6_addHearse_19 (fun H locs hw => ?_)
  have hM : MR M8 := by rw [e8]; exact hM.put (isS_f1 hk0).pos (by decide)
  refine lv_aload_n hx hb dX6_addHearse_20 rfl (lv_at hl 0 rfl) ?_
  refine lv_dup hx hb dX6_addHearse_21 rfl ?_
  refine gf_X6_30 hx hb hC hw k0 (gS_X hk0 τ ad M8) rfl dX6_addHearse_22 ?_
  refine r_top (fun x9 e9 => ?_)
  have g9 : iR x9 := by rw [e9]; exact hM.get hk0.pos _
  have hv := hv x9 e9 g9
  refine r_iconst hx hb dX6_addHearse_25 ?_
  refine r_iadd (z := (x9 + 1)) hx hb dX6_addHearse_26 rfl ?_
  obtain ⟨c10, hv⟩ := hv
  obtain ⟨M11, e11⟩ : ∃ M11 : Mem, M11 = up2 M8 k0 6 (x9 + 1) := ⟨_, rfl⟩
  have hv := hv M11 e11
  refine pf_X6_30 (ws' := (WX τ ad M11)) hx hb hC hw k0 (gS_X hk0 τ ad M8) (Nat.le_of_ble_eq_true rfl) (by rw [e11]; exact sS_6 hk0 τ ad M8 _) dX6_addHearse_27 (fun H locs hw => ?_)
  have hM : MR M11 := by rw [e11]; exact hM.put hk0.pos c10
  exact k_vret (wq_X τ ad) hx hb hr hlk hw hM hv dX6_addHearse_30
set_option maxHeartbeats 4000000 in
set_option maxRecDepth 100000 in
theorem mX6_hearseOn (l : Launch) (D : va_G) (τ : Nat → ClassId) (ad : Nat → Nat) (sA sV : Nat → Nat) (sz : Nat) (k0 : Nat) (p1 : Int) (hk0 : isS k0) (hp1 : iR p1) (M : Mem) (hM : MR M) (Q : Int → Mem → Prop) (hv : qX6_hearseOn k0 p1 M Q) : Met l yX6_hearseOn (lw_w yX6_hearseOn cX6_hearseOn 3 (some .int)) (rmk 1 0 0) (kPc D τ sA sV (WX τ ad M) sz [.ref (ad k0), .int (iI p1)]) (gQi D (EQi (WX τ ad) MR Q) (va_A (WX τ ad M) sz)) 0 0 (va_A (WX τ ad M) sz) := by
  refine k_met (ret := (some .int)) (Qc := gQi D (EQi (WX τ ad) MR Q)) (by decide +kernel) (Nat.le_of_ble_eq_true rfl) ?_
  intro p e s m args below meth c A ls hx hb hml hr hlk hnm hC hLS hA hw hl
  have hC : cx D τ s m args RX6 := hC
  have hl : lv_has ls 3 [(0, .ref (ad k0)), (1, .int (iI p1))] := hl
  unfold qX6_hearseOn at hv
  have L2 : ∀ (n : Nat) (v2 : Int) (M : Mem) (H : Heap) (locs : List Loc) (ls : Array Slot), MR M → qX6_hearseOn_L2 k0 p1  Q n v2 M → wS D A s.heap (WX τ ad M) H locs → lv_has ls 3 [(0, .ref (ad k0)), (1, .int (iI p1)), (2, .int (iI v2))] → W p l e (rmk 1 0 0) s m args below meth c H locs 0 0 (MQ below (gQi D (EQi (WX τ ad) MR Q) A) args s 0 0 A) (F0 m 2 ls []) := by
    intro n
    induction n with
    | zero => intro v2 M H locs ls hM hv; rw [qX6_hearseOn_L2] at hv; exact hv.elim
    | succ n ih =>
      intro v2 M H locs ls hM hv hw hl
      rw [qX6_hearseOn_L2] at hv
      refine lv_iload_n hx hb dX6_hearseOn_2 rfl (lv_at hl 2 rfl) ?_
      refine lv_aload_n hx hb dX6_hearseOn_3 rfl (lv_at hl 0 rfl) ?_
      refine gf_X6_30 hx hb hC hw k0 (gS_X hk0 τ ad M) rfl dX6_hearseOn_4 ?_
      refine r_top (fun x1 e1 => ?_)
      have g1 : iR x1 := by rw [e1]; exact hM.get hk0.pos _
      have hv := hv x1 e1 g1
      obtain ⟨c2, hv⟩ := hv
      refine r_icmp_ge (tgt := 28) hx hb dX6_hearseOn_7 (by decide) c2 g1 (fun b3 => ?_) (fun b3 => ?_)
      · have hv := hv.1 b3
        refine r_iconst hx hb dX6_hearseOn_28 ?_
        exact k_iret (wq_X τ ad) hx hb hr hlk hw hM (by decide) hv dX6_hearseOn_29
      · have hv := hv.2 b3
        refine lv_aload_n hx hb dX6_hearseOn_10 rfl (lv_at hl 0 rfl) ?_
        refine gf_X6_9 hx hb hC hw k0 (gS_X hk0 τ ad M) rfl dX6_hearseOn_11 ?_
        refine lv_iload_n hx hb dX6_hearseOn_14 rfl (lv_at hl 2 rfl) ?_
        obtain ⟨c4, hv⟩ := hv
        obtain ⟨c5, hv⟩ := hv
        refine r_iald hx hb hC hw (k0 + 1) (gI_X (isS_f0 hk0) τ ad M) c4 c5 (by decide) dX6_hearseOn_15 ?_
        refine r_top (fun x6 e6 => ?_)
        have g6 : iR x6 := by rw [e6]; exact hM.get (isS_f0 hk0).pos _
        have hv := hv x6 e6 g6
        refine lv_iload_n hx hb dX6_hearseOn_16 rfl (lv_at hl 1 rfl) ?_
        refine r_icmp_ne (tgt := 22) hx hb dX6_hearseOn_17 (by decide) g6 hp1 (fun b7 => ?_) (fun b7 => ?_)
        · have hv := hv.1 b7
          refine r_iinc (v := (v2 + 1)) (lv' := [(2, .int (iI (v2 + 1))), (0, .ref (ad k0)), (1, .int (iI p1))]) hx hb dX6_hearseOn_22 hl (k := 2) rfl rfl (by decide) rfl (fun ls hl => ?_)
          refine lv_goto (tgt := 2) hx hb dX6_hearseOn_25 (by decide) ?_
          exact ih (v2 + 1) M _ _ _ hM hv hw (lv_sub hl [1, 2, 0] rfl)
        · have hv := hv.2 b7
          refine lv_iload_n hx hb dX6_hearseOn_20 rfl (lv_at hl 2 rfl) ?_
          exact k_iret (wq_X τ ad) hx hb hr hlk hw hM c2 hv dX6_hearseOn_21
  refine r_iconst hx hb dX6_hearseOn_0 ?_
  refine lv_istore_n (lv' := [(2, .int (iI 0)), (0, .ref (ad k0)), (1, .int (iI p1))]) hx hb dX6_hearseOn_1 rfl hl (by decide) rfl (fun ls hl => ?_)
  obtain ⟨n8, hv⟩ := hv
  refine L2  n8 0 M _ _ _ hM hv hw (lv_sub hl [1, 2, 0] rfl)
set_option maxHeartbeats 4000000 in
set_option maxRecDepth 100000 in
theorem mX11_readHearse (l : Launch) (D : va_G) (τ : Nat → ClassId) (ad : Nat → Nat) (sA sV : Nat → Nat) (sz : Nat)   (M : Mem) (hM : MR M) (Q : Int → Mem → Prop) (hv : qX11_readHearse  M Q) : Met l yX11_readHearse (lw_w yX11_readHearse cX11_readHearse 2 (some .boolean)) (rmk 5 0 0) (kPc D τ sA sV (WX τ ad M) sz [.ref (ad 155)]) (gQi D (EQz (WX τ ad) MR Q) (va_A (WX τ ad M) sz)) 0 0 (va_A (WX τ ad M) sz) := by
  refine k_met (ret := (some .boolean)) (Qc := gQi D (EQz (WX τ ad) MR Q)) (by decide +kernel) (Nat.le_of_ble_eq_true rfl) ?_
  intro p e s m args below meth c A ls hx hb hml hr hlk hnm hC hLS hA hw hl
  have hC : cx D τ s m args RX11 := hC
  have hl : lv_has ls 2 [(0, .ref (ad 155))] := hl
  unfold qX11_readHearse at hv
  refine lv_aload_n hx hb dX11_readHearse_0 rfl (lv_at hl 0 rfl) ?_
  refine gf_X11_30 hx hb hC hw 155 (gX_155 τ ad M) rfl dX11_readHearse_1 ?_
  refine gf_X11_176 hx hb hC hw 8 (gS_X (by decide) τ ad M) rfl dX11_readHearse_4 ?_
  refine r_top (fun x1 e1 => ?_)
  have g1 : iR x1 := by rw [e1]; exact hM.get (by decide) _
  have hv := hv x1 e1 g1
  refine r_bipush hx hb dX11_readHearse_7 (by decide +kernel) ?_
  refine r_icmp_lt (tgt := 14) hx hb dX11_readHearse_9 (by decide) g1 (by decide) (fun b2 => ?_) (fun b2 => ?_)
  · have hv := hv.1 b2
    refine lv_aload_n hx hb dX11_readHearse_14 rfl (lv_at hl 0 rfl) ?_
    refine k_cVi (wq_X τ ad) hx hb hml hC hLS hA hw hl.1 (mX11_readCell l D τ ad sA sV _   M hM _ hv) kX11_readCell ml_X11_179 rfl (gX_155 τ ad M) rfl rfl (Nat.le_of_ble_eq_true rfl) (rm_ok (by decide) (by decide)) ⟨Nat.zero_le _, Nat.zero_le _⟩ dX11_readHearse_15 (fun x3 M3 H locs g3 hM hv hw => ?_)
    have hv := hv g3
    refine lv_istore_n (lv' := [(1, .int (iI x3)), (0, .ref (ad 155))]) hx hb dX11_readHearse_18 rfl hl (by decide) rfl (fun ls hl => ?_)
    refine lv_iload_n hx hb dX11_readHearse_19 rfl (lv_at hl 0 rfl) ?_
    refine r_iconst hx hb dX11_readHearse_20 ?_
    refine r_icmp_ne (tgt := 26) hx hb dX11_readHearse_21 (by decide) g3 (by decide) (fun b4 => ?_) (fun b4 => ?_)
    · have hv := hv.1 b4
      refine lv_aload_n hx hb dX11_readHearse_26 rfl (lv_at hl 1 rfl) ?_
      refine gf_X11_30 hx hb hC hw 155 (gX_155 τ ad M3) rfl dX11_readHearse_27 ?_
      refine lv_iload_n hx hb dX11_readHearse_30 rfl (lv_at hl 0 rfl) ?_
      refine k_cVi (wq_X τ ad) hx hb hml hC hLS hA hw hl.1 (mX6_hearseOn l D τ ad sA sV _ 8 x3 (by decide) g3 M3 hM _ hv) kX6_hearseOn ml_X11_182 rfl (gS_X (by decide) τ ad M3) rfl rfl (Nat.le_of_ble_eq_true rfl) (rm_ok (by decide) (by decide)) ⟨Nat.zero_le _, Nat.zero_le _⟩ dX11_readHearse_31 (fun x5 M5 H locs g5 hM hv hw => ?_)
      have hv := hv g5
      refine r_iconst hx hb dX11_readHearse_34 ?_
      refine r_icmp_eq (tgt := 47) hx hb dX11_readHearse_35 (by decide) g5 (by decide) (fun b6 => ?_) (fun b6 => ?_)
      · have hv := hv.1 b6
        refine lv_aload_n hx hb dX11_readHearse_47 rfl (lv_at hl 1 rfl) ?_
        refine gf_X11_30 hx hb hC hw 155 (gX_155 τ ad M5) rfl dX11_readHearse_48 ?_
        refine lv_iload_n hx hb dX11_readHearse_51 rfl (lv_at hl 0 rfl) ?_
        refine k_cVv (wq_X τ ad) hx hb hml hC hLS hA hw hl.1 (mX6_addHearse l D τ ad sA sV _ 8 x3 (by decide) g3 M5 hM _ hv) kX6_addHearse ml_X11_188 rfl (gS_X (by decide) τ ad M5) rfl rfl (Nat.le_of_ble_eq_true rfl) (rm_ok (by decide) (by decide)) ⟨Nat.zero_le _, Nat.zero_le _⟩ dX11_readHearse_52 (fun M7 H locs hM hv hw => ?_)
        refine r_iconst hx hb dX11_readHearse_55 ?_
        exact k_zret (wq_X τ ad) hx hb hr hlk hw hM (by decide) (by decide) hv dX11_readHearse_56
      · have hv := hv.2 b6
        refine lv_aload_n hx hb dX11_readHearse_38 rfl (lv_at hl 1 rfl) ?_
        refine gf_X11_10 hx hb hC hw 155 (gX_155 τ ad M5) rfl dX11_readHearse_39 ?_
        refine k_cVv (wq_X τ ad) hx hb hml hC hLS hA hw hl.1 (mX9_back l D τ ad sA sV _   M5 hM _ hv) kX9_back ml_X11_185 rfl (gX_156 τ ad M5) rfl rfl (Nat.le_of_ble_eq_true rfl) (rm_ok (by decide) (by decide)) ⟨Nat.zero_le _, Nat.zero_le _⟩ dX11_readHearse_42 (fun M8 H locs hM hv hw => ?_)
        refine r_iconst hx hb dX11_readHearse_45 ?_
        exact k_zret (wq_X τ ad) hx hb hr hlk hw hM (by decide) (by decide) hv dX11_readHearse_46
    · have hv := hv.2 b4
      refine r_iconst hx hb dX11_readHearse_24 ?_
      exact k_zret (wq_X τ ad) hx hb hr hlk hw hM (by decide) (by decide) hv dX11_readHearse_25
  · have hv := hv.2 b2
    refine r_iconst hx hb dX11_readHearse_12 ?_
    exact k_zret (wq_X τ ad) hx hb hr hlk hw hM (by decide) (by decide) hv dX11_readHearse_13
set_option maxHeartbeats 4000000 in
set_option maxRecDepth 100000 in
theorem mX6_addMourner (l : Launch) (D : va_G) (τ : Nat → ClassId) (ad : Nat → Nat) (sA sV : Nat → Nat) (sz : Nat) (k0 : Nat) (p1 : Int) (p2 : Int) (hk0 : isS k0) (hp1 : iR p1) (hp2 : iR p2) (M : Mem) (hM : MR M) (Q : Mem → Prop) (hv : qX6_addMourner k0 p1 p2 M Q) : Met l yX6_addMourner (lw_w yX6_addMourner cX6_addMourner 3 none) (rmk 1 0 0) (kPc D τ sA sV (WX τ ad M) sz [.ref (ad k0), .int (iI p1), .int (iI p2)]) (gQv D (EQv (WX τ ad) MR Q) (va_A (WX τ ad M) sz)) 0 0 (va_A (WX τ ad M) sz) := by
  refine k_met (ret := none) (Qc := gQv D (EQv (WX τ ad) MR Q)) (by decide +kernel) (Nat.le_of_ble_eq_true rfl) ?_
  intro p e s m args below meth c A ls hx hb hml hr hlk hnm hC hLS hA hw hl
  have hC : cx D τ s m args RX6 := hC
  have hl : lv_has ls 3 [(0, .ref (ad k0)), (1, .int (iI p1)), (2, .int (iI p2))] := hl
  unfold qX6_addMourner at hv
  refine lv_aload_n hx hb dX6_addMourner_0 rfl (lv_at hl 0 rfl) ?_
  refine gf_X6_18 hx hb hC hw k0 (gS_X hk0 τ ad M) rfl dX6_addMourner_1 ?_
  refine lv_aload_n hx hb dX6_addMourner_4 rfl (lv_at hl 0 rfl) ?_
  refine gf_X6_34 hx hb hC hw k0 (gS_X hk0 τ ad M) rfl dX6_addMourner_5 ?_
  refine r_top (fun x1 e1 => ?_)
  have g1 : iR x1 := by rw [e1]; exact hM.get hk0.pos _
  have hv := hv x1 e1 g1
  refine lv_iload_n hx hb dX6_addMourner_8 rfl (lv_at hl 1 rfl) ?_
  obtain ⟨c2, hv⟩ := hv
  obtain ⟨c3, hv⟩ := hv
  obtain ⟨M4, e4⟩ : ∃ M4 : Mem, M4 = up2 M (k0 + 3) x1 p1 := ⟨_, rfl⟩
  have hv := hv M4 e4
  refine r_iast (ws' := (WX τ ad M4)) hx hb hC hw (k0 + 3) (gI_X (isS_f2 hk0) τ ad M) c2 c3 (by decide) (by rw [e4]; exact sI_X (isS_f2 hk0) τ ad M _ _) dX6_addMourner_9 (fun H locs hw => ?_)
  have hM : MR M4 := by rw [e4]; exact hM.put (isS_f2 hk0).pos hp1
  refine lv_aload_n hx hb dX6_addMourner_10 rfl (lv_at hl 0 rfl) ?_
  refine gf_X6_21 hx hb hC hw k0 (gS_X hk0 τ ad M4) rfl dX6_addMourner_11 ?_
  refine lv_aload_n hx hb dX6_addMourner_14 rfl (lv_at hl 0 rfl) ?_
  refine gf_X6_34 hx hb hC hw k0 (gS_X hk0 τ ad M4) rfl dX6_addMourner_15 ?_
  refine r_top (fun x5 e5 => ?_)
  have g5 : iR x5 := by rw [e5]; exact hM.get hk0.pos _
  have hv := hv x5 e5 g5
  refine lv_iload_n hx hb dX6_addMourner_18 rfl (lv_at hl 2 rfl) ?_
  obtain ⟨c6, hv⟩ := hv
  obtain ⟨c7, hv⟩ := hv
  obtain ⟨M8, e8⟩ : ∃ M8 : Mem, M8 = up2 M4 (k0 + 4) x5 p2 := ⟨_, rfl⟩
  have hv := hv M8 e8
  refine r_iast (ws' := (WX τ ad M8)) hx hb hC hw (k0 + 4) (gI_X (isS_f3 hk0) τ ad M4) c6 c7 (by decide) (by rw [e8]; exact sI_X (isS_f3 hk0) τ ad M4 _ _) dX6_addMourner_19 (fun H locs hw => ?_)
  have hM : MR M8 := by rw [e8]; exact hM.put (isS_f3 hk0).pos hp2
  refine lv_aload_n hx hb dX6_addMourner_20 rfl (lv_at hl 0 rfl) ?_
  refine gf_X6_24 hx hb hC hw k0 (gS_X hk0 τ ad M8) rfl dX6_addMourner_21 ?_
  refine lv_aload_n hx hb dX6_addMourner_24 rfl (lv_at hl 0 rfl) ?_
  refine gf_X6_34 hx hb hC hw k0 (gS_X hk0 τ ad M8) rfl dX6_addMourner_25 ?_
  refine r_top (fun x9 e9 => ?_)
  have g9 : iR x9 := by rw [e9]; exact hM.get hk0.pos _
  have hv := hv x9 e9 g9
  refine r_iconst hx hb dX6_addMourner_28 ?_
  obtain ⟨c10, hv⟩ := hv
  obtain ⟨c11, hv⟩ := hv
  obtain ⟨M12, e12⟩ : ∃ M12 : Mem, M12 = up2 M8 (k0 + 5) x9 (-1) := ⟨_, rfl⟩
  have hv := hv M12 e12
  refine r_iast (ws' := (WX τ ad M12)) hx hb hC hw (k0 + 5) (gI_X (isS_f4 hk0) τ ad M8) c10 c11 (by decide) (by rw [e12]; exact sI_X (isS_f4 hk0) τ ad M8 _ _) dX6_addMourner_29 (fun H locs hw => ?_)
  have hM : MR M12 := by rw [e12]; exact hM.put (isS_f4 hk0).pos (by decide)
  refine lv_aload_n hx hb dX6_addMourner_30 rfl (lv_at hl 0 rfl) ?_
  refine gf_X6_27 hx hb hC hw k0 (gS_X hk0 τ ad M12) rfl dX6_addMourner_31 ?_
  refine lv_aload_n hx hb dX6_addMourner_34 rfl (lv_at hl 0 rfl) ?_
  refine gf_X6_34 hx hb hC hw k0 (gS_X hk0 τ ad M12) rfl dX6_addMourner_35 ?_
  refine r_top (fun x13 e13 => ?_)
  have g13 : iR x13 := by rw [e13]; exact hM.get hk0.pos _
  have hv := hv x13 e13 g13
  refine r_iconst hx hb dX6_addMourner_38 ?_
  obtain ⟨c14, hv⟩ := hv
  obtain ⟨c15, hv⟩ := hv
  obtain ⟨M16, e16⟩ : ∃ M16 : Mem, M16 = up2 M12 (k0 + 6) x13 (-1) := ⟨_, rfl⟩
  have hv := hv M16 e16
  refine r_iast (ws' := (WX τ ad M16)) hx hb hC hw (k0 + 6) (gI_X (isS_f5 hk0) τ ad M12) c14 c15 (by decide) (by rw [e16]; exact sI_X (isS_f5 hk0) τ ad M12 _ _) dX6_addMourner_39 (fun H locs hw => ?_)
  have hM : MR M16 := by rw [e16]; exact hM.put (isS_f5 hk0).pos (by decide)
  refine lv_aload_n hx hb dX6_addMourner_40 rfl (lv_at hl 0 rfl) ?_
  refine lv_dup hx hb dX6_addMourner_41 rfl ?_
  refine gf_X6_34 hx hb hC hw k0 (gS_X hk0 τ ad M16) rfl dX6_addMourner_42 ?_
  refine r_top (fun x17 e17 => ?_)
  have g17 : iR x17 := by rw [e17]; exact hM.get hk0.pos _
  have hv := hv x17 e17 g17
  refine r_iconst hx hb dX6_addMourner_45 ?_
  refine r_iadd (z := (x17 + 1)) hx hb dX6_addMourner_46 rfl ?_
  obtain ⟨c18, hv⟩ := hv
  obtain ⟨M19, e19⟩ : ∃ M19 : Mem, M19 = up2 M16 k0 7 (x17 + 1) := ⟨_, rfl⟩
  have hv := hv M19 e19
  refine pf_X6_34 (ws' := (WX τ ad M19)) hx hb hC hw k0 (gS_X hk0 τ ad M16) (Nat.le_of_ble_eq_true rfl) (by rw [e19]; exact sS_7 hk0 τ ad M16 _) dX6_addMourner_47 (fun H locs hw => ?_)
  have hM : MR M19 := by rw [e19]; exact hM.put hk0.pos c18
  exact k_vret (wq_X τ ad) hx hb hr hlk hw hM hv dX6_addMourner_50
set_option maxHeartbeats 4000000 in
set_option maxRecDepth 100000 in
theorem mX11_readMourner (l : Launch) (D : va_G) (τ : Nat → ClassId) (ad : Nat → Nat) (sA sV : Nat → Nat) (sz : Nat)   (M : Mem) (hM : MR M) (Q : Int → Mem → Prop) (hv : qX11_readMourner  M Q) : Met l yX11_readMourner (lw_w yX11_readMourner cX11_readMourner 3 (some .boolean)) (rmk 5 0 0) (kPc D τ sA sV (WX τ ad M) sz [.ref (ad 155)]) (gQi D (EQz (WX τ ad) MR Q) (va_A (WX τ ad M) sz)) 0 0 (va_A (WX τ ad M) sz) := by
  refine k_met (ret := (some .boolean)) (Qc := gQi D (EQz (WX τ ad) MR Q)) (by decide +kernel) (Nat.le_of_ble_eq_true rfl) ?_
  intro p e s m args below meth c A ls hx hb hml hr hlk hnm hC hLS hA hw hl
  have hC : cx D τ s m args RX11 := hC
  have hl : lv_has ls 3 [(0, .ref (ad 155))] := hl
  unfold qX11_readMourner at hv
  refine lv_aload_n hx hb dX11_readMourner_0 rfl (lv_at hl 0 rfl) ?_
  refine gf_X11_30 hx hb hC hw 155 (gX_155 τ ad M) rfl dX11_readMourner_1 ?_
  refine gf_X11_191 hx hb hC hw 8 (gS_X (by decide) τ ad M) rfl dX11_readMourner_4 ?_
  refine r_top (fun x1 e1 => ?_)
  have g1 : iR x1 := by rw [e1]; exact hM.get (by decide) _
  have hv := hv x1 e1 g1
  refine r_bipush hx hb dX11_readMourner_7 (by decide +kernel) ?_
  refine r_icmp_lt (tgt := 14) hx hb dX11_readMourner_9 (by decide) g1 (by decide) (fun b2 => ?_) (fun b2 => ?_)
  · have hv := hv.1 b2
    refine lv_aload_n hx hb dX11_readMourner_14 rfl (lv_at hl 0 rfl) ?_
    refine k_cVi (wq_X τ ad) hx hb hml hC hLS hA hw hl.1 (mX11_readCell l D τ ad sA sV _   M hM _ hv) kX11_readCell ml_X11_179 rfl (gX_155 τ ad M) rfl rfl (Nat.le_of_ble_eq_true rfl) (rm_ok (by decide) (by decide)) ⟨Nat.zero_le _, Nat.zero_le _⟩ dX11_readMourner_15 (fun x3 M3 H locs g3 hM hv hw => ?_)
    have hv := hv g3
    refine lv_istore_n (lv' := [(1, .int (iI x3)), (0, .ref (ad 155))]) hx hb dX11_readMourner_18 rfl hl (by decide) rfl (fun ls hl => ?_)
    refine lv_aload_n hx hb dX11_readMourner_19 rfl (lv_at hl 1 rfl) ?_
    refine gf_X11_10 hx hb hC hw 155 (gX_155 τ ad M3) rfl dX11_readMourner_20 ?_
    refine k_cVi (wq_X τ ad) hx hb hml hC hLS hA hw hl.1 (mX9_look l D τ ad sA sV _   M3 hM _ hv) kX9_look ml_X11_194 rfl (gX_156 τ ad M3) rfl rfl (Nat.le_of_ble_eq_true rfl) (rm_ok (by decide) (by decide)) ⟨Nat.zero_le _, Nat.zero_le _⟩ dX11_readMourner_23 (fun x4 M4 H locs g4 hM hv hw => ?_)
    have hv := hv g4
    refine r_bipush hx hb dX11_readMourner_26 (by decide +kernel) ?_
    refine r_isub (z := (x4 - 97)) hx hb dX11_readMourner_28 rfl ?_
    refine lv_istore_n (lv' := [(2, .int (iI (x4 - 97))), (1, .int (iI x3)), (0, .ref (ad 155))]) hx hb dX11_readMourner_29 rfl hl (by decide) rfl (fun ls hl => ?_)
    refine lv_iload_n hx hb dX11_readMourner_30 rfl (lv_at hl 1 rfl) ?_
    refine r_iconst hx hb dX11_readMourner_31 ?_
    refine r_icmp_eq (tgt := 50) hx hb dX11_readMourner_32 (by decide) g3 (by decide) (fun b5 => ?_) (fun b5 => ?_)
    · have hv := hv.1 b5
      refine r_iconst hx hb dX11_readMourner_50 ?_
      exact k_zret (wq_X τ ad) hx hb hr hlk hw hM (by decide) (by decide) hv dX11_readMourner_51
    · have hv := hv.2 b5
      refine lv_iload_n hx hb dX11_readMourner_35 rfl (lv_at hl 0 rfl) ?_
      obtain ⟨c6, hv⟩ := hv
      refine r_if_lt (tgt := 50) hx hb dX11_readMourner_36 (by decide) c6  (fun b7 => ?_) (fun b7 => ?_)
      · have hv := hv.1 b7
        refine r_iconst hx hb dX11_readMourner_50 ?_
        exact k_zret (wq_X τ ad) hx hb hr hlk hw hM (by decide) (by decide) hv dX11_readMourner_51
      · have hv := hv.2 b7
        refine lv_iload_n hx hb dX11_readMourner_39 rfl (lv_at hl 0 rfl) ?_
        refine lv_aload_n hx hb dX11_readMourner_40 rfl (lv_at hl 2 rfl) ?_
        refine gf_X11_30 hx hb hC hw 155 (gX_155 τ ad M4) rfl dX11_readMourner_41 ?_
        refine gf_X11_176 hx hb hC hw 8 (gS_X (by decide) τ ad M4) rfl dX11_readMourner_44 ?_
        refine r_top (fun x8 e8 => ?_)
        have g8 : iR x8 := by rw [e8]; exact hM.get (by decide) _
        have hv := hv x8 e8 g8
        refine r_icmp_lt (tgt := 52) hx hb dX11_readMourner_47 (by decide) c6 g8 (fun b9 => ?_) (fun b9 => ?_)
        · have hv := hv.1 b9
          refine lv_aload_n hx hb dX11_readMourner_52 rfl (lv_at hl 2 rfl) ?_
          refine gf_X11_10 hx hb hC hw 155 (gX_155 τ ad M4) rfl dX11_readMourner_53 ?_
          refine k_cVv (wq_X τ ad) hx hb hml hC hLS hA hw hl.1 (mX9_pass l D τ ad sA sV _   M4 hM _ hv) kX9_pass ml_X11_197 rfl (gX_156 τ ad M4) rfl rfl (Nat.le_of_ble_eq_true rfl) (rm_ok (by decide) (by decide)) ⟨Nat.zero_le _, Nat.zero_le _⟩ dX11_readMourner_56 (fun M10 H locs hM hv hw => ?_)
          refine lv_aload_n hx hb dX11_readMourner_59 rfl (lv_at hl 2 rfl) ?_
          refine gf_X11_30 hx hb hC hw 155 (gX_155 τ ad M10) rfl dX11_readMourner_60 ?_
          refine lv_iload_n hx hb dX11_readMourner_63 rfl (lv_at hl 1 rfl) ?_
          refine lv_iload_n hx hb dX11_readMourner_64 rfl (lv_at hl 0 rfl) ?_
          refine k_cVv (wq_X τ ad) hx hb hml hC hLS hA hw hl.1 (mX6_addMourner l D τ ad sA sV _ 8 x3 (x4 - 97) (by decide) g3 c6 M10 hM _ hv) kX6_addMourner ml_X11_200 rfl (gS_X (by decide) τ ad M10) rfl rfl (Nat.le_of_ble_eq_true rfl) (rm_ok (by decide) (by decide)) ⟨Nat.zero_le _, Nat.zero_le _⟩ dX11_readMourner_65 (fun M11 H locs hM hv hw => ?_)
          refine r_iconst hx hb dX11_readMourner_68 ?_
          exact k_zret (wq_X τ ad) hx hb hr hlk hw hM (by decide) (by decide) hv dX11_readMourner_69
        · have hv := hv.2 b9
          refine r_iconst hx hb dX11_readMourner_50 ?_
          exact k_zret (wq_X τ ad) hx hb hr hlk hw hM (by decide) (by decide) hv dX11_readMourner_51
  · have hv := hv.2 b2
    refine r_iconst hx hb dX11_readMourner_12 ?_
    exact k_zret (wq_X τ ad) hx hb hr hlk hw hM (by decide) (by decide) hv dX11_readMourner_13
set_option maxHeartbeats 4000000 in
set_option maxRecDepth 100000 in
theorem mX6_copyFrom (l : Launch) (D : va_G) (τ : Nat → ClassId) (ad : Nat → Nat) (sA sV : Nat → Nat) (sz : Nat) (k0 : Nat) (k1 : Nat) (hk0 : isS k0) (hk1 : isS k1) (M : Mem) (hM : MR M) (Q : Mem → Prop) (hv : qX6_copyFrom k0 k1 M Q) : Met l yX6_copyFrom (lw_w yX6_copyFrom cX6_copyFrom 2 none) (rmk 1 0 0) (kPc D τ sA sV (WX τ ad M) sz [.ref (ad k0), .ref (ad k1)]) (gQv D (EQv (WX τ ad) MR Q) (va_A (WX τ ad M) sz)) 0 0 (va_A (WX τ ad M) sz) := by
  refine k_met (ret := none) (Qc := gQv D (EQv (WX τ ad) MR Q)) (by decide +kernel) (Nat.le_of_ble_eq_true rfl) ?_
  intro p e s m args below meth c A ls hx hb hml hr hlk hnm hC hLS hA hw hl
  have hC : cx D τ s m args RX6 := hC
  have hl : lv_has ls 2 [(0, .ref (ad k0)), (1, .ref (ad k1))] := hl
  unfold qX6_copyFrom at hv
  refine lv_aload_n hx hb dX6_copyFrom_0 rfl (lv_at hl 1 rfl) ?_
  refine gf_X6_9 hx hb hC hw k1 (gS_X hk1 τ ad M) rfl dX6_copyFrom_1 ?_
  refine r_iconst hx hb dX6_copyFrom_4 ?_
  refine lv_aload_n hx hb dX6_copyFrom_5 rfl (lv_at hl 0 rfl) ?_
  refine gf_X6_9 hx hb hC hw k0 (gS_X hk0 τ ad M) rfl dX6_copyFrom_6 ?_
  refine r_iconst hx hb dX6_copyFrom_9 ?_
  refine r_bipush hx hb dX6_copyFrom_10 (by decide +kernel) ?_
  obtain ⟨M1, e1⟩ : ∃ M1 : Mem, M1 = cp2 M (k1 + 1) (k0 + 1) 6 := ⟨_, rfl⟩
  have hv := hv M1 e1
  refine r_copy (ws' := (WX τ ad M1)) hx hb hml hC hl.1 ml_X6_46 nm_arraycopy sm_arraycopy in_J10 hw (k1 + 1) (k0 + 1) (gI_X (isS_f0 hk1) τ ad M) (gI_X (isS_f0 hk0) τ ad M) (by decide) (by decide) (by decide) (by decide) (by rw [e1]; exact cI_X (isS_f0 hk0) τ ad M (k1 + 1) _) (by decide) (Nat.le_of_ble_eq_true rfl) (by decide) dX6_copyFrom_12 (fun H locs hw => ?_)
  have hM : MR M1 := by rw [e1]; exact hM.copy (isS_f0 hk1).pos (isS_f0 hk0).pos
  refine lv_aload_n hx hb dX6_copyFrom_15 rfl (lv_at hl 1 rfl) ?_
  refine gf_X6_15 hx hb hC hw k1 (gS_X hk1 τ ad M1) rfl dX6_copyFrom_16 ?_
  refine r_iconst hx hb dX6_copyFrom_19 ?_
  refine lv_aload_n hx hb dX6_copyFrom_20 rfl (lv_at hl 0 rfl) ?_
  refine gf_X6_15 hx hb hC hw k0 (gS_X hk0 τ ad M1) rfl dX6_copyFrom_21 ?_
  refine r_iconst hx hb dX6_copyFrom_24 ?_
  refine r_bipush hx hb dX6_copyFrom_25 (by decide +kernel) ?_
  obtain ⟨M2, e2⟩ : ∃ M2 : Mem, M2 = cp2 M1 (k1 + 2) (k0 + 2) 6 := ⟨_, rfl⟩
  have hv := hv M2 e2
  refine r_copy (ws' := (WX τ ad M2)) hx hb hml hC hl.1 ml_X6_46 nm_arraycopy sm_arraycopy in_J10 hw (k1 + 2) (k0 + 2) (gI_X (isS_f1 hk1) τ ad M1) (gI_X (isS_f1 hk0) τ ad M1) (by decide) (by decide) (by decide) (by decide) (by rw [e2]; exact cI_X (isS_f1 hk0) τ ad M1 (k1 + 2) _) (by decide) (Nat.le_of_ble_eq_true rfl) (by decide) dX6_copyFrom_27 (fun H locs hw => ?_)
  have hM : MR M2 := by rw [e2]; exact hM.copy (isS_f1 hk1).pos (isS_f1 hk0).pos
  refine lv_aload_n hx hb dX6_copyFrom_30 rfl (lv_at hl 1 rfl) ?_
  refine gf_X6_18 hx hb hC hw k1 (gS_X hk1 τ ad M2) rfl dX6_copyFrom_31 ?_
  refine r_iconst hx hb dX6_copyFrom_34 ?_
  refine lv_aload_n hx hb dX6_copyFrom_35 rfl (lv_at hl 0 rfl) ?_
  refine gf_X6_18 hx hb hC hw k0 (gS_X hk0 τ ad M2) rfl dX6_copyFrom_36 ?_
  refine r_iconst hx hb dX6_copyFrom_39 ?_
  refine r_bipush hx hb dX6_copyFrom_40 (by decide +kernel) ?_
  obtain ⟨M3, e3⟩ : ∃ M3 : Mem, M3 = cp2 M2 (k1 + 3) (k0 + 3) 8 := ⟨_, rfl⟩
  have hv := hv M3 e3
  refine r_copy (ws' := (WX τ ad M3)) hx hb hml hC hl.1 ml_X6_46 nm_arraycopy sm_arraycopy in_J10 hw (k1 + 3) (k0 + 3) (gI_X (isS_f2 hk1) τ ad M2) (gI_X (isS_f2 hk0) τ ad M2) (by decide) (by decide) (by decide) (by decide) (by rw [e3]; exact cI_X (isS_f2 hk0) τ ad M2 (k1 + 3) _) (by decide) (Nat.le_of_ble_eq_true rfl) (by decide) dX6_copyFrom_42 (fun H locs hw => ?_)
  have hM : MR M3 := by rw [e3]; exact hM.copy (isS_f2 hk1).pos (isS_f2 hk0).pos
  refine lv_aload_n hx hb dX6_copyFrom_45 rfl (lv_at hl 1 rfl) ?_
  refine gf_X6_21 hx hb hC hw k1 (gS_X hk1 τ ad M3) rfl dX6_copyFrom_46 ?_
  refine r_iconst hx hb dX6_copyFrom_49 ?_
  refine lv_aload_n hx hb dX6_copyFrom_50 rfl (lv_at hl 0 rfl) ?_
  refine gf_X6_21 hx hb hC hw k0 (gS_X hk0 τ ad M3) rfl dX6_copyFrom_51 ?_
  refine r_iconst hx hb dX6_copyFrom_54 ?_
  refine r_bipush hx hb dX6_copyFrom_55 (by decide +kernel) ?_
  obtain ⟨M4, e4⟩ : ∃ M4 : Mem, M4 = cp2 M3 (k1 + 4) (k0 + 4) 8 := ⟨_, rfl⟩
  have hv := hv M4 e4
  refine r_copy (ws' := (WX τ ad M4)) hx hb hml hC hl.1 ml_X6_46 nm_arraycopy sm_arraycopy in_J10 hw (k1 + 4) (k0 + 4) (gI_X (isS_f3 hk1) τ ad M3) (gI_X (isS_f3 hk0) τ ad M3) (by decide) (by decide) (by decide) (by decide) (by rw [e4]; exact cI_X (isS_f3 hk0) τ ad M3 (k1 + 4) _) (by decide) (Nat.le_of_ble_eq_true rfl) (by decide) dX6_copyFrom_57 (fun H locs hw => ?_)
  have hM : MR M4 := by rw [e4]; exact hM.copy (isS_f3 hk1).pos (isS_f3 hk0).pos
  refine lv_aload_n hx hb dX6_copyFrom_60 rfl (lv_at hl 1 rfl) ?_
  refine gf_X6_24 hx hb hC hw k1 (gS_X hk1 τ ad M4) rfl dX6_copyFrom_61 ?_
  refine r_iconst hx hb dX6_copyFrom_64 ?_
  refine lv_aload_n hx hb dX6_copyFrom_65 rfl (lv_at hl 0 rfl) ?_
  refine gf_X6_24 hx hb hC hw k0 (gS_X hk0 τ ad M4) rfl dX6_copyFrom_66 ?_
  refine r_iconst hx hb dX6_copyFrom_69 ?_
  refine r_bipush hx hb dX6_copyFrom_70 (by decide +kernel) ?_
  obtain ⟨M5, e5⟩ : ∃ M5 : Mem, M5 = cp2 M4 (k1 + 5) (k0 + 5) 8 := ⟨_, rfl⟩
  have hv := hv M5 e5
  refine r_copy (ws' := (WX τ ad M5)) hx hb hml hC hl.1 ml_X6_46 nm_arraycopy sm_arraycopy in_J10 hw (k1 + 5) (k0 + 5) (gI_X (isS_f4 hk1) τ ad M4) (gI_X (isS_f4 hk0) τ ad M4) (by decide) (by decide) (by decide) (by decide) (by rw [e5]; exact cI_X (isS_f4 hk0) τ ad M4 (k1 + 5) _) (by decide) (Nat.le_of_ble_eq_true rfl) (by decide) dX6_copyFrom_72 (fun H locs hw => ?_)
  have hM : MR M5 := by rw [e5]; exact hM.copy (isS_f4 hk1).pos (isS_f4 hk0).pos
  refine lv_aload_n hx hb dX6_copyFrom_75 rfl (lv_at hl 1 rfl) ?_
  refine gf_X6_27 hx hb hC hw k1 (gS_X hk1 τ ad M5) rfl dX6_copyFrom_76 ?_
  refine r_iconst hx hb dX6_copyFrom_79 ?_
  refine lv_aload_n hx hb dX6_copyFrom_80 rfl (lv_at hl 0 rfl) ?_
  refine gf_X6_27 hx hb hC hw k0 (gS_X hk0 τ ad M5) rfl dX6_copyFrom_81 ?_
  refine r_iconst hx hb dX6_copyFrom_84 ?_
  refine r_bipush hx hb dX6_copyFrom_85 (by decide +kernel) ?_
  obtain ⟨M6, e6⟩ : ∃ M6 : Mem, M6 = cp2 M5 (k1 + 6) (k0 + 6) 8 := ⟨_, rfl⟩
  have hv := hv M6 e6
  refine r_copy (ws' := (WX τ ad M6)) hx hb hml hC hl.1 ml_X6_46 nm_arraycopy sm_arraycopy in_J10 hw (k1 + 6) (k0 + 6) (gI_X (isS_f5 hk1) τ ad M5) (gI_X (isS_f5 hk0) τ ad M5) (by decide) (by decide) (by decide) (by decide) (by rw [e6]; exact cI_X (isS_f5 hk0) τ ad M5 (k1 + 6) _) (by decide) (Nat.le_of_ble_eq_true rfl) (by decide) dX6_copyFrom_87 (fun H locs hw => ?_)
  have hM : MR M6 := by rw [e6]; exact hM.copy (isS_f5 hk1).pos (isS_f5 hk0).pos
  refine lv_aload_n hx hb dX6_copyFrom_90 rfl (lv_at hl 0 rfl) ?_
  refine lv_aload_n hx hb dX6_copyFrom_91 rfl (lv_at hl 1 rfl) ?_
  refine gf_X6_30 hx hb hC hw k1 (gS_X hk1 τ ad M6) rfl dX6_copyFrom_92 ?_
  refine r_top (fun x7 e7 => ?_)
  have g7 : iR x7 := by rw [e7]; exact hM.get hk1.pos _
  have hv := hv x7 e7 g7
  obtain ⟨M8, e8⟩ : ∃ M8 : Mem, M8 = up2 M6 k0 6 x7 := ⟨_, rfl⟩
  have hv := hv M8 e8
  refine pf_X6_30 (ws' := (WX τ ad M8)) hx hb hC hw k0 (gS_X hk0 τ ad M6) (Nat.le_of_ble_eq_true rfl) (by rw [e8]; exact sS_6 hk0 τ ad M6 _) dX6_copyFrom_95 (fun H locs hw => ?_)
  have hM : MR M8 := by rw [e8]; exact hM.put hk0.pos g7
  refine lv_aload_n hx hb dX6_copyFrom_98 rfl (lv_at hl 0 rfl) ?_
  refine lv_aload_n hx hb dX6_copyFrom_99 rfl (lv_at hl 1 rfl) ?_
  refine gf_X6_34 hx hb hC hw k1 (gS_X hk1 τ ad M8) rfl dX6_copyFrom_100 ?_
  refine r_top (fun x9 e9 => ?_)
  have g9 : iR x9 := by rw [e9]; exact hM.get hk1.pos _
  have hv := hv x9 e9 g9
  obtain ⟨M10, e10⟩ : ∃ M10 : Mem, M10 = up2 M8 k0 7 x9 := ⟨_, rfl⟩
  have hv := hv M10 e10
  refine pf_X6_34 (ws' := (WX τ ad M10)) hx hb hC hw k0 (gS_X hk0 τ ad M8) (Nat.le_of_ble_eq_true rfl) (by rw [e10]; exact sS_7 hk0 τ ad M8 _) dX6_copyFrom_103 (fun H locs hw => ?_)
  have hM : MR M10 := by rw [e10]; exact hM.put hk0.pos g9
  refine lv_aload_n hx hb dX6_copyFrom_106 rfl (lv_at hl 0 rfl) ?_
  refine lv_aload_n hx hb dX6_copyFrom_107 rfl (lv_at hl 1 rfl) ?_
  refine gf_X6_37 hx hb hC hw k1 (gS_X hk1 τ ad M10) rfl dX6_copyFrom_108 ?_
  refine r_top (fun x11 e11 => ?_)
  have g11 : iR x11 := by rw [e11]; exact hM.get hk1.pos _
  have hv := hv x11 e11 g11
  obtain ⟨M12, e12⟩ : ∃ M12 : Mem, M12 = up2 M10 k0 8 x11 := ⟨_, rfl⟩
  have hv := hv M12 e12
  refine pf_X6_37 (ws' := (WX τ ad M12)) hx hb hC hw k0 (gS_X hk0 τ ad M10) (Nat.le_of_ble_eq_true rfl) (by rw [e12]; exact sS_8 hk0 τ ad M10 _) dX6_copyFrom_111 (fun H locs hw => ?_)
  have hM : MR M12 := by rw [e12]; exact hM.put hk0.pos g11
  refine lv_aload_n hx hb dX6_copyFrom_114 rfl (lv_at hl 0 rfl) ?_
  refine lv_aload_n hx hb dX6_copyFrom_115 rfl (lv_at hl 1 rfl) ?_
  refine gf_X6_40 hx hb hC hw k1 (gS_X hk1 τ ad M12) rfl dX6_copyFrom_116 ?_
  refine r_top (fun x13 e13 => ?_)
  have g13 : iR x13 := by rw [e13]; exact hM.get hk1.pos _
  have hv := hv x13 e13 g13
  obtain ⟨M14, e14⟩ : ∃ M14 : Mem, M14 = up2 M12 k0 9 x13 := ⟨_, rfl⟩
  have hv := hv M14 e14
  refine pf_X6_40 (ws' := (WX τ ad M14)) hx hb hC hw k0 (gS_X hk0 τ ad M12) (Nat.le_of_ble_eq_true rfl) (by rw [e14]; exact sS_9 hk0 τ ad M12 _) dX6_copyFrom_119 (fun H locs hw => ?_)
  have hM : MR M14 := by rw [e14]; exact hM.put hk0.pos g13
  refine lv_aload_n hx hb dX6_copyFrom_122 rfl (lv_at hl 0 rfl) ?_
  refine lv_aload_n hx hb dX6_copyFrom_123 rfl (lv_at hl 1 rfl) ?_
  refine gf_X6_43 hx hb hC hw k1 (gS_X hk1 τ ad M14) rfl dX6_copyFrom_124 ?_
  refine r_top (fun x15 e15 => ?_)
  have g15 : iR x15 := by rw [e15]; exact hM.get hk1.pos _
  have hv := hv x15 e15 g15
  obtain ⟨M16, e16⟩ : ∃ M16 : Mem, M16 = up2 M14 k0 10 x15 := ⟨_, rfl⟩
  have hv := hv M16 e16
  refine pf_X6_43 (ws' := (WX τ ad M16)) hx hb hC hw k0 (gS_X hk0 τ ad M14) (Nat.le_of_ble_eq_true rfl) (by rw [e16]; exact sS_10 hk0 τ ad M14 _) dX6_copyFrom_127 (fun H locs hw => ?_)
  have hM : MR M16 := by rw [e16]; exact hM.put hk0.pos g15
  exact k_vret (wq_X τ ad) hx hb hr hlk hw hM hv dX6_copyFrom_130
set_option maxHeartbeats 4000000 in
set_option maxRecDepth 100000 in
theorem mX9_isWhole (l : Launch) (D : va_G) (τ : Nat → ClassId) (ad : Nat → Nat) (sA sV : Nat → Nat) (sz : Nat)   (M : Mem) (hM : MR M) (Q : Int → Mem → Prop) (hv : qX9_isWhole  M Q) : Met l yX9_isWhole (lw_w yX9_isWhole cX9_isWhole 1 (some .boolean)) (rmk 1 0 0) (kPc D τ sA sV (WX τ ad M) sz [.ref (ad 156)]) (gQi D (EQz (WX τ ad) MR Q) (va_A (WX τ ad M) sz)) 0 0 (va_A (WX τ ad M) sz) := by
  refine k_met (ret := (some .boolean)) (Qc := gQi D (EQz (WX τ ad) MR Q)) (by decide +kernel) (Nat.le_of_ble_eq_true rfl) ?_
  intro p e s m args below meth c A ls hx hb hml hr hlk hnm hC hLS hA hw hl
  have hC : cx D τ s m args RX9 := hC
  have hl : lv_has ls 1 [(0, .ref (ad 156))] := hl
  unfold qX9_isWhole at hv
  refine lv_aload_n hx hb dX9_isWhole_0 rfl (lv_at hl 0 rfl) ?_
  refine gf_X9_19 hx hb hC hw 156 (gX_156 τ ad M) rfl dX9_isWhole_1 ?_
  refine r_top (fun x1 e1 => ?_)
  have g1 : iR x1 := by rw [e1]; exact hM.get (by decide) _
  have hv := hv x1 e1 g1
  refine lv_aload_n hx hb dX9_isWhole_4 rfl (lv_at hl 0 rfl) ?_
  refine gf_X9_15 hx hb hC hw 156 (gX_156 τ ad M) rfl dX9_isWhole_5 ?_
  refine r_top (fun x2 e2 => ?_)
  have g2 : iR x2 := by rw [e2]; exact hM.get (by decide) _
  have hv := hv x2 e2 g2
  refine r_icmp_lt (tgt := 15) hx hb dX9_isWhole_8 (by decide) g1 g2 (fun b3 => ?_) (fun b3 => ?_)
  · have hv := hv.1 b3
    refine r_iconst hx hb dX9_isWhole_15 ?_
    exact k_zret (wq_X τ ad) hx hb hr hlk hw hM (by decide) (by decide) hv dX9_isWhole_16
  · have hv := hv.2 b3
    refine r_iconst hx hb dX9_isWhole_11 ?_
    refine lv_goto (tgt := 16) hx hb dX9_isWhole_12 (by decide) ?_
    exact k_zret (wq_X τ ad) hx hb hr hlk hw hM (by decide) (by decide) hv dX9_isWhole_16
end
