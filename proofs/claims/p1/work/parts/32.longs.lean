theorem pow10_b (t : Nat) (h : t ≤ 12) : (1 : Int) ≤ 10 ^ t ∧ (10 : Int) ^ t ≤ 1000000000000 := by
  have h1 : ∀ t : Fin 13, (1 : Int) ≤ 10 ^ (t : Nat) ∧ (10 : Int) ^ (t : Nat) ≤ 1000000000000 := by decide
  exact h1 ⟨t, by omega⟩
theorem pow10_s (i : Int) (h : 0 ≤ i) : (10 : Int) ^ (i + 1).toNat = 10 * 10 ^ i.toNat := by
  have h1 : (i + 1).toNat = i.toNat + 1 := by omega
  rw [h1, Int.pow_succ, Int.mul_comm]
abbrev W_c_power10 (τ : Nat → ClassId) (v : Int) : va_W := []
abbrev E_c_power10 (τ : Nat → ClassId) (v : Int) : Int → va_W → Prop := fun z w => (1 ≤ z ∧ z ≤ 1000000000000) ∧ w = []
set_option maxHeartbeats 4000000 in
set_option maxRecDepth 100000 in
theorem c_power10 (l : Launch) (D : va_G) (τ : Nat → ClassId) (sz : Nat) (v : Int) (hp0 : 1 ≤ v ∧ v ≤ 12) : Met l yX11_power (lw_w yX11_power cX11_power 6 (some .long)) (rmk 1 0 0) (gPc D τ (W_c_power10 τ v) sz [.long (lI 10), .int (iI v)]) (gQl D (E_c_power10 τ v) (va_A (W_c_power10 τ v) sz)) 0 0 (va_A (W_c_power10 τ v) sz) := by
  refine g_met (ret := (some .long)) (Qc := gQl D (E_c_power10 τ v)) (by decide +kernel) (Nat.le_of_ble_eq_true rfl) ?_
  intro p e s m args below meth c A ls hx hb hml hr hlk hnm hC hA hw hl
  have hC : cx D τ s m args RX11 := hC
  have hl : lv_has ls 6 [(0, .long (lI 10)), (2, .int (iI v))] := hl
  have hw : wS D A s.heap [] s.heap [] := hw
  refine r_lconst (z := 1) hx hb dX11_power_0 (by decide +kernel) ?_
  refine lv_lstore_n (lv' := [(3, .long (lI 1)), (0, .long (lI 10)), (2, .int (iI v))]) hx hb dX11_power_1 rfl hl (by decide) rfl (fun ls hl => ?_)
  refine r_iconst hx hb dX11_power_2 ?_
  refine lv_istore (lv' := [(5, .int (iI 0)), (3, .long (lI 1)), (0, .long (lI 10)), (2, .int (iI v))]) hx hb dX11_power_3 hl (by decide) rfl (fun ls hl => ?_)
  have L5 : ∀ (n : Nat) (i5 : Int) (p5 : Int) (H : Heap) (locs : List Loc) (ls : Array Slot), (0 ≤ i5 ∧ i5 ≤ v) → (p5 = 10 ^ i5.toNat) → ((v - i5).toNat < n) → wS D A s.heap [] H locs → lv_has ls 6 [(0, .long (lI 10)), (2, .int (iI v)), (3, .long (lI p5)), (5, .int (iI i5))] → W p l e (rmk 1 0 0) s m args below meth c H locs 0 0 (MQ below (gQl D (E_c_power10 τ v) A) args s 0 0 A) (F0 m 5 ls []) := by
    intro n5
    induction n5 with
    | zero => intro i5 p5 H locs ls hi5_0 hi5_1 hm5; exact absurd hm5 (Nat.not_lt_zero _)
    | succ n5 ih5 =>
      intro i5 p5 H locs ls hi5_0 hi5_1 hm5 hw hl
      have hb10 : (1 : Int) ≤ p5 ∧ p5 ≤ 1000000000000 := by rw [hi5_1]; exact pow10_b _ (by omega)
      refine lv_iload hx hb dX11_power_5 (lv_at hl 3 rfl) ?_
      refine lv_iload_n hx hb dX11_power_7 rfl (lv_at hl 1 rfl) ?_
      refine r_icmp_ge (tgt := 21) hx hb dX11_power_8 (by decide) (by omega) (by omega) (fun hbr1 => ?_) (fun hbr1 => ?_)
      · skip
        refine lv_lload_n hx hb dX11_power_21 rfl (lv_at hl 2 rfl) ?_
        exact r_lret (z := p5) hx hb hr hlk hw [] [] rfl (by decide) (by omega) ⟨(by omega), rfl⟩ dX11_power_22
      · skip
        refine lv_lload_n hx hb dX11_power_11 rfl (lv_at hl 2 rfl) ?_
        refine lv_lload_n hx hb dX11_power_12 rfl (lv_at hl 0 rfl) ?_
        refine r_lmul (z := (10 * p5)) hx hb dX11_power_13 (by omega) ?_
        refine lv_lstore_n (lv' := [(3, .long (lI (10 * p5))), (0, .long (lI 10)), (2, .int (iI v)), (5, .int (iI i5))]) hx hb dX11_power_14 rfl hl (by decide) rfl (fun ls hl => ?_)
        refine r_iinc (v := (i5 + 1)) (lv' := [(5, .int (iI (i5 + 1))), (3, .long (lI (10 * p5))), (0, .long (lI 10)), (2, .int (iI v))]) hx hb dX11_power_15 hl (k := 3) rfl (by omega) (by decide) rfl (fun ls hl => ?_)
        refine lv_goto (tgt := 5) hx hb dX11_power_18 (by decide) ?_
        exact ih5 (i5 + 1) (10 * p5) _ _ _ (by omega) (by first | rfl | rw [pow10_s _ hi5_0.1, hi5_1]) (by omega) hw (lv_sub hl [2, 3, 1, 0] rfl)
  exact L5 (_ + 1) 0 1 _ _ _ (by omega) (by first | rfl | rw [pow10_s _ hi5_0.1, hi5_1]) (Nat.lt_succ_self _) hw (lv_sub hl [2, 3, 1, 0] rfl)
abbrev W_c_power (τ : Nat → ClassId) (o : Int) (v : Int) : va_W := []
abbrev E_c_power (τ : Nat → ClassId) (o : Int) (v : Int) : Int → va_W → Prop := fun z w => (True) ∧ w = []
set_option maxHeartbeats 4000000 in
set_option maxRecDepth 100000 in
theorem c_power (l : Launch) (D : va_G) (τ : Nat → ClassId) (sz : Nat) (o : Int) (v : Int) (hp0 : iR v) : Met l yX11_power (lw_w yX11_power cX11_power 6 (some .long)) (rmk 1 0 0) (gPc D τ (W_c_power τ o v) sz [.long (lI o), .int (iI v)]) (gQl D (E_c_power τ o v) (va_A (W_c_power τ o v) sz)) 0 0 (va_A (W_c_power τ o v) sz) := by
  refine g_met (ret := (some .long)) (Qc := gQl D (E_c_power τ o v)) (by decide +kernel) (Nat.le_of_ble_eq_true rfl) ?_
  intro p e s m args below meth c A ls hx hb hml hr hlk hnm hC hA hw hl
  have hC : cx D τ s m args RX11 := hC
  have hl : lv_has ls 6 [(0, .long (lI o)), (2, .int (iI v))] := hl
  have hw : wS D A s.heap [] s.heap [] := hw
  refine r_lconst (z := 1) hx hb dX11_power_0 (by decide +kernel) ?_
  refine lv_lstore_n (lv' := [(3, .long (lI 1)), (0, .long (lI o)), (2, .int (iI v))]) hx hb dX11_power_1 rfl hl (by decide) rfl (fun ls hl => ?_)
  refine r_iconst hx hb dX11_power_2 ?_
  refine lv_istore (lv' := [(5, .int (iI 0)), (3, .long (lI 1)), (0, .long (lI o)), (2, .int (iI v))]) hx hb dX11_power_3 hl (by decide) rfl (fun ls hl => ?_)
  have L5 : ∀ (n : Nat) (i5 : Int) (p5 : Int) (H : Heap) (locs : List Loc) (ls : Array Slot), (0 ≤ i5 ∧ (i5 ≤ v ∨ i5 = 0)) → (lR p5) → ((v - i5).toNat < n) → wS D A s.heap [] H locs → lv_has ls 6 [(0, .long (lI o)), (2, .int (iI v)), (3, .long (lI p5)), (5, .int (iI i5))] → W p l e (rmk 1 0 0) s m args below meth c H locs 0 0 (MQ below (gQl D (E_c_power τ o v) A) args s 0 0 A) (F0 m 5 ls []) := by
    intro n5
    induction n5 with
    | zero => intro i5 p5 H locs ls hi5_0 hi5_1 hm5; exact absurd hm5 (Nat.not_lt_zero _)
    | succ n5 ih5 =>
      intro i5 p5 H locs ls hi5_0 hi5_1 hm5 hw hl
      refine lv_iload hx hb dX11_power_5 (lv_at hl 3 rfl) ?_
      refine lv_iload_n hx hb dX11_power_7 rfl (lv_at hl 1 rfl) ?_
      refine r_icmp_ge (tgt := 21) hx hb dX11_power_8 (by decide) (by omega) (by omega) (fun hbr1 => ?_) (fun hbr1 => ?_)
      · skip
        refine lv_lload_n hx hb dX11_power_21 rfl (lv_at hl 2 rfl) ?_
        exact r_lret (z := p5) hx hb hr hlk hw [] [] rfl (by decide) (by omega) ⟨trivial, rfl⟩ dX11_power_22
      · skip
        refine lv_lload_n hx hb dX11_power_11 rfl (lv_at hl 2 rfl) ?_
        refine lv_lload_n hx hb dX11_power_12 rfl (lv_at hl 0 rfl) ?_
        refine r_lmulX hx hb dX11_power_13 (fun z2 hz2 hv2 => ?_)
        refine lv_lstore_n (lv' := [(3, .long (lI z2)), (0, .long (lI o)), (2, .int (iI v)), (5, .int (iI i5))]) hx hb dX11_power_14 rfl hl (by decide) rfl (fun ls hl => ?_)
        refine r_iinc (v := (i5 + 1)) (lv' := [(5, .int (iI (i5 + 1))), (3, .long (lI z2)), (0, .long (lI o)), (2, .int (iI v))]) hx hb dX11_power_15 hl (k := 3) rfl (by omega) (by decide) rfl (fun ls hl => ?_)
        refine lv_goto (tgt := 5) hx hb dX11_power_18 (by decide) ?_
        exact ih5 (i5 + 1) z2 _ _ _ (by omega) (by omega) (by omega) hw (lv_sub hl [2, 3, 1, 0] rfl)
  exact L5 (_ + 1) 0 1 _ _ _ (by omega) (by omega) (Nat.lt_succ_self _) hw (lv_sub hl [2, 3, 1, 0] rfl)
abbrev W_c_cdiv (τ : Nat → ClassId) (o : Int) (o2 : Int) : va_W := []
abbrev E_c_cdiv (τ : Nat → ClassId) (o : Int) (o2 : Int) : Int → va_W → Prop := fun z w => (1 ≤ z) ∧ w = []
set_option maxHeartbeats 4000000 in
set_option maxRecDepth 100000 in
theorem c_cdiv (l : Launch) (D : va_G) (τ : Nat → ClassId) (sz : Nat) (o : Int) (o2 : Int) (hp0 : 1 ≤ o2 ∧ o2 ≤ 1000000000000) : Met l yX11_commonDivisor (lw_w yX11_commonDivisor cX11_commonDivisor 11 (some .long)) (rmk 1 0 0) (gPc D τ (W_c_cdiv τ o o2) sz [.long (lI o), .long (lI o2)]) (gQl D (E_c_cdiv τ o o2) (va_A (W_c_cdiv τ o o2) sz)) 0 0 (va_A (W_c_cdiv τ o o2) sz) := by
  refine g_met (ret := (some .long)) (Qc := gQl D (E_c_cdiv τ o o2)) (by decide +kernel) (Nat.le_of_ble_eq_true rfl) ?_
  intro p e s m args below meth c A ls hx hb hml hr hlk hnm hC hA hw hl
  have hC : cx D τ s m args RX11 := hC
  have hl : lv_has ls 11 [(0, .long (lI o)), (2, .long (lI o2))] := hl
  have hw : wS D A s.heap [] s.heap [] := hw
  refine lv_lload_n hx hb dX11_commonDivisor_0 rfl (lv_at hl 0 rfl) ?_
  refine lv_lstore (lv' := [(4, .long (lI o)), (0, .long (lI o)), (2, .long (lI o2))]) hx hb dX11_commonDivisor_1 hl (by decide) rfl (fun ls hl => ?_)
  refine lv_lload_n hx hb dX11_commonDivisor_3 rfl (lv_at hl 2 rfl) ?_
  refine lv_lstore (lv' := [(6, .long (lI o2)), (4, .long (lI o)), (0, .long (lI o)), (2, .long (lI o2))]) hx hb dX11_commonDivisor_4 hl (by decide) rfl (fun ls hl => ?_)
  refine r_iconst hx hb dX11_commonDivisor_6 ?_
  refine lv_istore (lv' := [(8, .int (iI 0)), (6, .long (lI o2)), (4, .long (lI o)), (0, .long (lI o)), (2, .long (lI o2))]) hx hb dX11_commonDivisor_7 hl (by decide) rfl (fun ls hl => ?_)
  have L9 : ∀ (n : Nat) (a9 : Int) (b9 : Int) (n9 : Int) (H : Heap) (locs : List Loc) (ls : Array Slot), (0 ≤ n9 ∧ n9 ≤ 100) → ((n9 = 0 ∧ b9 = o2) ∨ (1 ≤ n9 ∧ 1 ≤ a9 ∧ lR a9)) → (lR b9) → ((100 - n9).toNat < n) → wS D A s.heap [] H locs → lv_has ls 11 [(4, .long (lI a9)), (6, .long (lI b9)), (8, .int (iI n9))] → W p l e (rmk 1 0 0) s m args below meth c H locs 0 0 (MQ below (gQl D (E_c_cdiv τ o o2) A) args s 0 0 A) (F0 m 9 ls []) := by
    intro n9
    induction n9 with
    | zero => intro a9 b9 n9 H locs ls hi9_0 hi9_1 hi9_2 hm9; exact absurd hm9 (Nat.not_lt_zero _)
    | succ n9 ih9 =>
      intro a9 b9 n9 H locs ls hi9_0 hi9_1 hi9_2 hm9 hw hl
      refine lv_iload hx hb dX11_commonDivisor_9 (lv_at hl 2 rfl) ?_
      refine r_bipush hx hb dX11_commonDivisor_11 (by decide +kernel) ?_
      refine r_icmp_ge (tgt := 44) hx hb dX11_commonDivisor_13 (by decide) (by omega) (by decide) (fun hbr1 => ?_) (fun hbr1 => ?_)
      · skip
        refine lv_lload hx hb dX11_commonDivisor_44 (lv_at hl 0 rfl) ?_
        exact r_lret (z := a9) hx hb hr hlk hw [] [] rfl (by decide) (by omega) ⟨(by omega), rfl⟩ dX11_commonDivisor_46
      · skip
        refine lv_lload hx hb dX11_commonDivisor_16 (lv_at hl 1 rfl) ?_
        refine r_lconst (z := 0) hx hb dX11_commonDivisor_18 (by decide +kernel) ?_
        refine r_lcmp hx hb (by omega) (by decide) dX11_commonDivisor_19 (fun z2 hz2 hv2 => ?_)
        refine r_if_le (tgt := 44) hx hb dX11_commonDivisor_20 (by decide) (by omega) (fun hbr3 => ?_) (fun hbr3 => ?_)
        · skip
          refine lv_lload hx hb dX11_commonDivisor_44 (lv_at hl 0 rfl) ?_
          exact r_lret (z := a9) hx hb hr hlk hw [] [] rfl (by decide) (by omega) ⟨(by omega), rfl⟩ dX11_commonDivisor_46
        · skip
          refine lv_lload hx hb dX11_commonDivisor_23 (lv_at hl 0 rfl) ?_
          refine lv_lload hx hb dX11_commonDivisor_25 (lv_at hl 1 rfl) ?_
          refine r_lrem hx hb dX11_commonDivisor_27 (by omega) (by omega) (fun z4 hz4 hv4 => ?_)
          refine lv_lstore (lv' := [(9, .long (lI z4)), (4, .long (lI a9)), (6, .long (lI b9)), (8, .int (iI n9))]) hx hb dX11_commonDivisor_28 hl (by decide) rfl (fun ls hl => ?_)
          refine lv_lload hx hb dX11_commonDivisor_30 (lv_at hl 2 rfl) ?_
          refine lv_lstore (lv' := [(4, .long (lI b9)), (9, .long (lI z4)), (6, .long (lI b9)), (8, .int (iI n9))]) hx hb dX11_commonDivisor_32 hl (by decide) rfl (fun ls hl => ?_)
          refine lv_lload hx hb dX11_commonDivisor_34 (lv_at hl 1 rfl) ?_
          refine lv_lstore (lv' := [(6, .long (lI z4)), (4, .long (lI b9)), (9, .long (lI z4)), (8, .int (iI n9))]) hx hb dX11_commonDivisor_36 hl (by decide) rfl (fun ls hl => ?_)
          refine r_iinc (v := (n9 + 1)) (lv' := [(8, .int (iI (n9 + 1))), (6, .long (lI z4)), (4, .long (lI b9)), (9, .long (lI z4))]) hx hb dX11_commonDivisor_38 hl (k := 3) rfl (by omega) (by decide) rfl (fun ls hl => ?_)
          refine lv_goto (tgt := 9) hx hb dX11_commonDivisor_41 (by decide) ?_
          exact ih9 b9 z4 (n9 + 1) _ _ _ (by omega) (by omega) (by omega) (by omega) hw (lv_sub hl [2, 1, 0] rfl)
  exact L9 (_ + 1) o o2 0 _ _ _ (by omega) (by omega) (by omega) (Nat.lt_succ_self _) hw (lv_sub hl [2, 1, 0] rfl)
