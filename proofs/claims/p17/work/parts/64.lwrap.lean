/-! the law's own methods that catch -/
abbrev OC (τ : Nat → ClassId) (ao : Nat) (g : Int → Int) : Nat × va_E := (ao, .inl (τ 1, 1, .inr (.inl (arL g))))
def EW (τ : Nat → ClassId) (ad : Nat → Nat) (ao : Nat) (g : Int → Int) (Q : Int → Mem → Prop) (E : Mem → Prop) : Int → va_W → Prop := fun z w => ∃ (M' : Mem) (g' : Int → Int), MR M' ∧ ((z = 0 ∧ ∃ v, lR v ∧ Q v M' ∧ g' = up g 0 v) ∨ (z = 1 ∧ E M' ∧ g' = g)) ∧ w = OC τ ao g' :: WX τ ad M'
set_option maxHeartbeats 4000000 in
set_option maxRecDepth 100000 in
theorem lw_hearse (l : Launch) (hst : l.stackTraces = false) (D : va_G) (τ : Nat → ClassId) (ad : Nat → Nat) (sA sV : Nat → Nat) (sz ao : Nat) (g : Int → Int) (p1 p2 : Int) (hp1 : iR p1) (hp2 : iR p2) (M : Mem) (hM : MR M) (Q : Int → Mem → Prop) (E : Mem → Prop) (hv : qX11_hearse p1 p2 M Q E) : Met l yL_hearse (.codeWith yL_hearse cL_hearse 5 (some .int) [(0, 10, 13, 13)] :: lw_good) (rmk 9 1 6) (xPc D τ sA sV (OC τ ao g :: WX τ ad M) sz [.ref (ad 155), .int (iI p1), .int (iI p2), .ref ao]) (gQi D (EW τ ad ao g Q E) (va_A (OC τ ao g :: WX τ ad M) sz)) 1 6 (va_A (OC τ ao g :: WX τ ad M) sz) := by
  refine va_MetW (cc := cL_hearse) (maxL := 5) (ret := some .int) (hh := [(0, 10, 13, 13)]) (by decide +kernel) rfl ?_
  intro p e s m args below meth c s₁ B hml hv2
  obtain ⟨rfl, ⟨⟨hsz, hP, hK, hD0⟩, hLS⟩, hX⟩ := hv2
  have hts := atoms_spec (ws := .codeWith yL_hearse cL_hearse 5 (some .int) [(0, 10, 13, 13)] :: lw_good) B.pre
  have hown : s.vm.findClass (yL_hearse).cls = some m.cls := findClass_of_methodNamed B.named
  obtain ⟨x9, htb, hcv9, hct9, hhp9⟩ : ∃ x9, c.exceptionTable.toList = [] ++ x9 :: [] ∧ covers x9 5 = true ∧ x9.catchType = 13 ∧ x9.handlerPc = 13 := ⟨_, vx_table (x := yL_hearse) B (hts _ List.mem_cons_self), rfl, rfl, rfl⟩
  have hx := B.exec
  have hb := B.bytes
  have hr := B.returns
  have hlk := B.notSynchronized
  have hC : cx D τ s m ([.ref (ad 155), .int (iI p1), .int (iI p2), .ref ao] : List Value).toArray RL := ⟨fun w hw => hts w (List.mem_cons_of_mem _ hw), hown, hK.1, hK.2⟩
  subst hsz
  have hD := hD0.self (sz := s.heap.size)
  generalize hAe : va_A (OC τ ao g :: WX τ ad M) s.heap.size = A at hD hLS hX ⊢
  have hA : ∀ q : Nat, s.heap.size ≤ q → A q := fun q h => by rw [← hAe]; exact Or.inr h
  have hw : wS D A s.heap ([OC τ ao g] ++ WX τ ad M) s.heap [] := ⟨hP, hD, va_S.rf⟩
  have hw := hw.swap
  have hl := lv_entry [.ref (ad 155), .int (iI p1), .int (iI p2), .ref ao] (n := 5) (Nat.le_of_ble_eq_true rfl)
  rw [lg_entry_eq]
  generalize (lg_sl [.ref (ad 155), .int (iI p1), .int (iI p2), .ref ao] ++ List.replicate (5 - (lg_sl [.ref (ad 155), .int (iI p1), .int (iI p2), .ref ao]).length) Slot.unset).toArray = ls at hl ⊢
  have hl : lv_has ls 5 [(0, .ref (ad 155)), (1, .int (iI p1)), (2, .int (iI p2)), (3, .ref ao)] := hl
  refine lv_aload_n hx hb dL_hearse_0 rfl (lv_at hl 3 rfl) ?_
  refine r_iconst hx hb dL_hearse_1 ?_
  refine lv_aload_n hx hb dL_hearse_2 rfl (lv_at hl 0 rfl) ?_
  refine lv_iload_n hx hb dL_hearse_3 rfl (lv_at hl 1 rfl) ?_
  refine lv_iload_n hx hb dL_hearse_4 rfl (lv_at hl 2 rfl) ?_
  have hCm := pick_l (WX τ ad M) [OC τ ao g]
  have hRm := pick_r (WX τ ad M) [OC τ ao g]
  have hF := va_free hw.2.1 hw.2.2 hA _ hCm
  have hnC := va_nd_range (WX τ ad M).length
  have hdis : ∀ i ∈ (List.range [OC τ ao g].length).map (fun i => i + (WX τ ad M).length), i ∉ List.range (WX τ ad M).length := fun i hi h => by
    obtain ⟨j, _, rfl⟩ := List.mem_map.mp hi
    have := List.mem_range.mp h
    omega
  refine vx_calli (vx_runV (As := [.int (iI p1), .int (iI p2)]) (rest := [.int (iI 0), .ref ao]) ⟨hx, hb, hml, hC.2.1, hC.1⟩ (mX11_hearse l hst D τ ad sA sV _ p1 p2 hp1 hp2 M hM Q E hv) (cwV 2 hC.1 (g_wsV kX11_hearse ml_L_7) rfl rfl rfl ⟨rfl, kX11_hearse.2.2.2⟩ (rm_ok (by decide) (by decide))) ⟨xPc_blind, va_recv (ci := 12) (q0 := 155) hC.2.2.1 (P_pick hw.1 hCm) rfl (gX_155 τ ad M), x_pre rfl hC hA hLS hX hw hCm hnC⟩ rfl rfl hl.1 rfl (lv_room (Nat.le_of_ble_eq_true rfl)) dL_hearse_5 ⟨by decide, by decide⟩) hw.2.2 (fun q _ h => hF q h) hF (fun q _ h => hF q h) (fun E1 ce q9 u t H1 locs1 ht hvm hp hB hsz hk hS hce hcv hcl => ?_) (fun r u t H1 locs1 ht hvm hp hB hsz hk hS => ?_)
  · obtain ⟨rfl, hB⟩ := hB
    obtain ⟨w1, ⟨M1, hR1, hQ1, rfl⟩, hw⟩ := g_behind hw hA hCm hRm (nd_of (nodup_shift _ _)) hdis ht hk hS hB
    refine vx_catch (name := "java/util/NoSuchElementException") hC.2.1 [] x9 [] htb (fun z h => nomatch h) hcv9 (by rw [hct9]; decide) (by rw [hct9]; exact hC.1 _ x_cl13) (NXw.use hC.2.2.2.1 _ x_cast) hce hcv hcl ?_
    rw [hhp9]
    refine lv_astore (lv' := [(4, .ref q9), (0, .ref (ad 155)), (1, .int (iI p1)), (2, .int (iI p2)), (3, .ref ao)]) hx hb dL_hearse_13 hl (by decide) rfl (fun ls hl => ?_)
    refine r_iconst hx hb dL_hearse_15 ?_
    refine r_iret (z := 1) hx hb hr hlk hw (OC τ ao g :: WX τ ad M1) (List.range (OC τ ao g :: WX τ ad M1).length) (pick_all _) (va_nd_range _) (by decide) ⟨M1, g, hR1, Or.inr ⟨rfl, hQ1, rfl⟩, rfl⟩ dL_hearse_16
  · obtain ⟨z, hz, e1, hB⟩ := hB
    obtain ⟨w1, ⟨M1, hR1, hQ1, rfl⟩, hw⟩ := g_behind hw hA hCm hRm (nd_of (nodup_shift _ _)) hdis ht hk hS hB
    rw [hp, e1]
    refine r_i2l hx hb dL_hearse_8 hz ?_
    refine r_last (ws' := OC τ ao (up g 0 z) :: WX τ ad M1) hx hb hC hw 0 rfl (by decide) (by decide) (by decide) rfl dL_hearse_9 (fun H locs hw => ?_)
    refine lv_goto (tgt := 17) hx hb dL_hearse_10 (by decide) ?_
    refine r_iconst hx hb dL_hearse_17 ?_
    refine W.widen (k := 1) (n := 6) (by decide) (by decide) ?_
    exact r_iret (z := 0) hx hb hr hlk hw (OC τ ao (up g 0 z) :: WX τ ad M1) (List.range (OC τ ao (up g 0 z) :: WX τ ad M1).length) (pick_all _) (va_nd_range _) (by decide) ⟨M1, up g 0 z, hR1, Or.inl ⟨rfl, z, (iR_lR hz), hQ1, rfl⟩, rfl⟩ dL_hearse_18
set_option maxHeartbeats 4000000 in
set_option maxRecDepth 100000 in
theorem lw_mourner (l : Launch) (hst : l.stackTraces = false) (D : va_G) (τ : Nat → ClassId) (ad : Nat → Nat) (sA sV : Nat → Nat) (sz ao : Nat) (g : Int → Int) (p1 p2 : Int) (hp1 : iR p1) (hp2 : iR p2) (M : Mem) (hM : MR M) (Q : Int → Mem → Prop) (E : Mem → Prop) (hv : qX11_mourner p1 p2 M Q E) : Met l yL_mourner (.codeWith yL_mourner cL_mourner 5 (some .int) [(0, 10, 13, 13)] :: lw_good) (rmk 9 1 6) (xPc D τ sA sV (OC τ ao g :: WX τ ad M) sz [.ref (ad 155), .int (iI p1), .int (iI p2), .ref ao]) (gQi D (EW τ ad ao g Q E) (va_A (OC τ ao g :: WX τ ad M) sz)) 1 6 (va_A (OC τ ao g :: WX τ ad M) sz) := by
  refine va_MetW (cc := cL_mourner) (maxL := 5) (ret := some .int) (hh := [(0, 10, 13, 13)]) (by decide +kernel) rfl ?_
  intro p e s m args below meth c s₁ B hml hv2
  obtain ⟨rfl, ⟨⟨hsz, hP, hK, hD0⟩, hLS⟩, hX⟩ := hv2
  have hts := atoms_spec (ws := .codeWith yL_mourner cL_mourner 5 (some .int) [(0, 10, 13, 13)] :: lw_good) B.pre
  have hown : s.vm.findClass (yL_mourner).cls = some m.cls := findClass_of_methodNamed B.named
  obtain ⟨x9, htb, hcv9, hct9, hhp9⟩ : ∃ x9, c.exceptionTable.toList = [] ++ x9 :: [] ∧ covers x9 5 = true ∧ x9.catchType = 13 ∧ x9.handlerPc = 13 := ⟨_, vx_table (x := yL_mourner) B (hts _ List.mem_cons_self), rfl, rfl, rfl⟩
  have hx := B.exec
  have hb := B.bytes
  have hr := B.returns
  have hlk := B.notSynchronized
  have hC : cx D τ s m ([.ref (ad 155), .int (iI p1), .int (iI p2), .ref ao] : List Value).toArray RL := ⟨fun w hw => hts w (List.mem_cons_of_mem _ hw), hown, hK.1, hK.2⟩
  subst hsz
  have hD := hD0.self (sz := s.heap.size)
  generalize hAe : va_A (OC τ ao g :: WX τ ad M) s.heap.size = A at hD hLS hX ⊢
  have hA : ∀ q : Nat, s.heap.size ≤ q → A q := fun q h => by rw [← hAe]; exact Or.inr h
  have hw : wS D A s.heap ([OC τ ao g] ++ WX τ ad M) s.heap [] := ⟨hP, hD, va_S.rf⟩
  have hw := hw.swap
  have hl := lv_entry [.ref (ad 155), .int (iI p1), .int (iI p2), .ref ao] (n := 5) (Nat.le_of_ble_eq_true rfl)
  rw [lg_entry_eq]
  generalize (lg_sl [.ref (ad 155), .int (iI p1), .int (iI p2), .ref ao] ++ List.replicate (5 - (lg_sl [.ref (ad 155), .int (iI p1), .int (iI p2), .ref ao]).length) Slot.unset).toArray = ls at hl ⊢
  have hl : lv_has ls 5 [(0, .ref (ad 155)), (1, .int (iI p1)), (2, .int (iI p2)), (3, .ref ao)] := hl
  refine lv_aload_n hx hb dL_mourner_0 rfl (lv_at hl 3 rfl) ?_
  refine r_iconst hx hb dL_mourner_1 ?_
  refine lv_aload_n hx hb dL_mourner_2 rfl (lv_at hl 0 rfl) ?_
  refine lv_iload_n hx hb dL_mourner_3 rfl (lv_at hl 1 rfl) ?_
  refine lv_iload_n hx hb dL_mourner_4 rfl (lv_at hl 2 rfl) ?_
  have hCm := pick_l (WX τ ad M) [OC τ ao g]
  have hRm := pick_r (WX τ ad M) [OC τ ao g]
  have hF := va_free hw.2.1 hw.2.2 hA _ hCm
  have hnC := va_nd_range (WX τ ad M).length
  have hdis : ∀ i ∈ (List.range [OC τ ao g].length).map (fun i => i + (WX τ ad M).length), i ∉ List.range (WX τ ad M).length := fun i hi h => by
    obtain ⟨j, _, rfl⟩ := List.mem_map.mp hi
    have := List.mem_range.mp h
    omega
  refine vx_calli (vx_runV (As := [.int (iI p1), .int (iI p2)]) (rest := [.int (iI 0), .ref ao]) ⟨hx, hb, hml, hC.2.1, hC.1⟩ (mX11_mourner l hst D τ ad sA sV _ p1 p2 hp1 hp2 M hM Q E hv) (cwV 2 hC.1 (g_wsV kX11_mourner ml_L_15) rfl rfl rfl ⟨rfl, kX11_mourner.2.2.2⟩ (rm_ok (by decide) (by decide))) ⟨xPc_blind, va_recv (ci := 12) (q0 := 155) hC.2.2.1 (P_pick hw.1 hCm) rfl (gX_155 τ ad M), x_pre rfl hC hA hLS hX hw hCm hnC⟩ rfl rfl hl.1 rfl (lv_room (Nat.le_of_ble_eq_true rfl)) dL_mourner_5 ⟨by decide, by decide⟩) hw.2.2 (fun q _ h => hF q h) hF (fun q _ h => hF q h) (fun E1 ce q9 u t H1 locs1 ht hvm hp hB hsz hk hS hce hcv hcl => ?_) (fun r u t H1 locs1 ht hvm hp hB hsz hk hS => ?_)
  · obtain ⟨rfl, hB⟩ := hB
    obtain ⟨w1, ⟨M1, hR1, hQ1, rfl⟩, hw⟩ := g_behind hw hA hCm hRm (nd_of (nodup_shift _ _)) hdis ht hk hS hB
    refine vx_catch (name := "java/util/NoSuchElementException") hC.2.1 [] x9 [] htb (fun z h => nomatch h) hcv9 (by rw [hct9]; decide) (by rw [hct9]; exact hC.1 _ x_cl13) (NXw.use hC.2.2.2.1 _ x_cast) hce hcv hcl ?_
    rw [hhp9]
    refine lv_astore (lv' := [(4, .ref q9), (0, .ref (ad 155)), (1, .int (iI p1)), (2, .int (iI p2)), (3, .ref ao)]) hx hb dL_mourner_13 hl (by decide) rfl (fun ls hl => ?_)
    refine r_iconst hx hb dL_mourner_15 ?_
    refine r_iret (z := 1) hx hb hr hlk hw (OC τ ao g :: WX τ ad M1) (List.range (OC τ ao g :: WX τ ad M1).length) (pick_all _) (va_nd_range _) (by decide) ⟨M1, g, hR1, Or.inr ⟨rfl, hQ1, rfl⟩, rfl⟩ dL_mourner_16
  · obtain ⟨z, hz, e1, hB⟩ := hB
    obtain ⟨w1, ⟨M1, hR1, hQ1, rfl⟩, hw⟩ := g_behind hw hA hCm hRm (nd_of (nodup_shift _ _)) hdis ht hk hS hB
    rw [hp, e1]
    refine r_i2l hx hb dL_mourner_8 hz ?_
    refine r_last (ws' := OC τ ao (up g 0 z) :: WX τ ad M1) hx hb hC hw 0 rfl (by decide) (by decide) (by decide) rfl dL_mourner_9 (fun H locs hw => ?_)
    refine lv_goto (tgt := 17) hx hb dL_mourner_10 (by decide) ?_
    refine r_iconst hx hb dL_mourner_17 ?_
    refine W.widen (k := 1) (n := 6) (by decide) (by decide) ?_
    exact r_iret (z := 0) hx hb hr hlk hw (OC τ ao (up g 0 z) :: WX τ ad M1) (List.range (OC τ ao (up g 0 z) :: WX τ ad M1).length) (pick_all _) (va_nd_range _) (by decide) ⟨M1, up g 0 z, hR1, Or.inl ⟨rfl, z, (iR_lR hz), hQ1, rfl⟩, rfl⟩ dL_mourner_18
set_option maxHeartbeats 4000000 in
set_option maxRecDepth 100000 in
theorem lw_row (l : Launch) (hst : l.stackTraces = false) (D : va_G) (τ : Nat → ClassId) (ad : Nat → Nat) (sA sV : Nat → Nat) (sz ao : Nat) (g : Int → Int) (p1 : Int) (hp1 : iR p1) (M : Mem) (hM : MR M) (Q : Int → Mem → Prop) (E : Mem → Prop) (hv : qX11_row p1 M Q E) : Met l yL_row (.codeWith yL_row cL_row 4 (some .int) [(0, 8, 11, 13)] :: lw_good) (rmk 9 1 6) (xPc D τ sA sV (OC τ ao g :: WX τ ad M) sz [.ref (ad 155), .int (iI p1), .ref ao]) (gQi D (EW τ ad ao g Q E) (va_A (OC τ ao g :: WX τ ad M) sz)) 1 6 (va_A (OC τ ao g :: WX τ ad M) sz) := by
  refine va_MetW (cc := cL_row) (maxL := 4) (ret := some .int) (hh := [(0, 8, 11, 13)]) (by decide +kernel) rfl ?_
  intro p e s m args below meth c s₁ B hml hv2
  obtain ⟨rfl, ⟨⟨hsz, hP, hK, hD0⟩, hLS⟩, hX⟩ := hv2
  have hts := atoms_spec (ws := .codeWith yL_row cL_row 4 (some .int) [(0, 8, 11, 13)] :: lw_good) B.pre
  have hown : s.vm.findClass (yL_row).cls = some m.cls := findClass_of_methodNamed B.named
  obtain ⟨x9, htb, hcv9, hct9, hhp9⟩ : ∃ x9, c.exceptionTable.toList = [] ++ x9 :: [] ∧ covers x9 4 = true ∧ x9.catchType = 13 ∧ x9.handlerPc = 11 := ⟨_, vx_table (x := yL_row) B (hts _ List.mem_cons_self), rfl, rfl, rfl⟩
  have hx := B.exec
  have hb := B.bytes
  have hr := B.returns
  have hlk := B.notSynchronized
  have hC : cx D τ s m ([.ref (ad 155), .int (iI p1), .ref ao] : List Value).toArray RL := ⟨fun w hw => hts w (List.mem_cons_of_mem _ hw), hown, hK.1, hK.2⟩
  subst hsz
  have hD := hD0.self (sz := s.heap.size)
  generalize hAe : va_A (OC τ ao g :: WX τ ad M) s.heap.size = A at hD hLS hX ⊢
  have hA : ∀ q : Nat, s.heap.size ≤ q → A q := fun q h => by rw [← hAe]; exact Or.inr h
  have hw : wS D A s.heap ([OC τ ao g] ++ WX τ ad M) s.heap [] := ⟨hP, hD, va_S.rf⟩
  have hw := hw.swap
  have hl := lv_entry [.ref (ad 155), .int (iI p1), .ref ao] (n := 4) (Nat.le_of_ble_eq_true rfl)
  rw [lg_entry_eq]
  generalize (lg_sl [.ref (ad 155), .int (iI p1), .ref ao] ++ List.replicate (4 - (lg_sl [.ref (ad 155), .int (iI p1), .ref ao]).length) Slot.unset).toArray = ls at hl ⊢
  have hl : lv_has ls 4 [(0, .ref (ad 155)), (1, .int (iI p1)), (2, .ref ao)] := hl
  refine lv_aload_n hx hb dL_row_0 rfl (lv_at hl 2 rfl) ?_
  refine r_iconst hx hb dL_row_1 ?_
  refine lv_aload_n hx hb dL_row_2 rfl (lv_at hl 0 rfl) ?_
  refine lv_iload_n hx hb dL_row_3 rfl (lv_at hl 1 rfl) ?_
  have hCm := pick_l (WX τ ad M) [OC τ ao g]
  have hRm := pick_r (WX τ ad M) [OC τ ao g]
  have hF := va_free hw.2.1 hw.2.2 hA _ hCm
  have hnC := va_nd_range (WX τ ad M).length
  have hdis : ∀ i ∈ (List.range [OC τ ao g].length).map (fun i => i + (WX τ ad M).length), i ∉ List.range (WX τ ad M).length := fun i hi h => by
    obtain ⟨j, _, rfl⟩ := List.mem_map.mp hi
    have := List.mem_range.mp h
    omega
  refine vx_calll (vx_runV (As := [.int (iI p1)]) (rest := [.int (iI 0), .ref ao]) ⟨hx, hb, hml, hC.2.1, hC.1⟩ (mX11_row l hst D τ ad sA sV _ p1 hp1 M hM Q E hv) (cwV 1 hC.1 (g_wsV kX11_row ml_L_18) rfl rfl rfl ⟨rfl, kX11_row.2.2.2⟩ (rm_ok (by decide) (by decide))) ⟨xPc_blind, va_recv (ci := 12) (q0 := 155) hC.2.2.1 (P_pick hw.1 hCm) rfl (gX_155 τ ad M), x_pre rfl hC hA hLS hX hw hCm hnC⟩ rfl rfl hl.1 rfl (lv_room (Nat.le_of_ble_eq_true rfl)) dL_row_4 ⟨by decide, by decide⟩) hw.2.2 (fun q _ h => hF q h) hF (fun q _ h => hF q h) (fun E1 ce q9 u t H1 locs1 ht hvm hp hB hsz hk hS hce hcv hcl => ?_) (fun r u t H1 locs1 ht hvm hp hB hsz hk hS => ?_)
  · obtain ⟨rfl, hB⟩ := hB
    obtain ⟨w1, ⟨M1, hR1, hQ1, rfl⟩, hw⟩ := g_behind hw hA hCm hRm (nd_of (nodup_shift _ _)) hdis ht hk hS hB
    refine vx_catch (name := "java/util/NoSuchElementException") hC.2.1 [] x9 [] htb (fun z h => nomatch h) hcv9 (by rw [hct9]; decide) (by rw [hct9]; exact hC.1 _ x_cl13) (NXw.use hC.2.2.2.1 _ x_cast) hce hcv hcl ?_
    rw [hhp9]
    refine lv_astore_n (lv' := [(3, .ref q9), (0, .ref (ad 155)), (1, .int (iI p1)), (2, .ref ao)]) hx hb dL_row_11 rfl hl (by decide) rfl (fun ls hl => ?_)
    refine r_iconst hx hb dL_row_12 ?_
    refine r_iret (z := 1) hx hb hr hlk hw (OC τ ao g :: WX τ ad M1) (List.range (OC τ ao g :: WX τ ad M1).length) (pick_all _) (va_nd_range _) (by decide) ⟨M1, g, hR1, Or.inr ⟨rfl, hQ1, rfl⟩, rfl⟩ dL_row_13
  · obtain ⟨z, hz, e1, hB⟩ := hB
    obtain ⟨w1, ⟨M1, hR1, hQ1, rfl⟩, hw⟩ := g_behind hw hA hCm hRm (nd_of (nodup_shift _ _)) hdis ht hk hS hB
    rw [hp, e1]
    refine r_last (ws' := OC τ ao (up g 0 z) :: WX τ ad M1) hx hb hC hw 0 rfl (by decide) (by decide) (by decide) rfl dL_row_7 (fun H locs hw => ?_)
    refine lv_goto (tgt := 14) hx hb dL_row_8 (by decide) ?_
    refine r_iconst hx hb dL_row_14 ?_
    refine W.widen (k := 1) (n := 6) (by decide) (by decide) ?_
    exact r_iret (z := 0) hx hb hr hlk hw (OC τ ao (up g 0 z) :: WX τ ad M1) (List.range (OC τ ao (up g 0 z) :: WX τ ad M1).length) (pick_all _) (va_nd_range _) (by decide) ⟨M1, up g 0 z, hR1, Or.inl ⟨rfl, z, hz, hQ1, rfl⟩, rfl⟩ dL_row_15
