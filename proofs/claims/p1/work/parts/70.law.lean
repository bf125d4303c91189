set_option maxHeartbeats 40000000 in
set_option maxRecDepth 100000 in
theorem whole_start {p : Program} {e : Env} {s : State} {m : MethodId} {below : List Frame} {meth : Method} {c : Code} (l : Launch) (hflags : l.flags = flags0) {b L : Nat} {xs : Nat → Int32} (hL : L ≤ 5) (C0 : lw_At p s m meth c b L xs) : W p l e room_1 s m #[Value.ref b] below meth c s.heap [] 0 0 (lw_Z below #[Value.ref b] s) (entryFrame m ([Value.ref b] : List Value).toArray 8) := by
  obtain ⟨hx, hb, hr, hml, hown, hts, hX, hbl, hlocks, hgv⟩ := id C0
  obtain ⟨D, τ, hK, hN⟩ := K_init hts
  obtain ⟨A, hAe⟩ : ∃ A : Nat → Prop, A = fun q : Nat => s.heap.size ≤ q := ⟨_, rfl⟩
  have hA : ∀ q : Nat, s.heap.size ≤ q → A q := fun q h => by rw [hAe]; exact h
  have hAr : ∀ q : Nat, A q → s.heap.size ≤ q := fun q h => by rw [hAe] at h; exact h
  have hbA : ¬ A b := fun h => absurd (hAr b h) (Nat.not_le.mpr hbl)
  have hC : cx D τ s m #[Value.ref b] RL := ⟨fun w h => hts w (lw_gt h), hown, hK, hN⟩
  have hw : wS D A s.heap [] s.heap [] := ⟨fun k q h => by simp at h, ⟨fun i j p q h => by simp at h, fun k q h => by simp at h⟩, va_S.rf⟩
  have hl := lv_entry ([.ref b]) (n := 8) (Nat.le_of_ble_eq_true rfl)
  rw [lg_entry_eq]
  generalize (lg_sl ([.ref b]) ++ List.replicate (8 - (lg_sl ([.ref b])).length) Slot.unset).toArray = ls at hl ⊢
  have hl : lv_has ls 8 [(0, .ref b)] := hl
  have hTX : TX A s := TX_of hts hgv (fun a h1 h2 => absurd (hAr a h2) (Nat.not_le.mpr h1))
  have hS1 : SX 225 "no such hearse" s := SX_of hts hK (List.mem_of_getElem? (i := 1248) (by decide +kernel))
  have hS2 : SX 268 "no such mourner" s := SX_of hts hK (List.mem_of_getElem? (i := 1288) (by decide +kernel))
  have hS3 : SX 492 "no such number of the row" s := SX_of hts hK (List.mem_of_getElem? (i := 1298) (by decide +kernel))
  have hst : l.stackTraces = false := by have h := congrArg (fun f => f.stackTraces) hflags; exact h
  obtain ⟨y0, hy0, ey0⟩ := iI_of (xs 0)
  obtain ⟨y1, hy1, ey1⟩ := iI_of (xs 1)
  obtain ⟨y2, hy2, ey2⟩ := iI_of (xs 2)
  obtain ⟨y3, hy3, ey3⟩ := iI_of (xs 3)
  obtain ⟨y4, hy4, ey4⟩ := iI_of (xs 4)
  have Lret : ∀ (ws : va_W) (H : Heap) (locs : List Loc) (ls : Array Slot) (cc ss : Nat), wS D A s.heap ws H locs → cc ≤ 600002 → ss ≤ 7302232 → W p l e room_1 s m #[Value.ref b] below meth c H locs cc ss (lw_Z below #[Value.ref b] s) (F0 m 1337 ls []) := by
    intro ws H locs ls cc ss hw h1 h2
    refine r_iconst hx hb dL_law_1337 ?_
    refine va_forget (fun q hq => hAr _ (hw.2.2.2.2 q hq)) ?_
    refine W.widen (k := 600002) (n := 7302232) h1 h2 ?_
    exact lw_ret hx hb hr hlocks dL_law_1338
  have Lend : ∀ (ws : va_W) (H : Heap) (locs : List Loc) (ls : Array Slot) (cc ss : Nat), L = 5 → wS D A s.heap ws H locs → lv_has ls 8 [(4, .int (iI 0)), (0, .ref b)] → cc ≤ 600002 → ss ≤ 7302232 → W p l e room_1 s m #[Value.ref b] below meth c H locs cc ss (lw_Z below #[Value.ref b] s) (F0 m 1331 ls []) := by
    intro ws H locs ls cc ss hL5 hw hl h1 h2
    refine r_iinc (v := 5) (lv' := [(4, .int (iI 5)), (0, .ref b)]) hx hb dL_law_1331 hl (k := 0) rfl rfl (by decide) rfl (fun ls hl => ?_)
    refine lv_goto (tgt := 23) hx hb dL_law_1334 (by decide) ?_
    refine lv_iload hx hb dL_law_23 (lv_at hl 0 rfl) ?_
    refine lv_aload_n hx hb dL_law_25 rfl (lv_at hl 1 rfl) ?_
    refine r_slen hx hb hX hbl hbA hw dL_law_26 ?_
    refine r_iconst hx hb dL_law_27 ?_
    refine r_isub (z := (L : Int) - 5) hx hb dL_law_28 rfl ?_
    refine r_icmp_gt (tgt := 1337) hx hb dL_law_29 (by decide) (by decide) (by omega) (fun _ => ?_) (fun h => (by exfalso; omega))
    exact Lret ws H locs ls cc ss hw h1 h2
  refine r_new (ci := 12) (fs := [.null, .null, .null, .null, .null, .null, .null, .null, .null, .null, .null, .null, .null, .null, .null, .int (iI 0), .null, .null]) hx hb hC hA hw iX11 tyX11 tyX11_ok rfl cl_L_8 it_X11 in_X11 df_X11 (by decide) (by decide) rfl rfl dL_law_0 (fun a1 H hw => ?_)
  refine lv_dup hx hb dL_law_3 rfl ?_
  refine g_cIv (wr := []) hx hb hml hC hA hw hl.1 (c_Main_init l D τ _ a1) kX11_init ml_L_22 [0] [] rfl rfl (by decide) (by decide) (by decide) rfl rfl (Nat.le_of_ble_eq_true rfl) ⟨by decide, by decide⟩ ⟨by decide, by decide⟩ rfl rfl dL_law_4 (fun w5 H locs hE5 hw => ?_)
  obtain ⟨qx, ivx, gvx, fvx, ⟨hf0, hf1⟩, rfl⟩ := hE5
  replace hw : wS D A s.heap (WF τ a1 qx ivx gvx fvx) H locs := hw
  refine lv_astore_n (lv' := [(1, .ref a1), (0, .ref b)]) hx hb dL_law_7 rfl hl (by decide) rfl (fun ls hl => ?_)
  refine r_new (ci := 13) (fs := [.int (iI 0), .int (iI 0), .null, .int (iI 0), .int (iI 0), .int (iI 0), .int (iI 0), .int (iI 0), .null, .null, .null, .null, .null, .null, .int (iI 0), .int (iI 0), .int (iI 0), .int (iI 0), .null, .null, .int (iI 0), .null, .null, .null, .int (iI 0), .int (iI 0), .null, .null, .int (iI 0), .null, .int (iI 0), .int (iI 0), .null, .null, .null, .int (iI 0), .null, .null, .null, .int (iI 0), .null, .null, .int (iI 0), .null, .null, .int (iI 0), .null, .null, .null, .int (iI 0), .null, .null, .null]) hx hb hC hA hw iX12 tyX12 tyX12_ok rfl cl_L_23 it_X12 in_X12 df_X12 (by decide) (by decide) rfl rfl dL_law_8 (fun a2 H hw => ?_)
  refine lv_dup hx hb dL_law_11 rfl ?_
  refine g_cIv (wr := WF τ a1 qx ivx gvx fvx) hx hb hml hC hA hw hl.1 (c_Model_init l D τ _ a2) kX12_init ml_L_25 [87] [0, 1, 2, 3, 4, 5, 6, 7, 8, 9, 10, 11, 12, 13, 14, 15, 16, 17, 18, 19, 20, 21, 22, 23, 24, 25, 26, 27, 28, 29, 30, 31, 32, 33, 34, 35, 36, 37, 38, 39, 40, 41, 42, 43, 44, 45, 46, 47, 48, 49, 50, 51, 52, 53, 54, 55, 56, 57, 58, 59, 60, 61, 62, 63, 64, 65, 66, 67, 68, 69, 70, 71, 72, 73, 74, 75, 76, 77, 78, 79, 80, 81, 82, 83, 84, 85, 86] rfl rfl (by decide) (by decide) (by decide) rfl rfl (Nat.le_of_ble_eq_true rfl) ⟨by decide, by decide⟩ ⟨by decide, by decide⟩ rfl rfl dL_law_12 (fun w6 H locs hE6 hw => ?_)
  obtain ⟨qm, rfl⟩ := hE6
  replace hw : wS D A s.heap (WF τ a1 qx ivx gvx fvx ++ WM τ a2 qm) H locs := hw
  refine lv_astore_n (lv' := [(2, .ref a2), (1, .ref a1), (0, .ref b)]) hx hb dL_law_15 rfl hl (by decide) rfl (fun ls hl => ?_)
  refine r_iconst hx hb dL_law_16 ?_
  refine r_newl (N := 1) hx hb hC hA hw ac_long (by decide) (by decide) (by decide) (by decide) rfl rfl dL_law_17 (fun a3 H hw => ?_)
  refine lv_astore_n (lv' := [(3, .ref a3), (2, .ref a2), (1, .ref a1), (0, .ref b)]) hx hb dL_law_19 rfl hl (by decide) rfl (fun ls hl => ?_)
  refine r_iconst hx hb dL_law_20 ?_
  refine lv_istore (lv' := [(4, .int (iI 0)), (3, .ref a3), (2, .ref a2), (1, .ref a1), (0, .ref b)]) hx hb dL_law_21 hl (by decide) rfl (fun ls hl => ?_)
  refine lv_iload hx hb dL_law_23 (lv_at hl 0 rfl) ?_
  refine lv_aload_n hx hb dL_law_25 rfl (lv_at hl 4 rfl) ?_
  refine r_slen hx hb hX hbl hbA hw dL_law_26 ?_
  refine r_iconst hx hb dL_law_27 ?_
  refine r_isub (z := (L : Int) - 5) hx hb dL_law_28 rfl ?_
  refine r_icmp_gt (tgt := 1337) hx hb dL_law_29 (by decide) (by decide) (by omega) (fun _ => ?_) (fun hge => ?_)
  · exact Lret _ H _ ls _ _ hw (by decide) (by decide)
  have hL5 : L = 5 := by omega
  refine lv_aload_n hx hb dL_law_32 rfl (lv_at hl 4 rfl) ?_
  refine lv_iload hx hb dL_law_33 (lv_at hl 0 rfl) ?_
  refine r_sld hx hb hX hbl hbA hw (by decide) (by omega) (by omega) ey0 dL_law_35 ?_
  refine r_bipush hx hb dL_law_36 (by decide +kernel) ?_
  refine r_iand hx hb dL_law_38 (fun z0 hz0 hv0 => ?_)
  rcases (show (z0 < 0 ∨ 42 < z0) ∨ z0 = 0 ∨ z0 = 1 ∨ z0 = 2 ∨ z0 = 3 ∨ z0 = 4 ∨ z0 = 5 ∨ z0 = 6 ∨ z0 = 7 ∨ z0 = 8 ∨ z0 = 9 ∨ z0 = 10 ∨ z0 = 11 ∨ z0 = 12 ∨ z0 = 13 ∨ z0 = 14 ∨ z0 = 15 ∨ z0 = 16 ∨ z0 = 17 ∨ z0 = 18 ∨ z0 = 19 ∨ z0 = 20 ∨ z0 = 21 ∨ z0 = 22 ∨ z0 = 23 ∨ z0 = 24 ∨ z0 = 25 ∨ z0 = 26 ∨ z0 = 27 ∨ z0 = 28 ∨ z0 = 29 ∨ z0 = 30 ∨ z0 = 31 ∨ z0 = 32 ∨ z0 = 33 ∨ z0 = 34 ∨ z0 = 35 ∨ z0 = 36 ∨ z0 = 37 ∨ z0 = 38 ∨ z0 = 39 ∨ z0 = 40 ∨ z0 = 41 ∨ z0 = 42 by omega) with hs | hs | hs | hs | hs | hs | hs | hs | hs | hs | hs | hs | hs | hs | hs | hs | hs | hs | hs | hs | hs | hs | hs | hs | hs | hs | hs | hs | hs | hs | hs | hs | hs | hs | hs | hs | hs | hs | hs | hs | hs | hs | hs | hs
  · refine r_tblO (tgt := 1331) hx hb dL_law_39 (by omega) hs (by decide) ?_
    exact Lend _ H _ ls _ _ hL5 hw (lv_sub hl [0, 4] rfl) (by decide) (by decide)
  · sorry
  · sorry
  · sorry
  · sorry
  · sorry
  · sorry
  · sorry
  · refine r_tblI (tgt := 339) hx hb dL_law_39 (by omega) (by omega) (by omega) (by rw [hs]; rfl) (by decide) ?_
    refine lv_aload_n hx hb dL_law_339 rfl (lv_at hl 3 rfl) ?_
    refine lv_aload_n hx hb dL_law_340 rfl (lv_at hl 4 rfl) ?_
    refine lv_iload hx hb dL_law_341 (lv_at hl 0 rfl) ?_
    refine r_iconst hx hb dL_law_343 ?_
    refine r_iadd (z := 1) hx hb dL_law_344 rfl ?_
    refine r_sld hx hb hX hbl hbA hw (by decide) (by omega) (by omega) ey1 dL_law_345 ?_
    refine lv_aload_n hx hb dL_law_346 rfl (lv_at hl 4 rfl) ?_
    refine lv_iload hx hb dL_law_347 (lv_at hl 0 rfl) ?_
    refine r_iconst hx hb dL_law_349 ?_
    refine r_iadd (z := 2) hx hb dL_law_350 rfl ?_
    refine r_sld hx hb hX hbl hbA hw (by decide) (by omega) (by omega) ey2 dL_law_351 ?_
    refine lv_aload_n hx hb dL_law_352 rfl (lv_at hl 1 rfl) ?_
    refine g_cW (As := [.ref a1, .int (iI y1), .int (iI y2), .ref a3]) (wr := (WM τ a2 qm ++ [(a3, .inl (τ 1, 1, .inr (.inl (arL (fun _ => 0)))))])) hx hb hml hC hA hTX hS1 hw hl.1 (lw_hearse l hst D τ _ a1 qx ivx gvx fvx y1 y2 a3 hy1 hy2) g_law_hearse (by decide +kernel) [0, 1, 2, 3, 4, 5, 6, 7, 8, 9, 10, 11, 12, 13, 14, 15, 16, 17, 18, 19, 20, 21, 22, 23, 24, 25, 26, 27, 28, 29, 30, 31, 32, 33, 34, 35, 36, 37, 38, 39, 40, 41, 42, 43, 44, 45, 46, 47, 48, 49, 50, 51, 52, 53, 54, 55, 56, 57, 58, 59, 60, 61, 62, 63, 64, 65, 66, 67, 68, 69, 70, 71, 72, 73, 74, 75, 76, 77, 78, 79, 80, 81, 82, 83, 84, 85, 86] [87, 88, 89, 90, 91, 92, 93, 94, 95, 96, 97, 98, 99, 100, 101, 102, 103, 104, 105, 106, 107, 108, 109, 110, 111, 112, 113, 114, 115, 116, 117, 118, 119] rfl rfl (by decide) (by decide) (by decide) rfl rfl (Nat.le_of_ble_eq_true rfl) ⟨by decide, by decide⟩ ⟨by decide, by decide⟩ rfl rfl dL_law_353 (fun u1 w1 H locs hu1 hE1 hw => ?_)
    obtain ⟨hq1, rfl⟩ := hE1
    obtain rfl : 1 = u1 := hq1.symm
    replace hw : wS D A s.heap (WM τ a2 qm ++ [(a3, .inl (τ 1, 1, .inr (.inl (arL (fun _ => 0)))))]) H locs := hw
    refine lv_istore (lv' := [(5, .int (iI 1)), (4, .int (iI 0)), (3, .ref a3), (2, .ref a2), (1, .ref a1), (0, .ref b)]) hx hb dL_law_356 hl (by decide) rfl (fun ls hl => ?_)
    refine lv_aload_n hx hb dL_law_358 rfl (lv_at hl 3 rfl) ?_
    refine lv_aload_n hx hb dL_law_359 rfl (lv_at hl 5 rfl) ?_
    refine lv_iload hx hb dL_law_360 (lv_at hl 1 rfl) ?_
    refine r_iconst hx hb dL_law_362 ?_
    refine r_iadd (z := 1) hx hb dL_law_363 rfl ?_
    refine r_sld hx hb hX hbl hbA hw (by decide) (by omega) (by omega) ey1 dL_law_364 ?_
    refine lv_aload_n hx hb dL_law_365 rfl (lv_at hl 5 rfl) ?_
    refine lv_iload hx hb dL_law_366 (lv_at hl 1 rfl) ?_
    refine r_iconst hx hb dL_law_368 ?_
    refine r_iadd (z := 2) hx hb dL_law_369 rfl ?_
    refine r_sld hx hb hX hbl hbA hw (by decide) (by omega) (by omega) ey2 dL_law_370 ?_
    refine g_cVi (wr := [(a3, .inl (τ 1, 1, .inr (.inl (arL (fun _ => 0)))))]) (q0 := 0) (ci := 13) hx hb hml hC hA hw hl.1 (um_hearse l D τ _ a2 qm y1 y2 hy1 hy2) kX12_hearse ml_L_62 [0, 1, 2, 3, 4, 5, 6, 7, 8, 9, 10, 11, 12, 13, 14, 15, 16, 17, 18, 19, 20, 21, 22, 23, 24, 25, 26, 27, 28, 29, 30, 31] [32] rfl rfl (by decide) (by decide) (by decide) rfl rfl rfl rfl (Nat.le_of_ble_eq_true rfl) ⟨by decide, by decide⟩ ⟨by decide, by decide⟩ rfl rfl dL_law_371 (fun u2 w2 H locs hu2 hE2 hw => ?_)
    obtain ⟨hq2, rfl⟩ := hE2
    replace hw : wS D A s.heap [(a3, .inl (τ 1, 1, .inr (.inl (arL (fun _ => 0))))), (a2, .inr (13, [.int (iI 1), .int (iI 0), .ref (qm 0), .int (iI 4), .int (iI 0), .int (iI 0), .int (iI 0), .int (iI 1), .ref (qm 1), .ref (qm 2), .ref (qm 3), .ref (qm 4), .ref (qm 5), .ref (qm 6), .int (iI 0), .int (iI 0), .int (iI 0), .int (iI 0), .ref (qm 7), .ref (qm 8), .int (iI 0), .ref (qm 9), .ref (qm 10), .ref (qm 11), .int (iI 0), .int (iI 0), .ref (qm 12), .ref (qm 13), .int (iI 0), .ref (qm 14), .int (iI 0), .int (iI 0), .ref (qm 15), .ref (qm 16), .ref (qm 17), .int (iI 0), .ref (qm 18), .ref (qm 19), .ref (qm 20), .int (iI 0), .ref (qm 21), .ref (qm 22), .int (iI 0), .ref (qm 23), .ref (qm 24), .int (iI 0), .ref (qm 25), .ref (qm 26), .ref (qm 27), .int (iI 0), .ref (qm 28), .ref (qm 29), .ref (qm 30)]))] H locs := hw
    refine lv_istore (lv' := [(6, .int (iI u2)), (5, .int (iI 1)), (4, .int (iI 0)), (3, .ref a3), (2, .ref a2), (1, .ref a1), (0, .ref b)]) hx hb dL_law_374 hl (by decide) rfl (fun ls hl => ?_)
    refine lv_aload_n hx hb dL_law_376 rfl (lv_at hl 4 rfl) ?_
    refine g_cVi (wr := [(a3, .inl (τ 1, 1, .inr (.inl (arL (fun _ => 0)))))]) (q0 := 0) (ci := 13) hx hb hml hC hA hw hl.1 (m_thrown l D τ _ a2 (qm 0) (qm 1) (qm 2) (qm 3) (qm 4) (qm 5) (qm 6) (qm 7) (qm 8) (qm 9) (qm 10) (qm 11) (qm 12) (qm 13) (qm 14) (qm 15) (qm 16) (qm 17) (qm 18) (qm 19) (qm 20) (qm 21) (qm 22) (qm 23) (qm 24) (qm 25) (qm 26) (qm 27) (qm 28) (qm 29) (qm 30) 1 0 4 0 0 0 1 0 0 0 0 0 0 0 0 0 0 0 0 0 0 0 (by decide)) kX12_thrown ml_L_63 [1] [0] rfl rfl (by decide) (by decide) (by decide) rfl rfl rfl rfl (Nat.le_of_ble_eq_true rfl) ⟨by decide, by decide⟩ ⟨by decide, by decide⟩ rfl rfl dL_law_377 (fun u3 w3 H locs hu3 hE3 hw => ?_)
    obtain ⟨hq3, rfl⟩ := hE3
    replace hw : wS D A s.heap [(a3, .inl (τ 1, 1, .inr (.inl (arL (fun _ => 0))))), (a2, .inr (13, [.int (iI 1), .int (iI 0), .ref (qm 0), .int (iI 4), .int (iI 0), .int (iI 0), .int (iI 0), .int (iI 1), .ref (qm 1), .ref (qm 2), .ref (qm 3), .ref (qm 4), .ref (qm 5), .ref (qm 6), .int (iI 0), .int (iI 0), .int (iI 0), .int (iI 0), .ref (qm 7), .ref (qm 8), .int (iI 0), .ref (qm 9), .ref (qm 10), .ref (qm 11), .int (iI 0), .int (iI 0), .ref (qm 12), .ref (qm 13), .int (iI 0), .ref (qm 14), .int (iI 0), .int (iI 0), .ref (qm 15), .ref (qm 16), .ref (qm 17), .int (iI 0), .ref (qm 18), .ref (qm 19), .ref (qm 20), .int (iI 0), .ref (qm 21), .ref (qm 22), .int (iI 0), .ref (qm 23), .ref (qm 24), .int (iI 0), .ref (qm 25), .ref (qm 26), .ref (qm 27), .int (iI 0), .ref (qm 28), .ref (qm 29), .ref (qm 30)]))] H locs := hw
    refine lv_iload hx hb dL_law_380 (lv_at hl 1 rfl) ?_
    refine r_icmp_eq (tgt := 387) hx hb dL_law_382 (by decide) (by omega) (by omega) (fun _ => ?_) (fun h => (by exfalso; omega))
    refine lv_iload hx hb dL_law_387 (lv_at hl 1 rfl) ?_
    refine r_if_ne (tgt := 404) hx hb dL_law_389 (by decide) (by decide) (fun _ => ?_) (fun h => (by exfalso; omega))
    refine lv_goto (tgt := 1331) hx hb dL_law_404 (by decide) ?_
    exact Lend _ H locs ls _ _ hL5 hw (lv_sub hl [2, 6] rfl) (by decide) (by decide)
  · refine r_tblI (tgt := 407) hx hb dL_law_39 (by omega) (by omega) (by omega) (by rw [hs]; rfl) (by decide) ?_
    refine lv_aload_n hx hb dL_law_407 rfl (lv_at hl 3 rfl) ?_
    refine lv_aload_n hx hb dL_law_408 rfl (lv_at hl 4 rfl) ?_
    refine lv_iload hx hb dL_law_409 (lv_at hl 0 rfl) ?_
    refine r_iconst hx hb dL_law_411 ?_
    refine r_iadd (z := 1) hx hb dL_law_412 rfl ?_
    refine r_sld hx hb hX hbl hbA hw (by decide) (by omega) (by omega) ey1 dL_law_413 ?_
    refine lv_aload_n hx hb dL_law_414 rfl (lv_at hl 4 rfl) ?_
    refine lv_iload hx hb dL_law_415 (lv_at hl 0 rfl) ?_
    refine r_iconst hx hb dL_law_417 ?_
    refine r_iadd (z := 2) hx hb dL_law_418 rfl ?_
    refine r_sld hx hb hX hbl hbA hw (by decide) (by omega) (by omega) ey2 dL_law_419 ?_
    refine lv_aload_n hx hb dL_law_420 rfl (lv_at hl 1 rfl) ?_
    refine g_cW (As := [.ref a1, .int (iI y1), .int (iI y2), .ref a3]) (wr := (WM τ a2 qm ++ [(a3, .inl (τ 1, 1, .inr (.inl (arL (fun _ => 0)))))])) hx hb hml hC hA hTX hS2 hw hl.1 (lw_mourner l hst D τ _ a1 qx ivx gvx fvx y1 y2 a3 hy1 hy2) g_law_mourner (by decide +kernel) [0, 1, 2, 3, 4, 5, 6, 7, 8, 9, 10, 11, 12, 13, 14, 15, 16, 17, 18, 19, 20, 21, 22, 23, 24, 25, 26, 27, 28, 29, 30, 31, 32, 33, 34, 35, 36, 37, 38, 39, 40, 41, 42, 43, 44, 45, 46, 47, 48, 49, 50, 51, 52, 53, 54, 55, 56, 57, 58, 59, 60, 61, 62, 63, 64, 65, 66, 67, 68, 69, 70, 71, 72, 73, 74, 75, 76, 77, 78, 79, 80, 81, 82, 83, 84, 85, 86] [87, 88, 89, 90, 91, 92, 93, 94, 95, 96, 97, 98, 99, 100, 101, 102, 103, 104, 105, 106, 107, 108, 109, 110, 111, 112, 113, 114, 115, 116, 117, 118, 119] rfl rfl (by decide) (by decide) (by decide) rfl rfl (Nat.le_of_ble_eq_true rfl) ⟨by decide, by decide⟩ ⟨by decide, by decide⟩ rfl rfl dL_law_421 (fun u1 w1 H locs hu1 hE1 hw => ?_)
    obtain ⟨hq1, rfl⟩ := hE1
    obtain rfl : 1 = u1 := hq1.symm
    replace hw : wS D A s.heap (WM τ a2 qm ++ [(a3, .inl (τ 1, 1, .inr (.inl (arL (fun _ => 0)))))]) H locs := hw
    refine lv_istore (lv' := [(5, .int (iI 1)), (4, .int (iI 0)), (3, .ref a3), (2, .ref a2), (1, .ref a1), (0, .ref b)]) hx hb dL_law_424 hl (by decide) rfl (fun ls hl => ?_)
    refine lv_aload_n hx hb dL_law_426 rfl (lv_at hl 3 rfl) ?_
    refine lv_aload_n hx hb dL_law_427 rfl (lv_at hl 5 rfl) ?_
    refine lv_iload hx hb dL_law_428 (lv_at hl 1 rfl) ?_
    refine r_iconst hx hb dL_law_430 ?_
    refine r_iadd (z := 1) hx hb dL_law_431 rfl ?_
    refine r_sld hx hb hX hbl hbA hw (by decide) (by omega) (by omega) ey1 dL_law_432 ?_
    refine lv_aload_n hx hb dL_law_433 rfl (lv_at hl 5 rfl) ?_
    refine lv_iload hx hb dL_law_434 (lv_at hl 1 rfl) ?_
    refine r_iconst hx hb dL_law_436 ?_
    refine r_iadd (z := 2) hx hb dL_law_437 rfl ?_
    refine r_sld hx hb hX hbl hbA hw (by decide) (by omega) (by omega) ey2 dL_law_438 ?_
    refine g_cVi (wr := [(a3, .inl (τ 1, 1, .inr (.inl (arL (fun _ => 0)))))]) (q0 := 0) (ci := 13) hx hb hml hC hA hw hl.1 (um_mourner l D τ _ a2 qm y1 y2 hy1 hy2) kX12_mourner ml_L_68 [0, 1, 2, 3, 4, 5, 6, 7, 8, 9, 10, 11, 12, 13, 14, 15, 16, 17, 18, 19, 20, 21, 22, 23, 24, 25, 26, 27, 28, 29, 30, 31] [32] rfl rfl (by decide) (by decide) (by decide) rfl rfl rfl rfl (Nat.le_of_ble_eq_true rfl) ⟨by decide, by decide⟩ ⟨by decide, by decide⟩ rfl rfl dL_law_439 (fun u2 w2 H locs hu2 hE2 hw => ?_)
    obtain ⟨hq2, rfl⟩ := hE2
    replace hw : wS D A s.heap [(a3, .inl (τ 1, 1, .inr (.inl (arL (fun _ => 0))))), (a2, .inr (13, [.int (iI 1), .int (iI 0), .ref (qm 0), .int (iI 4), .int (iI 0), .int (iI 0), .int (iI 0), .int (iI 1), .ref (qm 1), .ref (qm 2), .ref (qm 3), .ref (qm 4), .ref (qm 5), .ref (qm 6), .int (iI 0), .int (iI 0), .int (iI 0), .int (iI 0), .ref (qm 7), .ref (qm 8), .int (iI 0), .ref (qm 9), .ref (qm 10), .ref (qm 11), .int (iI 0), .int (iI 0), .ref (qm 12), .ref (qm 13), .int (iI 0), .ref (qm 14), .int (iI 0), .int (iI 0), .ref (qm 15), .ref (qm 16), .ref (qm 17), .int (iI 0), .ref (qm 18), .ref (qm 19), .ref (qm 20), .int (iI 0), .ref (qm 21), .ref (qm 22), .int (iI 0), .ref (qm 23), .ref (qm 24), .int (iI 0), .ref (qm 25), .ref (qm 26), .ref (qm 27), .int (iI 0), .ref (qm 28), .ref (qm 29), .ref (qm 30)]))] H locs := hw
    refine lv_istore (lv' := [(6, .int (iI u2)), (5, .int (iI 1)), (4, .int (iI 0)), (3, .ref a3), (2, .ref a2), (1, .ref a1), (0, .ref b)]) hx hb dL_law_442 hl (by decide) rfl (fun ls hl => ?_)
    refine lv_aload_n hx hb dL_law_444 rfl (lv_at hl 4 rfl) ?_
    refine g_cVi (wr := [(a3, .inl (τ 1, 1, .inr (.inl (arL (fun _ => 0)))))]) (q0 := 0) (ci := 13) hx hb hml hC hA hw hl.1 (m_thrown l D τ _ a2 (qm 0) (qm 1) (qm 2) (qm 3) (qm 4) (qm 5) (qm 6) (qm 7) (qm 8) (qm 9) (qm 10) (qm 11) (qm 12) (qm 13) (qm 14) (qm 15) (qm 16) (qm 17) (qm 18) (qm 19) (qm 20) (qm 21) (qm 22) (qm 23) (qm 24) (qm 25) (qm 26) (qm 27) (qm 28) (qm 29) (qm 30) 1 0 4 0 0 0 1 0 0 0 0 0 0 0 0 0 0 0 0 0 0 0 (by decide)) kX12_thrown ml_L_63 [1] [0] rfl rfl (by decide) (by decide) (by decide) rfl rfl rfl rfl (Nat.le_of_ble_eq_true rfl) ⟨by decide, by decide⟩ ⟨by decide, by decide⟩ rfl rfl dL_law_445 (fun u3 w3 H locs hu3 hE3 hw => ?_)
    obtain ⟨hq3, rfl⟩ := hE3
    replace hw : wS D A s.heap [(a3, .inl (τ 1, 1, .inr (.inl (arL (fun _ => 0))))), (a2, .inr (13, [.int (iI 1), .int (iI 0), .ref (qm 0), .int (iI 4), .int (iI 0), .int (iI 0), .int (iI 0), .int (iI 1), .ref (qm 1), .ref (qm 2), .ref (qm 3), .ref (qm 4), .ref (qm 5), .ref (qm 6), .int (iI 0), .int (iI 0), .int (iI 0), .int (iI 0), .ref (qm 7), .ref (qm 8), .int (iI 0), .ref (qm 9), .ref (qm 10), .ref (qm 11), .int (iI 0), .int (iI 0), .ref (qm 12), .ref (qm 13), .int (iI 0), .ref (qm 14), .int (iI 0), .int (iI 0), .ref (qm 15), .ref (qm 16), .ref (qm 17), .int (iI 0), .ref (qm 18), .ref (qm 19), .ref (qm 20), .int (iI 0), .ref (qm 21), .ref (qm 22), .int (iI 0), .ref (qm 23), .ref (qm 24), .int (iI 0), .ref (qm 25), .ref (qm 26), .ref (qm 27), .int (iI 0), .ref (qm 28), .ref (qm 29), .ref (qm 30)]))] H locs := hw
    refine lv_iload hx hb dL_law_448 (lv_at hl 1 rfl) ?_
    refine r_icmp_eq (tgt := 455) hx hb dL_law_450 (by decide) (by omega) (by omega) (fun _ => ?_) (fun h => (by exfalso; omega))
    refine lv_iload hx hb dL_law_455 (lv_at hl 1 rfl) ?_
    refine r_if_ne (tgt := 472) hx hb dL_law_457 (by decide) (by decide) (fun _ => ?_) (fun h => (by exfalso; omega))
    refine lv_goto (tgt := 1331) hx hb dL_law_472 (by decide) ?_
    exact Lend _ H locs ls _ _ hL5 hw (lv_sub hl [2, 6] rfl) (by decide) (by decide)
  · sorry
  · sorry
  · sorry
  · sorry
  · sorry
  · sorry
  · sorry
  · sorry
  · sorry
  · sorry
  · sorry
  · sorry
  · sorry
  · sorry
  · sorry
  · sorry
  · sorry
  · sorry
  · sorry
  · sorry
  · sorry
  · sorry
  · sorry
  · sorry
  · sorry
  · sorry
  · sorry
  · sorry
  · sorry
  · sorry
  · sorry
  · sorry
  · sorry
  · refine r_tblI (tgt := 1276) hx hb dL_law_39 (by omega) (by omega) (by omega) (by rw [hs]; rfl) (by decide) ?_
    refine lv_aload_n hx hb dL_law_1276 rfl (lv_at hl 3 rfl) ?_
    refine lv_aload_n hx hb dL_law_1277 rfl (lv_at hl 4 rfl) ?_
    refine lv_iload hx hb dL_law_1278 (lv_at hl 0 rfl) ?_
    refine r_iconst hx hb dL_law_1280 ?_
    refine r_iadd (z := 1) hx hb dL_law_1281 rfl ?_
    refine r_sld hx hb hX hbl hbA hw (by decide) (by omega) (by omega) ey1 dL_law_1282 ?_
    refine lv_aload_n hx hb dL_law_1283 rfl (lv_at hl 1 rfl) ?_
    refine g_cW (As := [.ref a1, .int (iI y1), .ref a3]) (wr := (WM τ a2 qm ++ [(a3, .inl (τ 1, 1, .inr (.inl (arL (fun _ => 0)))))])) hx hb hml hC hA hTX hS3 hw hl.1 (lw_row l hst D τ _ a1 qx ivx gvx fvx y1 a3 hy1) g_law_row (by decide +kernel) [0, 1, 2, 3, 4, 5, 6, 7, 8, 9, 10, 11, 12, 13, 14, 15, 16, 17, 18, 19, 20, 21, 22, 23, 24, 25, 26, 27, 28, 29, 30, 31, 32, 33, 34, 35, 36, 37, 38, 39, 40, 41, 42, 43, 44, 45, 46, 47, 48, 49, 50, 51, 52, 53, 54, 55, 56, 57, 58, 59, 60, 61, 62, 63, 64, 65, 66, 67, 68, 69, 70, 71, 72, 73, 74, 75, 76, 77, 78, 79, 80, 81, 82, 83, 84, 85, 86] [87, 88, 89, 90, 91, 92, 93, 94, 95, 96, 97, 98, 99, 100, 101, 102, 103, 104, 105, 106, 107, 108, 109, 110, 111, 112, 113, 114, 115, 116, 117, 118, 119] rfl rfl (by decide) (by decide) (by decide) rfl rfl (Nat.le_of_ble_eq_true rfl) ⟨by decide, by decide⟩ ⟨by decide, by decide⟩ rfl rfl dL_law_1284 (fun u1 w1 H locs hu1 hE1 hw => ?_)
    obtain ⟨hq1, rfl⟩ := hE1
    obtain rfl : 1 = u1 := hq1.symm
    replace hw : wS D A s.heap (WM τ a2 qm ++ [(a3, .inl (τ 1, 1, .inr (.inl (arL (fun _ => 0)))))]) H locs := hw
    refine lv_istore (lv' := [(5, .int (iI 1)), (4, .int (iI 0)), (3, .ref a3), (2, .ref a2), (1, .ref a1), (0, .ref b)]) hx hb dL_law_1287 hl (by decide) rfl (fun ls hl => ?_)
    refine lv_aload_n hx hb dL_law_1289 rfl (lv_at hl 3 rfl) ?_
    refine lv_aload_n hx hb dL_law_1290 rfl (lv_at hl 5 rfl) ?_
    refine lv_iload hx hb dL_law_1291 (lv_at hl 1 rfl) ?_
    refine r_iconst hx hb dL_law_1293 ?_
    refine r_iadd (z := 1) hx hb dL_law_1294 rfl ?_
    refine r_sld hx hb hX hbl hbA hw (by decide) (by omega) (by omega) ey1 dL_law_1295 ?_
    refine g_cVl (wr := [(a3, .inl (τ 1, 1, .inr (.inl (arL (fun _ => 0)))))]) (q0 := 0) (ci := 13) hx hb hml hC hA hw hl.1 (um_row l D τ _ a2 qm y1 hy1) kX12_row ml_L_206 [0, 1, 2, 3, 4, 5, 6, 7, 8, 9, 10, 11, 12, 13, 14, 15, 16, 17, 18, 19, 20, 21, 22, 23, 24, 25, 26, 27, 28, 29, 30, 31] [32] rfl rfl (by decide) (by decide) (by decide) rfl rfl rfl rfl (Nat.le_of_ble_eq_true rfl) ⟨by decide, by decide⟩ ⟨by decide, by decide⟩ rfl rfl dL_law_1296 (fun u2 w2 H locs hu2 hE2 hw => ?_)
    obtain ⟨hq2, rfl⟩ := hE2
    replace hw : wS D A s.heap [(a3, .inl (τ 1, 1, .inr (.inl (arL (fun _ => 0))))), (a2, .inr (13, [.int (iI 1), .int (iI 0), .ref (qm 0), .int (iI 4), .int (iI 0), .int (iI 0), .int (iI 0), .int (iI 1), .ref (qm 1), .ref (qm 2), .ref (qm 3), .ref (qm 4), .ref (qm 5), .ref (qm 6), .int (iI 0), .int (iI 0), .int (iI 0), .int (iI 0), .ref (qm 7), .ref (qm 8), .int (iI 0), .ref (qm 9), .ref (qm 10), .ref (qm 11), .int (iI 0), .int (iI 0), .ref (qm 12), .ref (qm 13), .int (iI 0), .ref (qm 14), .int (iI 0), .int (iI 0), .ref (qm 15), .ref (qm 16), .ref (qm 17), .int (iI 0), .ref (qm 18), .ref (qm 19), .ref (qm 20), .int (iI 0), .ref (qm 21), .ref (qm 22), .int (iI 0), .ref (qm 23), .ref (qm 24), .int (iI 0), .ref (qm 25), .ref (qm 26), .ref (qm 27), .int (iI 0), .ref (qm 28), .ref (qm 29), .ref (qm 30)]))] H locs := hw
    refine lv_lstore (lv' := [(6, .long (lI u2)), (5, .int (iI 1)), (4, .int (iI 0)), (3, .ref a3), (2, .ref a2), (1, .ref a1), (0, .ref b)]) hx hb dL_law_1299 hl (by decide) rfl (fun ls hl => ?_)
    refine lv_aload_n hx hb dL_law_1301 rfl (lv_at hl 4 rfl) ?_
    refine g_cVi (wr := [(a3, .inl (τ 1, 1, .inr (.inl (arL (fun _ => 0)))))]) (q0 := 0) (ci := 13) hx hb hml hC hA hw hl.1 (m_thrown l D τ _ a2 (qm 0) (qm 1) (qm 2) (qm 3) (qm 4) (qm 5) (qm 6) (qm 7) (qm 8) (qm 9) (qm 10) (qm 11) (qm 12) (qm 13) (qm 14) (qm 15) (qm 16) (qm 17) (qm 18) (qm 19) (qm 20) (qm 21) (qm 22) (qm 23) (qm 24) (qm 25) (qm 26) (qm 27) (qm 28) (qm 29) (qm 30) 1 0 4 0 0 0 1 0 0 0 0 0 0 0 0 0 0 0 0 0 0 0 (by decide)) kX12_thrown ml_L_63 [1] [0] rfl rfl (by decide) (by decide) (by decide) rfl rfl rfl rfl (Nat.le_of_ble_eq_true rfl) ⟨by decide, by decide⟩ ⟨by decide, by decide⟩ rfl rfl dL_law_1302 (fun u3 w3 H locs hu3 hE3 hw => ?_)
    obtain ⟨hq3, rfl⟩ := hE3
    replace hw : wS D A s.heap [(a3, .inl (τ 1, 1, .inr (.inl (arL (fun _ => 0))))), (a2, .inr (13, [.int (iI 1), .int (iI 0), .ref (qm 0), .int (iI 4), .int (iI 0), .int (iI 0), .int (iI 0), .int (iI 1), .ref (qm 1), .ref (qm 2), .ref (qm 3), .ref (qm 4), .ref (qm 5), .ref (qm 6), .int (iI 0), .int (iI 0), .int (iI 0), .int (iI 0), .ref (qm 7), .ref (qm 8), .int (iI 0), .ref (qm 9), .ref (qm 10), .ref (qm 11), .int (iI 0), .int (iI 0), .ref (qm 12), .ref (qm 13), .int (iI 0), .ref (qm 14), .int (iI 0), .int (iI 0), .ref (qm 15), .ref (qm 16), .ref (qm 17), .int (iI 0), .ref (qm 18), .ref (qm 19), .ref (qm 20), .int (iI 0), .ref (qm 21), .ref (qm 22), .int (iI 0), .ref (qm 23), .ref (qm 24), .int (iI 0), .ref (qm 25), .ref (qm 26), .ref (qm 27), .int (iI 0), .ref (qm 28), .ref (qm 29), .ref (qm 30)]))] H locs := hw
    refine lv_iload hx hb dL_law_1305 (lv_at hl 1 rfl) ?_
    refine r_icmp_eq (tgt := 1312) hx hb dL_law_1307 (by decide) (by omega) (by omega) (fun _ => ?_) (fun h => (by exfalso; omega))
    refine lv_iload hx hb dL_law_1312 (lv_at hl 1 rfl) ?_
    refine r_if_ne (tgt := 1328) hx hb dL_law_1314 (by decide) (by decide) (fun _ => ?_) (fun h => (by exfalso; omega))
    refine lv_goto (tgt := 1331) hx hb dL_law_1328 (by decide) ?_
    exact Lend _ H locs ls _ _ hL5 hw (lv_sub hl [2, 6] rfl) (by decide) (by decide)
