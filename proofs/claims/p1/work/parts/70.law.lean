set_option maxHeartbeats 40000000 in
set_option maxRecDepth 100000 in
theorem whole_start {p : Program} {e : Env} {s : State} {m : MethodId} {below : List Frame} {meth : Method} {c : Code} (l : Launch) (hflags : l.flags = flags0) {b L : Nat} {xs : Nat → Int32} (hL : L ≤ 5) (C0 : lw_At p s m meth c b L xs) : W p l e room_1 s m #[Value.ref b] below meth c s.heap [] 0 0 (lw_Z below #[Value.ref b] s) (entryFrame m ([Value.ref b] : List Value).toArray 8) := by
  obtain ⟨hx, hb, hr, hml, hown, hts, hX, hbl, hlocks, hgv⟩ := id C0
  obtain ⟨D, τ, hK, hN⟩ := K_init hts
  obtain ⟨A, hAe⟩ : ∃ A : Nat → Prop, A = fun q : Nat => s.heap.size ≤ q := ⟨_, rfl⟩
  have hA : ∀ q : Nat, s.heap.size ≤ q → A q := fun q h => by rw [hAe]; exact h
  have hAr : ∀ q : Nat, A q → s.heap.size ≤ q := fun q h => by rw [hAe] at h; exact h
  have hbA : ¬ A b := fun h => absurd (hAr b h) (Nat.not_le.mpr hbl)
  have hC : cx D τ s m #[Value.ref b] RL := ⟨fun w h => hts w (lw_gt h), hown, hK, hN⟩
  have hw : wS D A s.heap [] s.heap [] := ⟨fun k q h => by simp at h, ⟨fun i j p q h => by simp at h, fun k q h => by simp at h⟩, va_S.rf⟩
  have hl := lv_entry ([.ref b]) (n := 8) (Nat.le_of_ble_eq_true rfl)
  rw [lg_entry_eq]
  generalize (lg_sl ([.ref b]) ++ List.replicate (8 - (lg_sl ([.ref b])).length) Slot.unset).toArray = ls at hl ⊢
  have hl : lv_has ls 8 [(0, .ref b)] := hl
  have hTX : TX A s := TX_of hts hgv (fun a h1 h2 => absurd (hAr a h2) (Nat.not_le.mpr h1))
  have hS1 : SX 225 "no such hearse" s := SX_of hts hK (List.mem_of_getElem? (i := 1248) (by decide +kernel))
  have hS2 : SX 268 "no such mourner" s := SX_of hts hK (List.mem_of_getElem? (i := 1288) (by decide +kernel))
  have hS3 : SX 492 "no such number of the row" s := SX_of hts hK (List.mem_of_getElem? (i := 1298) (by decide +kernel))
  have hst : l.stackTraces = false := by show (!l.flags.contains Jvm.noTraceFlag) = false; rw [hflags]; decide +kernel
  obtain ⟨ad, adV, hLX⟩ := LX_of (D := D) (τ := τ) hts hgv (A := A) (fun a h1 h2 => absurd (hAr a h2) (Nat.not_le.mpr h1))
  obtain ⟨y0, hy0, ey0⟩ := iI_of (xs 0)
  obtain ⟨y1, hy1, ey1⟩ := iI_of (xs 1)
  obtain ⟨y2, hy2, ey2⟩ := iI_of (xs 2)
  obtain ⟨y3, hy3, ey3⟩ := iI_of (xs 3)
  obtain ⟨y4, hy4, ey4⟩ := iI_of (xs 4)
  have Lret : ∀ (ws : va_W) (H : Heap) (locs : List Loc) (ls : Array Slot) (cc ss : Nat), wS D A s.heap ws H locs → cc ≤ 600002 → ss ≤ 7302232 → W p l e room_1 s m #[Value.ref b] below meth c H locs cc ss (lw_Z below #[Value.ref b] s) (F0 m 1337 ls []) := by
    intro ws H locs ls cc ss hw h1 h2
    refine r_iconst hx hb dL_law_1337 ?_
    refine va_forget (fun q hq => hAr _ (hw.2.2.2.2 q hq)) ?_
    refine W.widen (k := 600002) (n := 7302232) h1 h2 ?_
    exact lw_ret hx hb hr hlocks dL_law_1338
  have Lend : ∀ (ws : va_W) (H : Heap) (locs : List Loc) (ls : Array Slot) (cc ss : Nat), L = 5 → wS D A s.heap ws H locs → lv_has ls 8 [(4, .int (iI 0)), (0, .ref b)] → cc ≤ 600002 → ss ≤ 7302232 → W p l e room_1 s m #[Value.ref b] below meth c H locs cc ss (lw_Z below #[Value.ref b] s) (F0 m 1331 ls []) := by
    intro ws H locs ls cc ss hL5 hw hl h1 h2
    refine r_iinc (v := 5) (lv' := [(4, .int (iI 5)), (0, .ref b)]) hx hb dL_law_1331 hl (k := 0) rfl rfl (by decide) rfl (fun ls hl => ?_)
    refine lv_goto (tgt := 23) hx hb dL_law_1334 (by decide) ?_
    refine lv_iload hx hb dL_law_23 (lv_at hl 0 rfl) ?_
    refine lv_aload_n hx hb dL_law_25 rfl (lv_at hl 1 rfl) ?_
    refine r_slen hx hb hX hbl hbA hw dL_law_26 ?_
    refine r_iconst hx hb dL_law_27 ?_
    refine r_isub (z := (L : Int) - 5) hx hb dL_law_28 rfl ?_
    refine r_icmp_gt (tgt := 1337) hx hb dL_law_29 (by decide) (by decide) (by omega) (fun _ => ?_) (fun h => (by exfalso; omega))
    exact Lret ws H locs ls cc ss hw h1 h2
  refine r_new (ci := 12) (fs := [.null, .null, .null, .null, .null, .null, .null, .null, .null, .null, .null, .null, .null, .null, .null, .int (iI 0), .null, .null]) hx hb hC hA hw iX11 tyX11 tyX11_ok rfl cl_L_8 it_X11 in_X11 df_X11 (by decide) (by decide) rfl rfl dL_law_0 (fun a1 H hw => ?_)
  refine lv_dup hx hb dL_law_3 rfl ?_
  refine g_cIv (wr := []) hx hb hml hC hA hw hl.1 (c_Main_init l D τ _ a1) kX11_init ml_L_22 [0] [] rfl rfl (by decide) (by decide) (by decide) rfl rfl (Nat.le_of_ble_eq_true rfl) ⟨by decide, by decide⟩ ⟨by decide, by decide⟩ rfl rfl dL_law_4 (fun w5 H locs hE5 hw => ?_)
  obtain ⟨qx, ivx, gvx, fvx, ⟨hf0, hf1⟩, rfl⟩ := hE5
  replace hw : wS D A s.heap (WF τ a1 qx ivx gvx fvx) H locs := hw
  refine lv_astore_n (lv' := [(1, .ref a1), (0, .ref b)]) hx hb dL_law_7 rfl hl (by decide) rfl (fun ls hl => ?_)
  refine r_new (ci := 13) (fs := [.int (iI 0), .int (iI 0), .null, .int (iI 0), .int (iI 0), .int (iI 0), .int (iI 0), .int (iI 0), .null, .null, .null, .null, .null, .null, .int (iI 0), .int (iI 0), .int (iI 0), .int (iI 0), .null, .null, .int (iI 0), .null, .null, .null, .int (iI 0), .int (iI 0), .null, .null, .int (iI 0), .null, .int (iI 0), .int (iI 0), .null, .null, .null, .int (iI 0), .null, .null, .null, .int (iI 0), .null, .null, .int (iI 0), .null, .null, .int (iI 0), .null, .null, .null, .int (iI 0), .null, .null, .null]) hx hb hC hA hw iX12 tyX12 tyX12_ok rfl cl_L_23 it_X12 in_X12 df_X12 (by decide) (by decide) rfl rfl dL_law_8 (fun a2 H hw => ?_)
  refine lv_dup hx hb dL_law_11 rfl ?_
  refine g_cIv (wr := WF τ a1 qx ivx gvx fvx) hx hb hml hC hA hw hl.1 (c_Model_init l D τ _ a2) kX12_init ml_L_25 [87] [0, 1, 2, 3, 4, 5, 6, 7, 8, 9, 10, 11, 12, 13, 14, 15, 16, 17, 18, 19, 20, 21, 22, 23, 24, 25, 26, 27, 28, 29, 30, 31, 32, 33, 34, 35, 36, 37, 38, 39, 40, 41, 42, 43, 44, 45, 46, 47, 48, 49, 50, 51, 52, 53, 54, 55, 56, 57, 58, 59, 60, 61, 62, 63, 64, 65, 66, 67, 68, 69, 70, 71, 72, 73, 74, 75, 76, 77, 78, 79, 80, 81, 82, 83, 84, 85, 86] rfl rfl (by decide) (by decide) (by decide) rfl rfl (Nat.le_of_ble_eq_true rfl) ⟨by decide, by decide⟩ ⟨by decide, by decide⟩ rfl rfl dL_law_12 (fun w6 H locs hE6 hw => ?_)
  obtain ⟨qm, rfl⟩ := hE6
  replace hw : wS D A s.heap (WF τ a1 qx ivx gvx fvx ++ WM τ a2 qm) H locs := hw
  refine lv_astore_n (lv' := [(2, .ref a2), (1, .ref a1), (0, .ref b)]) hx hb dL_law_15 rfl hl (by decide) rfl (fun ls hl => ?_)
  refine r_iconst hx hb dL_law_16 ?_
  refine r_newl (N := 1) hx hb hC hA hw ac_long (by decide) (by decide) (by decide) (by decide) rfl rfl dL_law_17 (fun a3 H hw => ?_)
  refine lv_astore_n (lv' := [(3, .ref a3), (2, .ref a2), (1, .ref a1), (0, .ref b)]) hx hb dL_law_19 rfl hl (by decide) rfl (fun ls hl => ?_)
  refine r_iconst hx hb dL_law_20 ?_
  refine lv_istore (lv' := [(4, .int (iI 0)), (3, .ref a3), (2, .ref a2), (1, .ref a1), (0, .ref b)]) hx hb dL_law_21 hl (by decide) rfl (fun ls hl => ?_)
  refine lv_iload hx hb dL_law_23 (lv_at hl 0 rfl) ?_
  refine lv_aload_n hx hb dL_law_25 rfl (lv_at hl 4 rfl) ?_
  refine r_slen hx hb hX hbl hbA hw dL_law_26 ?_
  refine r_iconst hx hb dL_law_27 ?_
  refine r_isub (z := (L : Int) - 5) hx hb dL_law_28 rfl ?_
  refine r_icmp_gt (tgt := 1337) hx hb dL_law_29 (by decide) (by decide) (by omega) (fun _ => ?_) (fun hge => ?_)
  · exact Lret _ H _ ls _ _ hw (by decide) (by decide)
  have hL5 : L = 5 := by omega
  refine lv_aload_n hx hb dL_law_32 rfl (lv_at hl 4 rfl) ?_
  refine lv_iload hx hb dL_law_33 (lv_at hl 0 rfl) ?_
  refine r_sld hx hb hX hbl hbA hw (by decide) (by omega) (by omega) ey0 dL_law_35 ?_
  refine r_bipush hx hb dL_law_36 (by decide +kernel) ?_
  refine r_iand hx hb dL_law_38 (fun z0 hz0 hv0 => ?_)
  rcases (show (z0 < 0 ∨ 42 < z0) ∨ z0 = 0 ∨ z0 = 1 ∨ z0 = 2 ∨ z0 = 3 ∨ z0 = 4 ∨ z0 = 5 ∨ z0 = 6 ∨ z0 = 7 ∨ z0 = 8 ∨ z0 = 9 ∨ z0 = 10 ∨ z0 = 11 ∨ z0 = 12 ∨ z0 = 13 ∨ z0 = 14 ∨ z0 = 15 ∨ z0 = 16 ∨ z0 = 17 ∨ z0 = 18 ∨ z0 = 19 ∨ z0 = 20 ∨ z0 = 21 ∨ z0 = 22 ∨ z0 = 23 ∨ z0 = 24 ∨ z0 = 25 ∨ z0 = 26 ∨ z0 = 27 ∨ z0 = 28 ∨ z0 = 29 ∨ z0 = 30 ∨ z0 = 31 ∨ z0 = 32 ∨ z0 = 33 ∨ z0 = 34 ∨ z0 = 35 ∨ z0 = 36 ∨ z0 = 37 ∨ z0 = 38 ∨ z0 = 39 ∨ z0 = 40 ∨ z0 = 41 ∨ z0 = 42 by omega) with hs | hs | hs | hs | hs | hs | hs | hs | hs | hs | hs | hs | hs | hs | hs | hs | hs | hs | hs | hs | hs | hs | hs | hs | hs | hs | hs | hs | hs | hs | hs | hs | hs | hs | hs | hs | hs | hs | hs | hs | hs | hs | hs | hs
  · refine r_tblO (tgt := 1331) hx hb dL_law_39 (by omega) hs (by decide) ?_
    exact Lend _ H _ ls _ _ hL5 hw (lv_sub hl [0, 4] rfl) (by decide) (by decide)
  · refine r_tblI (tgt := 224) hx hb dL_law_39 (by omega) (by omega) (by omega) (by rw [hs]; rfl) (by decide) ?_
    refine lv_aload_n hx hb dL_law_224 rfl (lv_at hl 3 rfl) ?_
    refine lv_aload_n hx hb dL_law_225 rfl (lv_at hl 4 rfl) ?_
    refine lv_iload hx hb dL_law_226 (lv_at hl 0 rfl) ?_
    refine r_iconst hx hb dL_law_228 ?_
    refine r_iadd (z := 1) hx hb dL_law_229 rfl ?_
    refine r_sld hx hb hX hbl hbA hw (by decide) (by omega) (by omega) ey1 dL_law_230 ?_
    refine g_cVi (wr := (WM τ a2 qm ++ [(a3, .inl (τ 1, 1, .inr (.inl (arL (fun _ => 0)))))])) (q0 := 0) (ci := 12) hx hb hml hC hA hw hl.1 (t_sign l D τ _ a1 qx ivx gvx fvx y1 (by omega)) kX11_sign ml_L_26 [0, 1, 2, 3, 4, 5, 6, 7, 8, 9, 10, 11, 12, 13, 14, 15, 16, 17, 18, 19, 20, 21, 22, 23, 24, 25, 26, 27, 28, 29, 30, 31, 32, 33, 34, 35, 36, 37, 38, 39, 40, 41, 42, 43, 44, 45, 46, 47, 48, 49, 50, 51, 52, 53, 54, 55, 56, 57, 58, 59, 60, 61, 62, 63, 64, 65, 66, 67, 68, 69, 70, 71, 72, 73, 74, 75, 76, 77, 78, 79, 80, 81, 82, 83, 84, 85, 86] [87, 88, 89, 90, 91, 92, 93, 94, 95, 96, 97, 98, 99, 100, 101, 102, 103, 104, 105, 106, 107, 108, 109, 110, 111, 112, 113, 114, 115, 116, 117, 118, 119] rfl rfl (by decide) (by decide) (by decide) rfl rfl rfl rfl (Nat.le_of_ble_eq_true rfl) ⟨by decide, by decide⟩ ⟨by decide, by decide⟩ rfl rfl dL_law_231 (fun u1 w1 H locs hu1 hE1 hw => ?_)
    obtain ⟨hq1, rfl⟩ := hE1
    replace hw : wS D A s.heap (WM τ a2 qm ++ [(a3, .inl (τ 1, 1, .inr (.inl (arL (fun _ => 0)))))]) H locs := hw
    refine lv_aload_n hx hb dL_law_234 rfl (lv_at hl 2 rfl) ?_
    refine lv_aload_n hx hb dL_law_235 rfl (lv_at hl 4 rfl) ?_
    refine lv_iload hx hb dL_law_236 (lv_at hl 0 rfl) ?_
    refine r_iconst hx hb dL_law_238 ?_
    refine r_iadd (z := 1) hx hb dL_law_239 rfl ?_
    refine r_sld hx hb hX hbl hbA hw (by decide) (by omega) (by omega) ey1 dL_law_240 ?_
    refine g_cVi (wr := [(a3, .inl (τ 1, 1, .inr (.inl (arL (fun _ => 0)))))]) (q0 := 0) (ci := 13) hx hb hml hC hA hw hl.1 (um_sign l D τ _ a2 qm y1 (by omega)) kX12_sign ml_L_30 [0, 1, 2, 3, 4, 5, 6, 7, 8, 9, 10, 11, 12, 13, 14, 15, 16, 17, 18, 19, 20, 21, 22, 23, 24, 25, 26, 27, 28, 29, 30, 31] [32] rfl rfl (by decide) (by decide) (by decide) rfl rfl rfl rfl (Nat.le_of_ble_eq_true rfl) ⟨by decide, by decide⟩ ⟨by decide, by decide⟩ rfl rfl dL_law_241 (fun u2 w2 H locs hu2 hE2 hw => ?_)
    obtain ⟨hq2, rfl⟩ := hE2
    replace hw : wS D A s.heap [(a3, .inl (τ 1, 1, .inr (.inl (arL (fun _ => 0)))))] H locs := hw
    refine r_icmp_eq (tgt := 1331) hx hb dL_law_244 (by decide) (by omega) (by omega) (fun _ => ?_) (fun h => (by exfalso; omega))
    exact Lend _ H locs ls _ _ hL5 hw (lv_sub hl [0, 4] rfl) (by decide) (by decide)
  · refine r_tblI (tgt := 249) hx hb dL_law_39 (by omega) (by omega) (by omega) (by rw [hs]; rfl) (by decide) ?_
    refine lv_aload_n hx hb dL_law_249 rfl (lv_at hl 3 rfl) ?_
    refine lv_aload_n hx hb dL_law_250 rfl (lv_at hl 4 rfl) ?_
    refine lv_iload hx hb dL_law_251 (lv_at hl 0 rfl) ?_
    refine r_iconst hx hb dL_law_253 ?_
    refine r_iadd (z := 1) hx hb dL_law_254 rfl ?_
    refine r_sld hx hb hX hbl hbA hw (by decide) (by omega) (by omega) ey1 dL_law_255 ?_
    refine g_cVi (wr := (WM τ a2 qm ++ [(a3, .inl (τ 1, 1, .inr (.inl (arL (fun _ => 0)))))])) (q0 := 0) (ci := 12) hx hb hml hC hA hw hl.1 (t_end l D τ _ a1 qx ivx gvx fvx y1 (by omega)) kX11_end ml_L_31 [0, 1, 2, 3, 4, 5, 6, 7, 8, 9, 10, 11, 12, 13, 14, 15, 16, 17, 18, 19, 20, 21, 22, 23, 24, 25, 26, 27, 28, 29, 30, 31, 32, 33, 34, 35, 36, 37, 38, 39, 40, 41, 42, 43, 44, 45, 46, 47, 48, 49, 50, 51, 52, 53, 54, 55, 56, 57, 58, 59, 60, 61, 62, 63, 64, 65, 66, 67, 68, 69, 70, 71, 72, 73, 74, 75, 76, 77, 78, 79, 80, 81, 82, 83, 84, 85, 86] [87, 88, 89, 90, 91, 92, 93, 94, 95, 96, 97, 98, 99, 100, 101, 102, 103, 104, 105, 106, 107, 108, 109, 110, 111, 112, 113, 114, 115, 116, 117, 118, 119] rfl rfl (by decide) (by decide) (by decide) rfl rfl rfl rfl (Nat.le_of_ble_eq_true rfl) ⟨by decide, by decide⟩ ⟨by decide, by decide⟩ rfl rfl dL_law_256 (fun u1 w1 H locs hu1 hE1 hw => ?_)
    obtain ⟨hq1, rfl⟩ := hE1
    replace hw : wS D A s.heap (WM τ a2 qm ++ [(a3, .inl (τ 1, 1, .inr (.inl (arL (fun _ => 0)))))]) H locs := hw
    refine lv_aload_n hx hb dL_law_259 rfl (lv_at hl 2 rfl) ?_
    refine lv_aload_n hx hb dL_law_260 rfl (lv_at hl 4 rfl) ?_
    refine lv_iload hx hb dL_law_261 (lv_at hl 0 rfl) ?_
    refine r_iconst hx hb dL_law_263 ?_
    refine r_iadd (z := 1) hx hb dL_law_264 rfl ?_
    refine r_sld hx hb hX hbl hbA hw (by decide) (by omega) (by omega) ey1 dL_law_265 ?_
    refine g_cVi (wr := [(a3, .inl (τ 1, 1, .inr (.inl (arL (fun _ => 0)))))]) (q0 := 0) (ci := 13) hx hb hml hC hA hw hl.1 (um_end l D τ _ a2 qm y1 (by omega)) kX12_end ml_L_35 [0, 1, 2, 3, 4, 5, 6, 7, 8, 9, 10, 11, 12, 13, 14, 15, 16, 17, 18, 19, 20, 21, 22, 23, 24, 25, 26, 27, 28, 29, 30, 31] [32] rfl rfl (by decide) (by decide) (by decide) rfl rfl rfl rfl (Nat.le_of_ble_eq_true rfl) ⟨by decide, by decide⟩ ⟨by decide, by decide⟩ rfl rfl dL_law_266 (fun u2 w2 H locs hu2 hE2 hw => ?_)
    obtain ⟨hq2, rfl⟩ := hE2
    replace hw : wS D A s.heap [(a3, .inl (τ 1, 1, .inr (.inl (arL (fun _ => 0)))))] H locs := hw
    refine r_icmp_eq (tgt := 1331) hx hb dL_law_269 (by decide) (by omega) (by omega) (fun _ => ?_) (fun h => (by exfalso; omega))
    exact Lend _ H locs ls _ _ hL5 hw (lv_sub hl [0, 4] rfl) (by decide) (by decide)
  · refine r_tblI (tgt := 274) hx hb dL_law_39 (by omega) (by omega) (by omega) (by rw [hs]; rfl) (by decide) ?_
    refine lv_aload_n hx hb dL_law_274 rfl (lv_at hl 3 rfl) ?_
    refine g_cVi (wr := (WM τ a2 qm ++ [(a3, .inl (τ 1, 1, .inr (.inl (arL (fun _ => 0)))))])) (q0 := 0) (ci := 12) hx hb hml hC hA hw hl.1 (t_avenue l D τ _ a1 qx ivx gvx fvx  ) kX11_avenue ml_L_36 [0, 1, 2, 3, 4, 5, 6, 7, 8, 9, 10, 11, 12, 13, 14, 15, 16, 17, 18, 19, 20, 21, 22, 23, 24, 25, 26, 27, 28, 29, 30, 31, 32, 33, 34, 35, 36, 37, 38, 39, 40, 41, 42, 43, 44, 45, 46, 47, 48, 49, 50, 51, 52, 53, 54, 55, 56, 57, 58, 59, 60, 61, 62, 63, 64, 65, 66, 67, 68, 69, 70, 71, 72, 73, 74, 75, 76, 77, 78, 79, 80, 81, 82, 83, 84, 85, 86] [87, 88, 89, 90, 91, 92, 93, 94, 95, 96, 97, 98, 99, 100, 101, 102, 103, 104, 105, 106, 107, 108, 109, 110, 111, 112, 113, 114, 115, 116, 117, 118, 119] rfl rfl (by decide) (by decide) (by decide) rfl rfl rfl rfl (Nat.le_of_ble_eq_true rfl) ⟨by decide, by decide⟩ ⟨by decide, by decide⟩ rfl rfl dL_law_275 (fun u1 w1 H locs hu1 hE1 hw => ?_)
    obtain ⟨hq1, rfl⟩ := hE1
    replace hw : wS D A s.heap (WM τ a2 qm ++ [(a3, .inl (τ 1, 1, .inr (.inl (arL (fun _ => 0)))))]) H locs := hw
    refine lv_aload_n hx hb dL_law_278 rfl (lv_at hl 2 rfl) ?_
    refine g_cY (As := []) (wr := [(a3, .inl (τ 1, 1, .inr (.inl (arL (fun _ => 0)))))]) hx hb hml hC hA hLX hw hl.1 (um_avenue l D τ _ a2 qm ad adV) kX12_avenue ml_L_40 [0, 1, 2, 3, 4, 5, 6, 7, 8, 9, 10, 11, 12, 13, 14, 15, 16, 17, 18, 19, 20, 21, 22, 23, 24, 25, 26, 27, 28, 29, 30, 31] [32] rfl rfl (by decide) (by decide) (by decide) (va_recv (q0 := 0) (ci := 13) hC.2.2.1 hw.1 rfl rfl) rfl rfl (Nat.le_of_ble_eq_true rfl) ⟨by decide, by decide⟩ ⟨by decide, by decide⟩ rfl rfl dL_law_279 (fun u2 w2 H locs hu2 hE2 hw => ?_)
    obtain ⟨hq2, rfl⟩ := hE2
    replace hw : wS D A s.heap [(a3, .inl (τ 1, 1, .inr (.inl (arL (fun _ => 0)))))] H locs := hw
    refine r_icmp_eq (tgt := 1331) hx hb dL_law_282 (by decide) (by omega) (by omega) (fun _ => ?_) (fun h => (by exfalso; omega))
    exact Lend _ H locs ls _ _ hL5 hw (lv_sub hl [0, 4] rfl) (by decide) (by decide)
  · refine r_tblI (tgt := 287) hx hb dL_law_39 (by omega) (by omega) (by omega) (by rw [hs]; rfl) (by decide) ?_
    refine lv_aload_n hx hb dL_law_287 rfl (lv_at hl 3 rfl) ?_
    refine g_cVi (wr := (WM τ a2 qm ++ [(a3, .inl (τ 1, 1, .inr (.inl (arL (fun _ => 0)))))])) (q0 := 0) (ci := 12) hx hb hml hC hA hw hl.1 (t_hearses l D τ _ a1 qx ivx gvx fvx  ) kX11_hearses ml_L_41 [0, 1, 2, 3, 4, 5, 6, 7, 8, 9, 10, 11, 12, 13, 14, 15, 16, 17, 18, 19, 20, 21, 22, 23, 24, 25, 26, 27, 28, 29, 30, 31, 32, 33, 34, 35, 36, 37, 38, 39, 40, 41, 42, 43, 44, 45, 46, 47, 48, 49, 50, 51, 52, 53, 54, 55, 56, 57, 58, 59, 60, 61, 62, 63, 64, 65, 66, 67, 68, 69, 70, 71, 72, 73, 74, 75, 76, 77, 78, 79, 80, 81, 82, 83, 84, 85, 86] [87, 88, 89, 90, 91, 92, 93, 94, 95, 96, 97, 98, 99, 100, 101, 102, 103, 104, 105, 106, 107, 108, 109, 110, 111, 112, 113, 114, 115, 116, 117, 118, 119] rfl rfl (by decide) (by decide) (by decide) rfl rfl rfl rfl (Nat.le_of_ble_eq_true rfl) ⟨by decide, by decide⟩ ⟨by decide, by decide⟩ rfl rfl dL_law_288 (fun u1 w1 H locs hu1 hE1 hw => ?_)
    obtain ⟨hq1, rfl⟩ := hE1
    replace hw : wS D A s.heap (WM τ a2 qm ++ [(a3, .inl (τ 1, 1, .inr (.inl (arL (fun _ => 0)))))]) H locs := hw
    refine lv_aload_n hx hb dL_law_291 rfl (lv_at hl 2 rfl) ?_
    refine g_cVi (wr := [(a3, .inl (τ 1, 1, .inr (.inl (arL (fun _ => 0)))))]) (q0 := 0) (ci := 13) hx hb hml hC hA hw hl.1 (um_hearses l D τ _ a2 qm  ) kX12_hearses ml_L_44 [0, 1, 2, 3, 4, 5, 6, 7, 8, 9, 10, 11, 12, 13, 14, 15, 16, 17, 18, 19, 20, 21, 22, 23, 24, 25, 26, 27, 28, 29, 30, 31] [32] rfl rfl (by decide) (by decide) (by decide) rfl rfl rfl rfl (Nat.le_of_ble_eq_true rfl) ⟨by decide, by decide⟩ ⟨by decide, by decide⟩ rfl rfl dL_law_292 (fun u2 w2 H locs hu2 hE2 hw => ?_)
    obtain ⟨hq2, rfl⟩ := hE2
    replace hw : wS D A s.heap [(a3, .inl (τ 1, 1, .inr (.inl (arL (fun _ => 0)))))] H locs := hw
    refine r_icmp_eq (tgt := 1331) hx hb dL_law_295 (by decide) (by omega) (by omega) (fun _ => ?_) (fun h => (by exfalso; omega))
    exact Lend _ H locs ls _ _ hL5 hw (lv_sub hl [0, 4] rfl) (by decide) (by decide)
  · refine r_tblI (tgt := 300) hx hb dL_law_39 (by omega) (by omega) (by omega) (by rw [hs]; rfl) (by decide) ?_
    refine lv_aload_n hx hb dL_law_300 rfl (lv_at hl 3 rfl) ?_
    refine g_cVi (wr := (WM τ a2 qm ++ [(a3, .inl (τ 1, 1, .inr (.inl (arL (fun _ => 0)))))])) (q0 := 0) (ci := 12) hx hb hml hC hA hw hl.1 (t_mourners l D τ _ a1 qx ivx gvx fvx  ) kX11_mourners ml_L_45 [0, 1, 2, 3, 4, 5, 6, 7, 8, 9, 10, 11, 12, 13, 14, 15, 16, 17, 18, 19, 20, 21, 22, 23, 24, 25, 26, 27, 28, 29, 30, 31, 32, 33, 34, 35, 36, 37, 38, 39, 40, 41, 42, 43, 44, 45, 46, 47, 48, 49, 50, 51, 52, 53, 54, 55, 56, 57, 58, 59, 60, 61, 62, 63, 64, 65, 66, 67, 68, 69, 70, 71, 72, 73, 74, 75, 76, 77, 78, 79, 80, 81, 82, 83, 84, 85, 86] [87, 88, 89, 90, 91, 92, 93, 94, 95, 96, 97, 98, 99, 100, 101, 102, 103, 104, 105, 106, 107, 108, 109, 110, 111, 112, 113, 114, 115, 116, 117, 118, 119] rfl rfl (by decide) (by decide) (by decide) rfl rfl rfl rfl (Nat.le_of_ble_eq_true rfl) ⟨by decide, by decide⟩ ⟨by decide, by decide⟩ rfl rfl dL_law_301 (fun u1 w1 H locs hu1 hE1 hw => ?_)
    obtain ⟨hq1, rfl⟩ := hE1
    replace hw : wS D A s.heap (WM τ a2 qm ++ [(a3, .inl (τ 1, 1, .inr (.inl (arL (fun _ => 0)))))]) H locs := hw
    refine lv_aload_n hx hb dL_law_304 rfl (lv_at hl 2 rfl) ?_
    refine g_cVi (wr := [(a3, .inl (τ 1, 1, .inr (.inl (arL (fun _ => 0)))))]) (q0 := 0) (ci := 13) hx hb hml hC hA hw hl.1 (um_mourners l D τ _ a2 qm  ) kX12_mourners ml_L_48 [0, 1, 2, 3, 4, 5, 6, 7, 8, 9, 10, 11, 12, 13, 14, 15, 16, 17, 18, 19, 20, 21, 22, 23, 24, 25, 26, 27, 28, 29, 30, 31] [32] rfl rfl (by decide) (by decide) (by decide) rfl rfl rfl rfl (Nat.le_of_ble_eq_true rfl) ⟨by decide, by decide⟩ ⟨by decide, by decide⟩ rfl rfl dL_law_305 (fun u2 w2 H locs hu2 hE2 hw => ?_)
    obtain ⟨hq2, rfl⟩ := hE2
    replace hw : wS D A s.heap [(a3, .inl (τ 1, 1, .inr (.inl (arL (fun _ => 0)))))] H locs := hw
    refine r_icmp_eq (tgt := 1331) hx hb dL_law_308 (by decide) (by omega) (by omega) (fun _ => ?_) (fun h => (by exfalso; omega))
    exact Lend _ H locs ls _ _ hL5 hw (lv_sub hl [0, 4] rfl) (by decide) (by decide)
  · refine r_tblI (tgt := 313) hx hb dL_law_39 (by omega) (by omega) (by omega) (by rw [hs]; rfl) (by decide) ?_
    refine lv_aload_n hx hb dL_law_313 rfl (lv_at hl 3 rfl) ?_
    refine g_cVi (wr := (WM τ a2 qm ++ [(a3, .inl (τ 1, 1, .inr (.inl (arL (fun _ => 0)))))])) (q0 := 0) (ci := 12) hx hb hml hC hA hw hl.1 (t_weather l D τ _ a1 qx ivx gvx fvx  ) kX11_weather ml_L_49 [0, 1, 2, 3, 4, 5, 6, 7, 8, 9, 10, 11, 12, 13, 14, 15, 16, 17, 18, 19, 20, 21, 22, 23, 24, 25, 26, 27, 28, 29, 30, 31, 32, 33, 34, 35, 36, 37, 38, 39, 40, 41, 42, 43, 44, 45, 46, 47, 48, 49, 50, 51, 52, 53, 54, 55, 56, 57, 58, 59, 60, 61, 62, 63, 64, 65, 66, 67, 68, 69, 70, 71, 72, 73, 74, 75, 76, 77, 78, 79, 80, 81, 82, 83, 84, 85, 86] [87, 88, 89, 90, 91, 92, 93, 94, 95, 96, 97, 98, 99, 100, 101, 102, 103, 104, 105, 106, 107, 108, 109, 110, 111, 112, 113, 114, 115, 116, 117, 118, 119] rfl rfl (by decide) (by decide) (by decide) rfl rfl rfl rfl (Nat.le_of_ble_eq_true rfl) ⟨by decide, by decide⟩ ⟨by decide, by decide⟩ rfl rfl dL_law_314 (fun u1 w1 H locs hu1 hE1 hw => ?_)
    obtain ⟨hq1, rfl⟩ := hE1
    replace hw : wS D A s.heap (WM τ a2 qm ++ [(a3, .inl (τ 1, 1, .inr (.inl (arL (fun _ => 0)))))]) H locs := hw
    refine lv_aload_n hx hb dL_law_317 rfl (lv_at hl 2 rfl) ?_
    refine g_cVi (wr := [(a3, .inl (τ 1, 1, .inr (.inl (arL (fun _ => 0)))))]) (q0 := 0) (ci := 13) hx hb hml hC hA hw hl.1 (um_weather l D τ _ a2 qm  ) kX12_weather ml_L_52 [0, 1, 2, 3, 4, 5, 6, 7, 8, 9, 10, 11, 12, 13, 14, 15, 16, 17, 18, 19, 20, 21, 22, 23, 24, 25, 26, 27, 28, 29, 30, 31] [32] rfl rfl (by decide) (by decide) (by decide) rfl rfl rfl rfl (Nat.le_of_ble_eq_true rfl) ⟨by decide, by decide⟩ ⟨by decide, by decide⟩ rfl rfl dL_law_318 (fun u2 w2 H locs hu2 hE2 hw => ?_)
    obtain ⟨hq2, rfl⟩ := hE2
    replace hw : wS D A s.heap [(a3, .inl (τ 1, 1, .inr (.inl (arL (fun _ => 0)))))] H locs := hw
    refine r_icmp_eq (tgt := 1331) hx hb dL_law_321 (by decide) (by omega) (by omega) (fun _ => ?_) (fun h => (by exfalso; omega))
    exact Lend _ H locs ls _ _ hL5 hw (lv_sub hl [0, 4] rfl) (by decide) (by decide)
  · refine r_tblI (tgt := 326) hx hb dL_law_39 (by omega) (by omega) (by omega) (by rw [hs]; rfl) (by decide) ?_
    refine lv_aload_n hx hb dL_law_326 rfl (lv_at hl 3 rfl) ?_
    refine g_cVi (wr := (WM τ a2 qm ++ [(a3, .inl (τ 1, 1, .inr (.inl (arL (fun _ => 0)))))])) (q0 := 0) (ci := 12) hx hb hml hC hA hw hl.1 (t_rule l D τ _ a1 qx ivx gvx fvx  ) kX11_rule ml_L_53 [0, 1, 2, 3, 4, 5, 6, 7, 8, 9, 10, 11, 12, 13, 14, 15, 16, 17, 18, 19, 20, 21, 22, 23, 24, 25, 26, 27, 28, 29, 30, 31, 32, 33, 34, 35, 36, 37, 38, 39, 40, 41, 42, 43, 44, 45, 46, 47, 48, 49, 50, 51, 52, 53, 54, 55, 56, 57, 58, 59, 60, 61, 62, 63, 64, 65, 66, 67, 68, 69, 70, 71, 72, 73, 74, 75, 76, 77, 78, 79, 80, 81, 82, 83, 84, 85, 86] [87, 88, 89, 90, 91, 92, 93, 94, 95, 96, 97, 98, 99, 100, 101, 102, 103, 104, 105, 106, 107, 108, 109, 110, 111, 112, 113, 114, 115, 116, 117, 118, 119] rfl rfl (by decide) (by decide) (by decide) rfl rfl rfl rfl (Nat.le_of_ble_eq_true rfl) ⟨by decide, by decide⟩ ⟨by decide, by decide⟩ rfl rfl dL_law_327 (fun u1 w1 H locs hu1 hE1 hw => ?_)
    obtain ⟨hq1, rfl⟩ := hE1
    replace hw : wS D A s.heap (WM τ a2 qm ++ [(a3, .inl (τ 1, 1, .inr (.inl (arL (fun _ => 0)))))]) H locs := hw
    refine lv_aload_n hx hb dL_law_330 rfl (lv_at hl 2 rfl) ?_
    refine g_cVi (wr := [(a3, .inl (τ 1, 1, .inr (.inl (arL (fun _ => 0)))))]) (q0 := 0) (ci := 13) hx hb hml hC hA hw hl.1 (um_rule l D τ _ a2 qm  ) kX12_rule ml_L_56 [0, 1, 2, 3, 4, 5, 6, 7, 8, 9, 10, 11, 12, 13, 14, 15, 16, 17, 18, 19, 20, 21, 22, 23, 24, 25, 26, 27, 28, 29, 30, 31] [32] rfl rfl (by decide) (by decide) (by decide) rfl rfl rfl rfl (Nat.le_of_ble_eq_true rfl) ⟨by decide, by decide⟩ ⟨by decide, by decide⟩ rfl rfl dL_law_331 (fun u2 w2 H locs hu2 hE2 hw => ?_)
    obtain ⟨hq2, rfl⟩ := hE2
    replace hw : wS D A s.heap [(a3, .inl (τ 1, 1, .inr (.inl (arL (fun _ => 0)))))] H locs := hw
    refine r_icmp_eq (tgt := 1331) hx hb dL_law_334 (by decide) (by omega) (by omega) (fun _ => ?_) (fun h => (by exfalso; omega))
    exact Lend _ H locs ls _ _ hL5 hw (lv_sub hl [0, 4] rfl) (by decide) (by decide)
  · refine r_tblI (tgt := 339) hx hb dL_law_39 (by omega) (by omega) (by omega) (by rw [hs]; rfl) (by decide) ?_
    refine lv_aload_n hx hb dL_law_339 rfl (lv_at hl 3 rfl) ?_
    refine lv_aload_n hx hb dL_law_340 rfl (lv_at hl 4 rfl) ?_
    refine lv_iload hx hb dL_law_341 (lv_at hl 0 rfl) ?_
    refine r_iconst hx hb dL_law_343 ?_
    refine r_iadd (z := 1) hx hb dL_law_344 rfl ?_
    refine r_sld hx hb hX hbl hbA hw (by decide) (by omega) (by omega) ey1 dL_law_345 ?_
    refine lv_aload_n hx hb dL_law_346 rfl (lv_at hl 4 rfl) ?_
    refine lv_iload hx hb dL_law_347 (lv_at hl 0 rfl) ?_
    refine r_iconst hx hb dL_law_349 ?_
    refine r_iadd (z := 2) hx hb dL_law_350 rfl ?_
    refine r_sld hx hb hX hbl hbA hw (by decide) (by omega) (by omega) ey2 dL_law_351 ?_
    refine lv_aload_n hx hb dL_law_352 rfl (lv_at hl 1 rfl) ?_
    refine g_cW (n := 4) (As := [.ref a1, .int (iI y1), .int (iI y2), .ref a3]) (wr := (WM τ a2 qm ++ [(a3, .inl (τ 1, 1, .inr (.inl (arL (fun _ => 0)))))])) hx hb hml hC hA hTX hS1 hw hl.1 (lw_hearse l hst D τ _ a1 qx ivx gvx fvx y1 y2 a3 hy1 hy2) g_law_hearse (by decide +kernel) [0, 1, 2, 3, 4, 5, 6, 7, 8, 9, 10, 11, 12, 13, 14, 15, 16, 17, 18, 19, 20, 21, 22, 23, 24, 25, 26, 27, 28, 29, 30, 31, 32, 33, 34, 35, 36, 37, 38, 39, 40, 41, 42, 43, 44, 45, 46, 47, 48, 49, 50, 51, 52, 53, 54, 55, 56, 57, 58, 59, 60, 61, 62, 63, 64, 65, 66, 67, 68, 69, 70, 71, 72, 73, 74, 75, 76, 77, 78, 79, 80, 81, 82, 83, 84, 85, 86] [87, 88, 89, 90, 91, 92, 93, 94, 95, 96, 97, 98, 99, 100, 101, 102, 103, 104, 105, 106, 107, 108, 109, 110, 111, 112, 113, 114, 115, 116, 117, 118, 119] rfl rfl (by decide) (by decide) (by decide) rfl rfl (Nat.le_of_ble_eq_true rfl) ⟨by decide, by decide⟩ ⟨by decide, by decide⟩ rfl rfl dL_law_353 (fun u1 w1 H locs hu1 hE1 hw => ?_)
    obtain ⟨hq1, rfl⟩ := hE1
    obtain rfl : 1 = u1 := hq1.symm
    replace hw : wS D A s.heap (WM τ a2 qm ++ [(a3, .inl (τ 1, 1, .inr (.inl (arL (fun _ => 0)))))]) H locs := hw
    refine lv_istore (lv' := [(5, .int (iI 1)), (4, .int (iI 0)), (3, .ref a3), (2, .ref a2), (1, .ref a1), (0, .ref b)]) hx hb dL_law_356 hl (by decide) rfl (fun ls hl => ?_)
    refine lv_aload_n hx hb dL_law_358 rfl (lv_at hl 3 rfl) ?_
    refine lv_aload_n hx hb dL_law_359 rfl (lv_at hl 5 rfl) ?_
    refine lv_iload hx hb dL_law_360 (lv_at hl 1 rfl) ?_
    refine r_iconst hx hb dL_law_362 ?_
    refine r_iadd (z := 1) hx hb dL_law_363 rfl ?_
    refine r_sld hx hb hX hbl hbA hw (by decide) (by omega) (by omega) ey1 dL_law_364 ?_
    refine lv_aload_n hx hb dL_law_365 rfl (lv_at hl 5 rfl) ?_
    refine lv_iload hx hb dL_law_366 (lv_at hl 1 rfl) ?_
    refine r_iconst hx hb dL_law_368 ?_
    refine r_iadd (z := 2) hx hb dL_law_369 rfl ?_
    refine r_sld hx hb hX hbl hbA hw (by decide) (by omega) (by omega) ey2 dL_law_370 ?_
    refine g_cVi (wr := [(a3, .inl (τ 1, 1, .inr (.inl (arL (fun _ => 0)))))]) (q0 := 0) (ci := 13) hx hb hml hC hA hw hl.1 (um_hearse l D τ _ a2 qm y1 y2 hy1 hy2) kX12_hearse ml_L_62 [0, 1, 2, 3, 4, 5, 6, 7, 8, 9, 10, 11, 12, 13, 14, 15, 16, 17, 18, 19, 20, 21, 22, 23, 24, 25, 26, 27, 28, 29, 30, 31] [32] rfl rfl (by decide) (by decide) (by decide) rfl rfl rfl rfl (Nat.le_of_ble_eq_true rfl) ⟨by decide, by decide⟩ ⟨by decide, by decide⟩ rfl rfl dL_law_371 (fun u2 w2 H locs hu2 hE2 hw => ?_)
    obtain ⟨hq2, rfl⟩ := hE2
    replace hw : wS D A s.heap [(a3, .inl (τ 1, 1, .inr (.inl (arL (fun _ => 0))))), (a2, .inr (13, [.int (iI 1), .int (iI 0), .ref (qm 0), .int (iI 4), .int (iI 0), .int (iI 0), .int (iI 0), .int (iI 1), .ref (qm 1), .ref (qm 2), .ref (qm 3), .ref (qm 4), .ref (qm 5), .ref (qm 6), .int (iI 0), .int (iI 0), .int (iI 0), .int (iI 0), .ref (qm 7), .ref (qm 8), .int (iI 0), .ref (qm 9), .ref (qm 10), .ref (qm 11), .int (iI 0), .int (iI 0), .ref (qm 12), .ref (qm 13), .int (iI 0), .ref (qm 14), .int (iI 0), .int (iI 0), .ref (qm 15), .ref (qm 16), .ref (qm 17), .int (iI 0), .ref (qm 18), .ref (qm 19), .ref (qm 20), .int (iI 0), .ref (qm 21), .ref (qm 22), .int (iI 0), .ref (qm 23), .ref (qm 24), .int (iI 0), .ref (qm 25), .ref (qm 26), .ref (qm 27), .int (iI 0), .ref (qm 28), .ref (qm 29), .ref (qm 30)]))] H locs := hw
    refine lv_istore (lv' := [(6, .int (iI u2)), (5, .int (iI 1)), (4, .int (iI 0)), (3, .ref a3), (2, .ref a2), (1, .ref a1), (0, .ref b)]) hx hb dL_law_374 hl (by decide) rfl (fun ls hl => ?_)
    refine lv_aload_n hx hb dL_law_376 rfl (lv_at hl 4 rfl) ?_
    refine g_cVi (wr := [(a3, .inl (τ 1, 1, .inr (.inl (arL (fun _ => 0)))))]) (q0 := 0) (ci := 13) hx hb hml hC hA hw hl.1 (m_thrown l D τ _ a2 (qm 0) (qm 1) (qm 2) (qm 3) (qm 4) (qm 5) (qm 6) (qm 7) (qm 8) (qm 9) (qm 10) (qm 11) (qm 12) (qm 13) (qm 14) (qm 15) (qm 16) (qm 17) (qm 18) (qm 19) (qm 20) (qm 21) (qm 22) (qm 23) (qm 24) (qm 25) (qm 26) (qm 27) (qm 28) (qm 29) (qm 30) 1 0 4 0 0 0 1 0 0 0 0 0 0 0 0 0 0 0 0 0 0 0 (by decide)) kX12_thrown ml_L_63 [1] [0] rfl rfl (by decide) (by decide) (by decide) rfl rfl rfl rfl (Nat.le_of_ble_eq_true rfl) ⟨by decide, by decide⟩ ⟨by decide, by decide⟩ rfl rfl dL_law_377 (fun u3 w3 H locs hu3 hE3 hw => ?_)
    obtain ⟨hq3, rfl⟩ := hE3
    replace hw : wS D A s.heap [(a3, .inl (τ 1, 1, .inr (.inl (arL (fun _ => 0))))), (a2, .inr (13, [.int (iI 1), .int (iI 0), .ref (qm 0), .int (iI 4), .int (iI 0), .int (iI 0), .int (iI 0), .int (iI 1), .ref (qm 1), .ref (qm 2), .ref (qm 3), .ref (qm 4), .ref (qm 5), .ref (qm 6), .int (iI 0), .int (iI 0), .int (iI 0), .int (iI 0), .ref (qm 7), .ref (qm 8), .int (iI 0), .ref (qm 9), .ref (qm 10), .ref (qm 11), .int (iI 0), .int (iI 0), .ref (qm 12), .ref (qm 13), .int (iI 0), .ref (qm 14), .int (iI 0), .int (iI 0), .ref (qm 15), .ref (qm 16), .ref (qm 17), .int (iI 0), .ref (qm 18), .ref (qm 19), .ref (qm 20), .int (iI 0), .ref (qm 21), .ref (qm 22), .int (iI 0), .ref (qm 23), .ref (qm 24), .int (iI 0), .ref (qm 25), .ref (qm 26), .ref (qm 27), .int (iI 0), .ref (qm 28), .ref (qm 29), .ref (qm 30)]))] H locs := hw
    refine lv_iload hx hb dL_law_380 (lv_at hl 1 rfl) ?_
    refine r_icmp_eq (tgt := 387) hx hb dL_law_382 (by decide) (by omega) (by omega) (fun _ => ?_) (fun h => (by exfalso; omega))
    refine lv_iload hx hb dL_law_387 (lv_at hl 1 rfl) ?_
    refine r_if_ne (tgt := 404) hx hb dL_law_389 (by decide) (by decide) (fun _ => ?_) (fun h => (by exfalso; omega))
    refine lv_goto (tgt := 1331) hx hb dL_law_404 (by decide) ?_
    exact Lend _ H locs ls _ _ hL5 hw (lv_sub hl [2, 6] rfl) (by decide) (by decide)
  · refine r_tblI (tgt := 407) hx hb dL_law_39 (by omega) (by omega) (by omega) (by rw [hs]; rfl) (by decide) ?_
    refine lv_aload_n hx hb dL_law_407 rfl (lv_at hl 3 rfl) ?_
    refine lv_aload_n hx hb dL_law_408 rfl (lv_at hl 4 rfl) ?_
    refine lv_iload hx hb dL_law_409 (lv_at hl 0 rfl) ?_
    refine r_iconst hx hb dL_law_411 ?_
    refine r_iadd (z := 1) hx hb dL_law_412 rfl ?_
    refine r_sld hx hb hX hbl hbA hw (by decide) (by omega) (by omega) ey1 dL_law_413 ?_
    refine lv_aload_n hx hb dL_law_414 rfl (lv_at hl 4 rfl) ?_
    refine lv_iload hx hb dL_law_415 (lv_at hl 0 rfl) ?_
    refine r_iconst hx hb dL_law_417 ?_
    refine r_iadd (z := 2) hx hb dL_law_418 rfl ?_
    refine r_sld hx hb hX hbl hbA hw (by decide) (by omega) (by omega) ey2 dL_law_419 ?_
    refine lv_aload_n hx hb dL_law_420 rfl (lv_at hl 1 rfl) ?_
    refine g_cW (n := 4) (As := [.ref a1, .int (iI y1), .int (iI y2), .ref a3]) (wr := (WM τ a2 qm ++ [(a3, .inl (τ 1, 1, .inr (.inl (arL (fun _ => 0)))))])) hx hb hml hC hA hTX hS2 hw hl.1 (lw_mourner l hst D τ _ a1 qx ivx gvx fvx y1 y2 a3 hy1 hy2) g_law_mourner (by decide +kernel) [0, 1, 2, 3, 4, 5, 6, 7, 8, 9, 10, 11, 12, 13, 14, 15, 16, 17, 18, 19, 20, 21, 22, 23, 24, 25, 26, 27, 28, 29, 30, 31, 32, 33, 34, 35, 36, 37, 38, 39, 40, 41, 42, 43, 44, 45, 46, 47, 48, 49, 50, 51, 52, 53, 54, 55, 56, 57, 58, 59, 60, 61, 62, 63, 64, 65, 66, 67, 68, 69, 70, 71, 72, 73, 74, 75, 76, 77, 78, 79, 80, 81, 82, 83, 84, 85, 86] [87, 88, 89, 90, 91, 92, 93, 94, 95, 96, 97, 98, 99, 100, 101, 102, 103, 104, 105, 106, 107, 108, 109, 110, 111, 112, 113, 114, 115, 116, 117, 118, 119] rfl rfl (by decide) (by decide) (by decide) rfl rfl (Nat.le_of_ble_eq_true rfl) ⟨by decide, by decide⟩ ⟨by decide, by decide⟩ rfl rfl dL_law_421 (fun u1 w1 H locs hu1 hE1 hw => ?_)
    obtain ⟨hq1, rfl⟩ := hE1
    obtain rfl : 1 = u1 := hq1.symm
    replace hw : wS D A s.heap (WM τ a2 qm ++ [(a3, .inl (τ 1, 1, .inr (.inl (arL (fun _ => 0)))))]) H locs := hw
    refine lv_istore (lv' := [(5, .int (iI 1)), (4, .int (iI 0)), (3, .ref a3), (2, .ref a2), (1, .ref a1), (0, .ref b)]) hx hb dL_law_424 hl (by decide) rfl (fun ls hl => ?_)
    refine lv_aload_n hx hb dL_law_426 rfl (lv_at hl 3 rfl) ?_
    refine lv_aload_n hx hb dL_law_427 rfl (lv_at hl 5 rfl) ?_
    refine lv_iload hx hb dL_law_428 (lv_at hl 1 rfl) ?_
    refine r_iconst hx hb dL_law_430 ?_
    refine r_iadd (z := 1) hx hb dL_law_431 rfl ?_
    refine r_sld hx hb hX hbl hbA hw (by decide) (by omega) (by omega) ey1 dL_law_432 ?_
    refine lv_aload_n hx hb dL_law_433 rfl (lv_at hl 5 rfl) ?_
    refine lv_iload hx hb dL_law_434 (lv_at hl 1 rfl) ?_
    refine r_iconst hx hb dL_law_436 ?_
    refine r_iadd (z := 2) hx hb dL_law_437 rfl ?_
    refine r_sld hx hb hX hbl hbA hw (by decide) (by omega) (by omega) ey2 dL_law_438 ?_
    refine g_cVi (wr := [(a3, .inl (τ 1, 1, .inr (.inl (arL (fun _ => 0)))))]) (q0 := 0) (ci := 13) hx hb hml hC hA hw hl.1 (um_mourner l D τ _ a2 qm y1 y2 hy1 hy2) kX12_mourner ml_L_68 [0, 1, 2, 3, 4, 5, 6, 7, 8, 9, 10, 11, 12, 13, 14, 15, 16, 17, 18, 19, 20, 21, 22, 23, 24, 25, 26, 27, 28, 29, 30, 31] [32] rfl rfl (by decide) (by decide) (by decide) rfl rfl rfl rfl (Nat.le_of_ble_eq_true rfl) ⟨by decide, by decide⟩ ⟨by decide, by decide⟩ rfl rfl dL_law_439 (fun u2 w2 H locs hu2 hE2 hw => ?_)
    obtain ⟨hq2, rfl⟩ := hE2
    replace hw : wS D A s.heap [(a3, .inl (τ 1, 1, .inr (.inl (arL (fun _ => 0))))), (a2, .inr (13, [.int (iI 1), .int (iI 0), .ref (qm 0), .int (iI 4), .int (iI 0), .int (iI 0), .int (iI 0), .int (iI 1), .ref (qm 1), .ref (qm 2), .ref (qm 3), .ref (qm 4), .ref (qm 5), .ref (qm 6), .int (iI 0), .int (iI 0), .int (iI 0), .int (iI 0), .ref (qm 7), .ref (qm 8), .int (iI 0), .ref (qm 9), .ref (qm 10), .ref (qm 11), .int (iI 0), .int (iI 0), .ref (qm 12), .ref (qm 13), .int (iI 0), .ref (qm 14), .int (iI 0), .int (iI 0), .ref (qm 15), .ref (qm 16), .ref (qm 17), .int (iI 0), .ref (qm 18), .ref (qm 19), .ref (qm 20), .int (iI 0), .ref (qm 21), .ref (qm 22), .int (iI 0), .ref (qm 23), .ref (qm 24), .int (iI 0), .ref (qm 25), .ref (qm 26), .ref (qm 27), .int (iI 0), .ref (qm 28), .ref (qm 29), .ref (qm 30)]))] H locs := hw
    refine lv_istore (lv' := [(6, .int (iI u2)), (5, .int (iI 1)), (4, .int (iI 0)), (3, .ref a3), (2, .ref a2), (1, .ref a1), (0, .ref b)]) hx hb dL_law_442 hl (by decide) rfl (fun ls hl => ?_)
    refine lv_aload_n hx hb dL_law_444 rfl (lv_at hl 4 rfl) ?_
    refine g_cVi (wr := [(a3, .inl (τ 1, 1, .inr (.inl (arL (fun _ => 0)))))]) (q0 := 0) (ci := 13) hx hb hml hC hA hw hl.1 (m_thrown l D τ _ a2 (qm 0) (qm 1) (qm 2) (qm 3) (qm 4) (qm 5) (qm 6) (qm 7) (qm 8) (qm 9) (qm 10) (qm 11) (qm 12) (qm 13) (qm 14) (qm 15) (qm 16) (qm 17) (qm 18) (qm 19) (qm 20) (qm 21) (qm 22) (qm 23) (qm 24) (qm 25) (qm 26) (qm 27) (qm 28) (qm 29) (qm 30) 1 0 4 0 0 0 1 0 0 0 0 0 0 0 0 0 0 0 0 0 0 0 (by decide)) kX12_thrown ml_L_63 [1] [0] rfl rfl (by decide) (by decide) (by decide) rfl rfl rfl rfl (Nat.le_of_ble_eq_true rfl) ⟨by decide, by decide⟩ ⟨by decide, by decide⟩ rfl rfl dL_law_445 (fun u3 w3 H locs hu3 hE3 hw => ?_)
    obtain ⟨hq3, rfl⟩ := hE3
    replace hw : wS D A s.heap [(a3, .inl (τ 1, 1, .inr (.inl (arL (fun _ => 0))))), (a2, .inr (13, [.int (iI 1), .int (iI 0), .ref (qm 0), .int (iI 4), .int (iI 0), .int (iI 0), .int (iI 0), .int (iI 1), .ref (qm 1), .ref (qm 2), .ref (qm 3), .ref (qm 4), .ref (qm 5), .ref (qm 6), .int (iI 0), .int (iI 0), .int (iI 0), .int (iI 0), .ref (qm 7), .ref (qm 8), .int (iI 0), .ref (qm 9), .ref (qm 10), .ref (qm 11), .int (iI 0), .int (iI 0), .ref (qm 12), .ref (qm 13), .int (iI 0), .ref (qm 14), .int (iI 0), .int (iI 0), .ref (qm 15), .ref (qm 16), .ref (qm 17), .int (iI 0), .ref (qm 18), .ref (qm 19), .ref (qm 20), .int (iI 0), .ref (qm 21), .ref (qm 22), .int (iI 0), .ref (qm 23), .ref (qm 24), .int (iI 0), .ref (qm 25), .ref (qm 26), .ref (qm 27), .int (iI 0), .ref (qm 28), .ref (qm 29), .ref (qm 30)]))] H locs := hw
    refine lv_iload hx hb dL_law_448 (lv_at hl 1 rfl) ?_
    refine r_icmp_eq (tgt := 455) hx hb dL_law_450 (by decide) (by omega) (by omega) (fun _ => ?_) (fun h => (by exfalso; omega))
    refine lv_iload hx hb dL_law_455 (lv_at hl 1 rfl) ?_
    refine r_if_ne (tgt := 472) hx hb dL_law_457 (by decide) (by decide) (fun _ => ?_) (fun h => (by exfalso; omega))
    refine lv_goto (tgt := 1331) hx hb dL_law_472 (by decide) ?_
    exact Lend _ H locs ls _ _ hL5 hw (lv_sub hl [2, 6] rfl) (by decide) (by decide)
  · refine r_tblI (tgt := 475) hx hb dL_law_39 (by omega) (by omega) (by omega) (by rw [hs]; rfl) (by decide) ?_
    refine lv_aload_n hx hb dL_law_475 rfl (lv_at hl 3 rfl) ?_
    refine lv_aload_n hx hb dL_law_476 rfl (lv_at hl 4 rfl) ?_
    refine lv_iload hx hb dL_law_477 (lv_at hl 0 rfl) ?_
    refine r_iconst hx hb dL_law_479 ?_
    refine r_iadd (z := 1) hx hb dL_law_480 rfl ?_
    refine r_sld hx hb hX hbl hbA hw (by decide) (by omega) (by omega) ey1 dL_law_481 ?_
    refine lv_aload_n hx hb dL_law_482 rfl (lv_at hl 4 rfl) ?_
    refine lv_iload hx hb dL_law_483 (lv_at hl 0 rfl) ?_
    refine r_iconst hx hb dL_law_485 ?_
    refine r_iadd (z := 2) hx hb dL_law_486 rfl ?_
    refine r_sld hx hb hX hbl hbA hw (by decide) (by omega) (by omega) ey2 dL_law_487 ?_
    refine lv_aload_n hx hb dL_law_488 rfl (lv_at hl 4 rfl) ?_
    refine lv_iload hx hb dL_law_489 (lv_at hl 0 rfl) ?_
    refine r_iconst hx hb dL_law_491 ?_
    refine r_iadd (z := 3) hx hb dL_law_492 rfl ?_
    refine r_sld hx hb hX hbl hbA hw (by decide) (by omega) (by omega) ey3 dL_law_493 ?_
    refine lv_aload_n hx hb dL_law_494 rfl (lv_at hl 4 rfl) ?_
    refine lv_iload hx hb dL_law_495 (lv_at hl 0 rfl) ?_
    refine r_iconst hx hb dL_law_497 ?_
    refine r_iadd (z := 4) hx hb dL_law_498 rfl ?_
    refine r_sld hx hb hX hbl hbA hw (by decide) (by omega) (by omega) ey4 dL_law_499 ?_
    refine g_cVi (wr := (WM τ a2 qm ++ [(a3, .inl (τ 1, 1, .inr (.inl (arL (fun _ => 0)))))])) (q0 := 0) (ci := 12) hx hb hml hC hA hw hl.1 (t_sheet l D τ _ a1 qx ivx gvx fvx y1 y2 y3 y4 (by omega) (by omega) (by omega) (by omega)) kX11_sheet ml_L_69 [0, 1, 2, 3, 4, 5, 6, 7, 8, 9, 10, 11, 12, 13, 14, 15, 16, 17, 18, 19, 20, 21, 22, 23, 24, 25, 26, 27, 28, 29, 30, 31, 32, 33, 34, 35, 36, 37, 38, 39, 40, 41, 42, 43, 44, 45, 46, 47, 48, 49, 50, 51, 52, 53, 54, 55, 56, 57, 58, 59, 60, 61, 62, 63, 64, 65, 66, 67, 68, 69, 70, 71, 72, 73, 74, 75, 76, 77, 78, 79, 80, 81, 82, 83, 84, 85, 86] [87, 88, 89, 90, 91, 92, 93, 94, 95, 96, 97, 98, 99, 100, 101, 102, 103, 104, 105, 106, 107, 108, 109, 110, 111, 112, 113, 114, 115, 116, 117, 118, 119] rfl rfl (by decide) (by decide) (by decide) rfl rfl rfl rfl (Nat.le_of_ble_eq_true rfl) ⟨by decide, by decide⟩ ⟨by decide, by decide⟩ rfl rfl dL_law_500 (fun u1 w1 H locs hu1 hE1 hw => ?_)
    obtain ⟨hq1, rfl⟩ := hE1
    replace hw : wS D A s.heap (WM τ a2 qm ++ [(a3, .inl (τ 1, 1, .inr (.inl (arL (fun _ => 0)))))]) H locs := hw
    refine lv_aload_n hx hb dL_law_503 rfl (lv_at hl 2 rfl) ?_
    refine lv_aload_n hx hb dL_law_504 rfl (lv_at hl 4 rfl) ?_
    refine lv_iload hx hb dL_law_505 (lv_at hl 0 rfl) ?_
    refine r_iconst hx hb dL_law_507 ?_
    refine r_iadd (z := 1) hx hb dL_law_508 rfl ?_
    refine r_sld hx hb hX hbl hbA hw (by decide) (by omega) (by omega) ey1 dL_law_509 ?_
    refine lv_aload_n hx hb dL_law_510 rfl (lv_at hl 4 rfl) ?_
    refine lv_iload hx hb dL_law_511 (lv_at hl 0 rfl) ?_
    refine r_iconst hx hb dL_law_513 ?_
    refine r_iadd (z := 2) hx hb dL_law_514 rfl ?_
    refine r_sld hx hb hX hbl hbA hw (by decide) (by omega) (by omega) ey2 dL_law_515 ?_
    refine lv_aload_n hx hb dL_law_516 rfl (lv_at hl 4 rfl) ?_
    refine lv_iload hx hb dL_law_517 (lv_at hl 0 rfl) ?_
    refine r_iconst hx hb dL_law_519 ?_
    refine r_iadd (z := 3) hx hb dL_law_520 rfl ?_
    refine r_sld hx hb hX hbl hbA hw (by decide) (by omega) (by omega) ey3 dL_law_521 ?_
    refine lv_aload_n hx hb dL_law_522 rfl (lv_at hl 4 rfl) ?_
    refine lv_iload hx hb dL_law_523 (lv_at hl 0 rfl) ?_
    refine r_iconst hx hb dL_law_525 ?_
    refine r_iadd (z := 4) hx hb dL_law_526 rfl ?_
    refine r_sld hx hb hX hbl hbA hw (by decide) (by omega) (by omega) ey4 dL_law_527 ?_
    refine g_cVi (wr := [(a3, .inl (τ 1, 1, .inr (.inl (arL (fun _ => 0)))))]) (q0 := 0) (ci := 13) hx hb hml hC hA hw hl.1 (um_sheet l D τ _ a2 qm y1 y2 y3 y4 (by omega) (by omega) (by omega) (by omega)) kX12_sheet ml_L_73 [0, 1, 2, 3, 4, 5, 6, 7, 8, 9, 10, 11, 12, 13, 14, 15, 16, 17, 18, 19, 20, 21, 22, 23, 24, 25, 26, 27, 28, 29, 30, 31] [32] rfl rfl (by decide) (by decide) (by decide) rfl rfl rfl rfl (Nat.le_of_ble_eq_true rfl) ⟨by decide, by decide⟩ ⟨by decide, by decide⟩ rfl rfl dL_law_528 (fun u2 w2 H locs hu2 hE2 hw => ?_)
    obtain ⟨hq2, rfl⟩ := hE2
    replace hw : wS D A s.heap [(a3, .inl (τ 1, 1, .inr (.inl (arL (fun _ => 0)))))] H locs := hw
    refine r_icmp_eq (tgt := 1331) hx hb dL_law_531 (by decide) (by omega) (by omega) (fun _ => ?_) (fun h => (by exfalso; omega))
    exact Lend _ H locs ls _ _ hL5 hw (lv_sub hl [0, 4] rfl) (by decide) (by decide)
  · refine r_tblI (tgt := 536) hx hb dL_law_39 (by omega) (by omega) (by omega) (by rw [hs]; rfl) (by decide) ?_
    refine lv_aload_n hx hb dL_law_536 rfl (lv_at hl 3 rfl) ?_
    refine lv_aload_n hx hb dL_law_537 rfl (lv_at hl 4 rfl) ?_
    refine lv_iload hx hb dL_law_538 (lv_at hl 0 rfl) ?_
    refine r_iconst hx hb dL_law_540 ?_
    refine r_iadd (z := 1) hx hb dL_law_541 rfl ?_
    refine r_sld hx hb hX hbl hbA hw (by decide) (by omega) (by omega) ey1 dL_law_542 ?_
    refine g_cVi (wr := (WM τ a2 qm ++ [(a3, .inl (τ 1, 1, .inr (.inl (arL (fun _ => 0)))))])) (q0 := 0) (ci := 12) hx hb hml hC hA hw hl.1 (t_steps l D τ _ a1 qx ivx gvx fvx y1 (by omega) hf0) kX11_steps ml_L_74 [0, 1, 2, 3, 4, 5, 6, 7, 8, 9, 10, 11, 12, 13, 14, 15, 16, 17, 18, 19, 20, 21, 22, 23, 24, 25, 26, 27, 28, 29, 30, 31, 32, 33, 34, 35, 36, 37, 38, 39, 40, 41, 42, 43, 44, 45, 46, 47, 48, 49, 50, 51, 52, 53, 54, 55, 56, 57, 58, 59, 60, 61, 62, 63, 64, 65, 66, 67, 68, 69, 70, 71, 72, 73, 74, 75, 76, 77, 78, 79, 80, 81, 82, 83, 84, 85, 86] [87, 88, 89, 90, 91, 92, 93, 94, 95, 96, 97, 98, 99, 100, 101, 102, 103, 104, 105, 106, 107, 108, 109, 110, 111, 112, 113, 114, 115, 116, 117, 118, 119] rfl rfl (by decide) (by decide) (by decide) rfl rfl rfl rfl (Nat.le_of_ble_eq_true rfl) ⟨by decide, by decide⟩ ⟨by decide, by decide⟩ rfl rfl dL_law_543 (fun u1 w1 H locs hu1 hE1 hw => ?_)
    obtain ⟨hq1, rfl⟩ := hE1
    replace hw : wS D A s.heap (WM τ a2 qm ++ [(a3, .inl (τ 1, 1, .inr (.inl (arL (fun _ => 0)))))]) H locs := hw
    refine lv_aload_n hx hb dL_law_546 rfl (lv_at hl 2 rfl) ?_
    refine lv_aload_n hx hb dL_law_547 rfl (lv_at hl 4 rfl) ?_
    refine lv_iload hx hb dL_law_548 (lv_at hl 0 rfl) ?_
    refine r_iconst hx hb dL_law_550 ?_
    refine r_iadd (z := 1) hx hb dL_law_551 rfl ?_
    refine r_sld hx hb hX hbl hbA hw (by decide) (by omega) (by omega) ey1 dL_law_552 ?_
    refine g_cVi (wr := [(a3, .inl (τ 1, 1, .inr (.inl (arL (fun _ => 0)))))]) (q0 := 0) (ci := 13) hx hb hml hC hA hw hl.1 (um_steps l D τ _ a2 qm y1 (by omega)) kX12_steps ml_L_77 [0, 1, 2, 3, 4, 5, 6, 7, 8, 9, 10, 11, 12, 13, 14, 15, 16, 17, 18, 19, 20, 21, 22, 23, 24, 25, 26, 27, 28, 29, 30, 31] [32] rfl rfl (by decide) (by decide) (by decide) rfl rfl rfl rfl (Nat.le_of_ble_eq_true rfl) ⟨by decide, by decide⟩ ⟨by decide, by decide⟩ rfl rfl dL_law_553 (fun u2 w2 H locs hu2 hE2 hw => ?_)
    obtain ⟨hq2, rfl⟩ := hE2
    replace hw : wS D A s.heap [(a3, .inl (τ 1, 1, .inr (.inl (arL (fun _ => 0)))))] H locs := hw
    refine r_icmp_eq (tgt := 1331) hx hb dL_law_556 (by decide) (by omega) (by omega) (fun _ => ?_) (fun h => (by exfalso; omega))
    exact Lend _ H locs ls _ _ hL5 hw (lv_sub hl [0, 4] rfl) (by decide) (by decide)
  · refine r_tblI (tgt := 561) hx hb dL_law_39 (by omega) (by omega) (by omega) (by rw [hs]; rfl) (by decide) ?_
    refine lv_aload_n hx hb dL_law_561 rfl (lv_at hl 3 rfl) ?_
    refine lv_aload_n hx hb dL_law_562 rfl (lv_at hl 4 rfl) ?_
    refine lv_iload hx hb dL_law_563 (lv_at hl 0 rfl) ?_
    refine r_iconst hx hb dL_law_565 ?_
    refine r_iadd (z := 1) hx hb dL_law_566 rfl ?_
    refine r_sld hx hb hX hbl hbA hw (by decide) (by omega) (by omega) ey1 dL_law_567 ?_
    refine g_cVi (wr := (WM τ a2 qm ++ [(a3, .inl (τ 1, 1, .inr (.inl (arL (fun _ => 0)))))])) (q0 := 0) (ci := 12) hx hb hml hC hA hw hl.1 (t_turnsTo l D τ _ a1 qx ivx gvx fvx y1 (by omega)) kX11_turnsTo ml_L_78 [0, 1, 2, 3, 4, 5, 6, 7, 8, 9, 10, 11, 12, 13, 14, 15, 16, 17, 18, 19, 20, 21, 22, 23, 24, 25, 26, 27, 28, 29, 30, 31, 32, 33, 34, 35, 36, 37, 38, 39, 40, 41, 42, 43, 44, 45, 46, 47, 48, 49, 50, 51, 52, 53, 54, 55, 56, 57, 58, 59, 60, 61, 62, 63, 64, 65, 66, 67, 68, 69, 70, 71, 72, 73, 74, 75, 76, 77, 78, 79, 80, 81, 82, 83, 84, 85, 86] [87, 88, 89, 90, 91, 92, 93, 94, 95, 96, 97, 98, 99, 100, 101, 102, 103, 104, 105, 106, 107, 108, 109, 110, 111, 112, 113, 114, 115, 116, 117, 118, 119] rfl rfl (by decide) (by decide) (by decide) rfl rfl rfl rfl (Nat.le_of_ble_eq_true rfl) ⟨by decide, by decide⟩ ⟨by decide, by decide⟩ rfl rfl dL_law_568 (fun u1 w1 H locs hu1 hE1 hw => ?_)
    obtain ⟨hq1, rfl⟩ := hE1
    replace hw : wS D A s.heap (WM τ a2 qm ++ [(a3, .inl (τ 1, 1, .inr (.inl (arL (fun _ => 0)))))]) H locs := hw
    refine lv_aload_n hx hb dL_law_571 rfl (lv_at hl 2 rfl) ?_
    refine lv_aload_n hx hb dL_law_572 rfl (lv_at hl 4 rfl) ?_
    refine lv_iload hx hb dL_law_573 (lv_at hl 0 rfl) ?_
    refine r_iconst hx hb dL_law_575 ?_
    refine r_iadd (z := 1) hx hb dL_law_576 rfl ?_
    refine r_sld hx hb hX hbl hbA hw (by decide) (by omega) (by omega) ey1 dL_law_577 ?_
    refine g_cVi (wr := [(a3, .inl (τ 1, 1, .inr (.inl (arL (fun _ => 0)))))]) (q0 := 0) (ci := 13) hx hb hml hC hA hw hl.1 (um_turnsTo l D τ _ a2 qm y1 (by omega)) kX12_turnsTo ml_L_81 [0, 1, 2, 3, 4, 5, 6, 7, 8, 9, 10, 11, 12, 13, 14, 15, 16, 17, 18, 19, 20, 21, 22, 23, 24, 25, 26, 27, 28, 29, 30, 31] [32] rfl rfl (by decide) (by decide) (by decide) rfl rfl rfl rfl (Nat.le_of_ble_eq_true rfl) ⟨by decide, by decide⟩ ⟨by decide, by decide⟩ rfl rfl dL_law_578 (fun u2 w2 H locs hu2 hE2 hw => ?_)
    obtain ⟨hq2, rfl⟩ := hE2
    replace hw : wS D A s.heap [(a3, .inl (τ 1, 1, .inr (.inl (arL (fun _ => 0)))))] H locs := hw
    refine r_icmp_eq (tgt := 1331) hx hb dL_law_581 (by decide) (by omega) (by omega) (fun _ => ?_) (fun h => (by exfalso; omega))
    exact Lend _ H locs ls _ _ hL5 hw (lv_sub hl [0, 4] rfl) (by decide) (by decide)
  · refine r_tblI (tgt := 586) hx hb dL_law_39 (by omega) (by omega) (by omega) (by rw [hs]; rfl) (by decide) ?_
    refine lv_aload_n hx hb dL_law_586 rfl (lv_at hl 3 rfl) ?_
    refine lv_aload_n hx hb dL_law_587 rfl (lv_at hl 4 rfl) ?_
    refine lv_iload hx hb dL_law_588 (lv_at hl 0 rfl) ?_
    refine r_iconst hx hb dL_law_590 ?_
    refine r_iadd (z := 1) hx hb dL_law_591 rfl ?_
    refine r_sld hx hb hX hbl hbA hw (by decide) (by omega) (by omega) ey1 dL_law_592 ?_
    refine lv_aload_n hx hb dL_law_593 rfl (lv_at hl 4 rfl) ?_
    refine lv_iload hx hb dL_law_594 (lv_at hl 0 rfl) ?_
    refine r_iconst hx hb dL_law_596 ?_
    refine r_iadd (z := 2) hx hb dL_law_597 rfl ?_
    refine r_sld hx hb hX hbl hbA hw (by decide) (by omega) (by omega) ey2 dL_law_598 ?_
    refine g_cVi (wr := (WM τ a2 qm ++ [(a3, .inl (τ 1, 1, .inr (.inl (arL (fun _ => 0)))))])) (q0 := 0) (ci := 12) hx hb hml hC hA hw hl.1 (t_pushes l D τ _ a1 qx ivx gvx fvx y1 y2 (by omega) (by omega)) kX11_pushes ml_L_82 [0, 1, 2, 3, 4, 5, 6, 7, 8, 9, 10, 11, 12, 13, 14, 15, 16, 17, 18, 19, 20, 21, 22, 23, 24, 25, 26, 27, 28, 29, 30, 31, 32, 33, 34, 35, 36, 37, 38, 39, 40, 41, 42, 43, 44, 45, 46, 47, 48, 49, 50, 51, 52, 53, 54, 55, 56, 57, 58, 59, 60, 61, 62, 63, 64, 65, 66, 67, 68, 69, 70, 71, 72, 73, 74, 75, 76, 77, 78, 79, 80, 81, 82, 83, 84, 85, 86] [87, 88, 89, 90, 91, 92, 93, 94, 95, 96, 97, 98, 99, 100, 101, 102, 103, 104, 105, 106, 107, 108, 109, 110, 111, 112, 113, 114, 115, 116, 117, 118, 119] rfl rfl (by decide) (by decide) (by decide) rfl rfl rfl rfl (Nat.le_of_ble_eq_true rfl) ⟨by decide, by decide⟩ ⟨by decide, by decide⟩ rfl rfl dL_law_599 (fun u1 w1 H locs hu1 hE1 hw => ?_)
    obtain ⟨hq1, rfl⟩ := hE1
    replace hw : wS D A s.heap (WM τ a2 qm ++ [(a3, .inl (τ 1, 1, .inr (.inl (arL (fun _ => 0)))))]) H locs := hw
    refine lv_aload_n hx hb dL_law_602 rfl (lv_at hl 2 rfl) ?_
    refine lv_aload_n hx hb dL_law_603 rfl (lv_at hl 4 rfl) ?_
    refine lv_iload hx hb dL_law_604 (lv_at hl 0 rfl) ?_
    refine r_iconst hx hb dL_law_606 ?_
    refine r_iadd (z := 1) hx hb dL_law_607 rfl ?_
    refine r_sld hx hb hX hbl hbA hw (by decide) (by omega) (by omega) ey1 dL_law_608 ?_
    refine lv_aload_n hx hb dL_law_609 rfl (lv_at hl 4 rfl) ?_
    refine lv_iload hx hb dL_law_610 (lv_at hl 0 rfl) ?_
    refine r_iconst hx hb dL_law_612 ?_
    refine r_iadd (z := 2) hx hb dL_law_613 rfl ?_
    refine r_sld hx hb hX hbl hbA hw (by decide) (by omega) (by omega) ey2 dL_law_614 ?_
    refine g_cVi (wr := [(a3, .inl (τ 1, 1, .inr (.inl (arL (fun _ => 0)))))]) (q0 := 0) (ci := 13) hx hb hml hC hA hw hl.1 (um_pushes l D τ _ a2 qm y1 y2 (by omega) (by omega)) kX12_pushes ml_L_85 [0, 1, 2, 3, 4, 5, 6, 7, 8, 9, 10, 11, 12, 13, 14, 15, 16, 17, 18, 19, 20, 21, 22, 23, 24, 25, 26, 27, 28, 29, 30, 31] [32] rfl rfl (by decide) (by decide) (by decide) rfl rfl rfl rfl (Nat.le_of_ble_eq_true rfl) ⟨by decide, by decide⟩ ⟨by decide, by decide⟩ rfl rfl dL_law_615 (fun u2 w2 H locs hu2 hE2 hw => ?_)
    obtain ⟨hq2, rfl⟩ := hE2
    replace hw : wS D A s.heap [(a3, .inl (τ 1, 1, .inr (.inl (arL (fun _ => 0)))))] H locs := hw
    refine r_icmp_eq (tgt := 1331) hx hb dL_law_618 (by decide) (by omega) (by omega) (fun _ => ?_) (fun h => (by exfalso; omega))
    exact Lend _ H locs ls _ _ hL5 hw (lv_sub hl [0, 4] rfl) (by decide) (by decide)
  · refine r_tblI (tgt := 623) hx hb dL_law_39 (by omega) (by omega) (by omega) (by rw [hs]; rfl) (by decide) ?_
    refine lv_aload_n hx hb dL_law_623 rfl (lv_at hl 3 rfl) ?_
    refine lv_aload_n hx hb dL_law_624 rfl (lv_at hl 4 rfl) ?_
    refine lv_iload hx hb dL_law_625 (lv_at hl 0 rfl) ?_
    refine r_iconst hx hb dL_law_627 ?_
    refine r_iadd (z := 1) hx hb dL_law_628 rfl ?_
    refine r_sld hx hb hX hbl hbA hw (by decide) (by omega) (by omega) ey1 dL_law_629 ?_
    refine lv_aload_n hx hb dL_law_630 rfl (lv_at hl 4 rfl) ?_
    refine lv_iload hx hb dL_law_631 (lv_at hl 0 rfl) ?_
    refine r_iconst hx hb dL_law_633 ?_
    refine r_iadd (z := 2) hx hb dL_law_634 rfl ?_
    refine r_sld hx hb hX hbl hbA hw (by decide) (by omega) (by omega) ey2 dL_law_635 ?_
    refine g_cVi (wr := (WM τ a2 qm ++ [(a3, .inl (τ 1, 1, .inr (.inl (arL (fun _ => 0)))))])) (q0 := 0) (ci := 12) hx hb hml hC hA hw hl.1 (t_swaps l D τ _ a1 qx ivx gvx fvx y1 y2 (by omega) (by omega)) kX11_swaps ml_L_86 [0, 1, 2, 3, 4, 5, 6, 7, 8, 9, 10, 11, 12, 13, 14, 15, 16, 17, 18, 19, 20, 21, 22, 23, 24, 25, 26, 27, 28, 29, 30, 31, 32, 33, 34, 35, 36, 37, 38, 39, 40, 41, 42, 43, 44, 45, 46, 47, 48, 49, 50, 51, 52, 53, 54, 55, 56, 57, 58, 59, 60, 61, 62, 63, 64, 65, 66, 67, 68, 69, 70, 71, 72, 73, 74, 75, 76, 77, 78, 79, 80, 81, 82, 83, 84, 85, 86] [87, 88, 89, 90, 91, 92, 93, 94, 95, 96, 97, 98, 99, 100, 101, 102, 103, 104, 105, 106, 107, 108, 109, 110, 111, 112, 113, 114, 115, 116, 117, 118, 119] rfl rfl (by decide) (by decide) (by decide) rfl rfl rfl rfl (Nat.le_of_ble_eq_true rfl) ⟨by decide, by decide⟩ ⟨by decide, by decide⟩ rfl rfl dL_law_636 (fun u1 w1 H locs hu1 hE1 hw => ?_)
    obtain ⟨hq1, rfl⟩ := hE1
    replace hw : wS D A s.heap (WM τ a2 qm ++ [(a3, .inl (τ 1, 1, .inr (.inl (arL (fun _ => 0)))))]) H locs := hw
    refine lv_aload_n hx hb dL_law_639 rfl (lv_at hl 2 rfl) ?_
    refine lv_aload_n hx hb dL_law_640 rfl (lv_at hl 4 rfl) ?_
    refine lv_iload hx hb dL_law_641 (lv_at hl 0 rfl) ?_
    refine r_iconst hx hb dL_law_643 ?_
    refine r_iadd (z := 1) hx hb dL_law_644 rfl ?_
    refine r_sld hx hb hX hbl hbA hw (by decide) (by omega) (by omega) ey1 dL_law_645 ?_
    refine lv_aload_n hx hb dL_law_646 rfl (lv_at hl 4 rfl) ?_
    refine lv_iload hx hb dL_law_647 (lv_at hl 0 rfl) ?_
    refine r_iconst hx hb dL_law_649 ?_
    refine r_iadd (z := 2) hx hb dL_law_650 rfl ?_
    refine r_sld hx hb hX hbl hbA hw (by decide) (by omega) (by omega) ey2 dL_law_651 ?_
    refine g_cVi (wr := [(a3, .inl (τ 1, 1, .inr (.inl (arL (fun _ => 0)))))]) (q0 := 0) (ci := 13) hx hb hml hC hA hw hl.1 (um_swaps l D τ _ a2 qm y1 y2 (by omega) (by omega)) kX12_swaps ml_L_89 [0, 1, 2, 3, 4, 5, 6, 7, 8, 9, 10, 11, 12, 13, 14, 15, 16, 17, 18, 19, 20, 21, 22, 23, 24, 25, 26, 27, 28, 29, 30, 31] [32] rfl rfl (by decide) (by decide) (by decide) rfl rfl rfl rfl (Nat.le_of_ble_eq_true rfl) ⟨by decide, by decide⟩ ⟨by decide, by decide⟩ rfl rfl dL_law_652 (fun u2 w2 H locs hu2 hE2 hw => ?_)
    obtain ⟨hq2, rfl⟩ := hE2
    replace hw : wS D A s.heap [(a3, .inl (τ 1, 1, .inr (.inl (arL (fun _ => 0)))))] H locs := hw
    refine r_icmp_eq (tgt := 1331) hx hb dL_law_655 (by decide) (by omega) (by omega) (fun _ => ?_) (fun h => (by exfalso; omega))
    exact Lend _ H locs ls _ _ hL5 hw (lv_sub hl [0, 4] rfl) (by decide) (by decide)
  · refine r_tblI (tgt := 660) hx hb dL_law_39 (by omega) (by omega) (by omega) (by rw [hs]; rfl) (by decide) ?_
    refine lv_aload_n hx hb dL_law_660 rfl (lv_at hl 3 rfl) ?_
    refine g_cVi (wr := (WM τ a2 qm ++ [(a3, .inl (τ 1, 1, .inr (.inl (arL (fun _ => 0)))))])) (q0 := 0) (ci := 12) hx hb hml hC hA hw hl.1 (t_hour l D τ _ a1 qx ivx gvx fvx  ) kX11_hour ml_L_90 [0, 1, 2, 3, 4, 5, 6, 7, 8, 9, 10, 11, 12, 13, 14, 15, 16, 17, 18, 19, 20, 21, 22, 23, 24, 25, 26, 27, 28, 29, 30, 31, 32, 33, 34, 35, 36, 37, 38, 39, 40, 41, 42, 43, 44, 45, 46, 47, 48, 49, 50, 51, 52, 53, 54, 55, 56, 57, 58, 59, 60, 61, 62, 63, 64, 65, 66, 67, 68, 69, 70, 71, 72, 73, 74, 75, 76, 77, 78, 79, 80, 81, 82, 83, 84, 85, 86] [87, 88, 89, 90, 91, 92, 93, 94, 95, 96, 97, 98, 99, 100, 101, 102, 103, 104, 105, 106, 107, 108, 109, 110, 111, 112, 113, 114, 115, 116, 117, 118, 119] rfl rfl (by decide) (by decide) (by decide) rfl rfl rfl rfl (Nat.le_of_ble_eq_true rfl) ⟨by decide, by decide⟩ ⟨by decide, by decide⟩ rfl rfl dL_law_661 (fun u1 w1 H locs hu1 hE1 hw => ?_)
    obtain ⟨hq1, rfl⟩ := hE1
    replace hw : wS D A s.heap (WM τ a2 qm ++ [(a3, .inl (τ 1, 1, .inr (.inl (arL (fun _ => 0)))))]) H locs := hw
    refine lv_aload_n hx hb dL_law_664 rfl (lv_at hl 2 rfl) ?_
    refine g_cVi (wr := [(a3, .inl (τ 1, 1, .inr (.inl (arL (fun _ => 0)))))]) (q0 := 0) (ci := 13) hx hb hml hC hA hw hl.1 (um_hour l D τ _ a2 qm  ) kX12_hour ml_L_93 [0, 1, 2, 3, 4, 5, 6, 7, 8, 9, 10, 11, 12, 13, 14, 15, 16, 17, 18, 19, 20, 21, 22, 23, 24, 25, 26, 27, 28, 29, 30, 31] [32] rfl rfl (by decide) (by decide) (by decide) rfl rfl rfl rfl (Nat.le_of_ble_eq_true rfl) ⟨by decide, by decide⟩ ⟨by decide, by decide⟩ rfl rfl dL_law_665 (fun u2 w2 H locs hu2 hE2 hw => ?_)
    obtain ⟨hq2, rfl⟩ := hE2
    replace hw : wS D A s.heap [(a3, .inl (τ 1, 1, .inr (.inl (arL (fun _ => 0)))))] H locs := hw
    refine r_icmp_eq (tgt := 1331) hx hb dL_law_668 (by decide) (by omega) (by omega) (fun _ => ?_) (fun h => (by exfalso; omega))
    exact Lend _ H locs ls _ _ hL5 hw (lv_sub hl [0, 4] rfl) (by decide) (by decide)
  · refine r_tblI (tgt := 673) hx hb dL_law_39 (by omega) (by omega) (by omega) (by rw [hs]; rfl) (by decide) ?_
    refine lv_aload_n hx hb dL_law_673 rfl (lv_at hl 3 rfl) ?_
    refine g_cVi (wr := (WM τ a2 qm ++ [(a3, .inl (τ 1, 1, .inr (.inl (arL (fun _ => 0)))))])) (q0 := 0) (ci := 12) hx hb hml hC hA hw hl.1 (t_undo l D τ _ a1 qx ivx gvx fvx  ) kX11_undo ml_L_94 [0, 1, 2, 3, 4, 5, 6, 7, 8, 9, 10, 11, 12, 13, 14, 15, 16, 17, 18, 19, 20, 21, 22, 23, 24, 25, 26, 27, 28, 29, 30, 31, 32, 33, 34, 35, 36, 37, 38, 39, 40, 41, 42, 43, 44, 45, 46, 47, 48, 49, 50, 51, 52, 53, 54, 55, 56, 57, 58, 59, 60, 61, 62, 63, 64, 65, 66, 67, 68, 69, 70, 71, 72, 73, 74, 75, 76, 77, 78, 79, 80, 81, 82, 83, 84, 85, 86] [87, 88, 89, 90, 91, 92, 93, 94, 95, 96, 97, 98, 99, 100, 101, 102, 103, 104, 105, 106, 107, 108, 109, 110, 111, 112, 113, 114, 115, 116, 117, 118, 119] rfl rfl (by decide) (by decide) (by decide) rfl rfl rfl rfl (Nat.le_of_ble_eq_true rfl) ⟨by decide, by decide⟩ ⟨by decide, by decide⟩ rfl rfl dL_law_674 (fun u1 w1 H locs hu1 hE1 hw => ?_)
    obtain ⟨hq1, rfl⟩ := hE1
    replace hw : wS D A s.heap (WM τ a2 qm ++ [(a3, .inl (τ 1, 1, .inr (.inl (arL (fun _ => 0)))))]) H locs := hw
    refine lv_aload_n hx hb dL_law_677 rfl (lv_at hl 2 rfl) ?_
    refine g_cVi (wr := [(a3, .inl (τ 1, 1, .inr (.inl (arL (fun _ => 0)))))]) (q0 := 0) (ci := 13) hx hb hml hC hA hw hl.1 (um_undo l D τ _ a2 qm  ) kX12_undo ml_L_97 [0, 1, 2, 3, 4, 5, 6, 7, 8, 9, 10, 11, 12, 13, 14, 15, 16, 17, 18, 19, 20, 21, 22, 23, 24, 25, 26, 27, 28, 29, 30, 31] [32] rfl rfl (by decide) (by decide) (by decide) rfl rfl rfl rfl (Nat.le_of_ble_eq_true rfl) ⟨by decide, by decide⟩ ⟨by decide, by decide⟩ rfl rfl dL_law_678 (fun u2 w2 H locs hu2 hE2 hw => ?_)
    obtain ⟨hq2, rfl⟩ := hE2
    replace hw : wS D A s.heap [(a3, .inl (τ 1, 1, .inr (.inl (arL (fun _ => 0)))))] H locs := hw
    refine r_icmp_eq (tgt := 1331) hx hb dL_law_681 (by decide) (by omega) (by omega) (fun _ => ?_) (fun h => (by exfalso; omega))
    exact Lend _ H locs ls _ _ hL5 hw (lv_sub hl [0, 4] rfl) (by decide) (by decide)
  · refine r_tblI (tgt := 686) hx hb dL_law_39 (by omega) (by omega) (by omega) (by rw [hs]; rfl) (by decide) ?_
    refine lv_aload_n hx hb dL_law_686 rfl (lv_at hl 3 rfl) ?_
    refine g_cVi (wr := (WM τ a2 qm ++ [(a3, .inl (τ 1, 1, .inr (.inl (arL (fun _ => 0)))))])) (q0 := 0) (ci := 12) hx hb hml hC hA hw hl.1 (t_line l D τ _ a1 qx ivx gvx fvx  ) kX11_line ml_L_98 [0, 1, 2, 3, 4, 5, 6, 7, 8, 9, 10, 11, 12, 13, 14, 15, 16, 17, 18, 19, 20, 21, 22, 23, 24, 25, 26, 27, 28, 29, 30, 31, 32, 33, 34, 35, 36, 37, 38, 39, 40, 41, 42, 43, 44, 45, 46, 47, 48, 49, 50, 51, 52, 53, 54, 55, 56, 57, 58, 59, 60, 61, 62, 63, 64, 65, 66, 67, 68, 69, 70, 71, 72, 73, 74, 75, 76, 77, 78, 79, 80, 81, 82, 83, 84, 85, 86] [87, 88, 89, 90, 91, 92, 93, 94, 95, 96, 97, 98, 99, 100, 101, 102, 103, 104, 105, 106, 107, 108, 109, 110, 111, 112, 113, 114, 115, 116, 117, 118, 119] rfl rfl (by decide) (by decide) (by decide) rfl rfl rfl rfl (Nat.le_of_ble_eq_true rfl) ⟨by decide, by decide⟩ ⟨by decide, by decide⟩ rfl rfl dL_law_687 (fun u1 w1 H locs hu1 hE1 hw => ?_)
    obtain ⟨hq1, rfl⟩ := hE1
    replace hw : wS D A s.heap (WM τ a2 qm ++ [(a3, .inl (τ 1, 1, .inr (.inl (arL (fun _ => 0)))))]) H locs := hw
    refine lv_aload_n hx hb dL_law_690 rfl (lv_at hl 2 rfl) ?_
    refine g_cVi (wr := [(a3, .inl (τ 1, 1, .inr (.inl (arL (fun _ => 0)))))]) (q0 := 0) (ci := 13) hx hb hml hC hA hw hl.1 (um_line l D τ _ a2 qm  ) kX12_line ml_L_101 [0, 1, 2, 3, 4, 5, 6, 7, 8, 9, 10, 11, 12, 13, 14, 15, 16, 17, 18, 19, 20, 21, 22, 23, 24, 25, 26, 27, 28, 29, 30, 31] [32] rfl rfl (by decide) (by decide) (by decide) rfl rfl rfl rfl (Nat.le_of_ble_eq_true rfl) ⟨by decide, by decide⟩ ⟨by decide, by decide⟩ rfl rfl dL_law_691 (fun u2 w2 H locs hu2 hE2 hw => ?_)
    obtain ⟨hq2, rfl⟩ := hE2
    replace hw : wS D A s.heap [(a3, .inl (τ 1, 1, .inr (.inl (arL (fun _ => 0)))))] H locs := hw
    refine r_icmp_eq (tgt := 1331) hx hb dL_law_694 (by decide) (by omega) (by omega) (fun _ => ?_) (fun h => (by exfalso; omega))
    exact Lend _ H locs ls _ _ hL5 hw (lv_sub hl [0, 4] rfl) (by decide) (by decide)
  · refine r_tblI (tgt := 699) hx hb dL_law_39 (by omega) (by omega) (by omega) (by rw [hs]; rfl) (by decide) ?_
    refine lv_aload_n hx hb dL_law_699 rfl (lv_at hl 3 rfl) ?_
    refine lv_aload_n hx hb dL_law_700 rfl (lv_at hl 4 rfl) ?_
    refine lv_iload hx hb dL_law_701 (lv_at hl 0 rfl) ?_
    refine r_iconst hx hb dL_law_703 ?_
    refine r_iadd (z := 1) hx hb dL_law_704 rfl ?_
    refine r_sld hx hb hX hbl hbA hw (by decide) (by omega) (by omega) ey1 dL_law_705 ?_
    refine g_cVi (wr := (WM τ a2 qm ++ [(a3, .inl (τ 1, 1, .inr (.inl (arL (fun _ => 0)))))])) (q0 := 0) (ci := 12) hx hb hml hC hA hw hl.1 (t_ahead l D τ _ a1 qx ivx gvx fvx y1 (by omega)) kX11_ahead ml_L_102 [0, 1, 2, 3, 4, 5, 6, 7, 8, 9, 10, 11, 12, 13, 14, 15, 16, 17, 18, 19, 20, 21, 22, 23, 24, 25, 26, 27, 28, 29, 30, 31, 32, 33, 34, 35, 36, 37, 38, 39, 40, 41, 42, 43, 44, 45, 46, 47, 48, 49, 50, 51, 52, 53, 54, 55, 56, 57, 58, 59, 60, 61, 62, 63, 64, 65, 66, 67, 68, 69, 70, 71, 72, 73, 74, 75, 76, 77, 78, 79, 80, 81, 82, 83, 84, 85, 86] [87, 88, 89, 90, 91, 92, 93, 94, 95, 96, 97, 98, 99, 100, 101, 102, 103, 104, 105, 106, 107, 108, 109, 110, 111, 112, 113, 114, 115, 116, 117, 118, 119] rfl rfl (by decide) (by decide) (by decide) rfl rfl rfl rfl (Nat.le_of_ble_eq_true rfl) ⟨by decide, by decide⟩ ⟨by decide, by decide⟩ rfl rfl dL_law_706 (fun u1 w1 H locs hu1 hE1 hw => ?_)
    obtain ⟨hq1, rfl⟩ := hE1
    replace hw : wS D A s.heap (WM τ a2 qm ++ [(a3, .inl (τ 1, 1, .inr (.inl (arL (fun _ => 0)))))]) H locs := hw
    refine lv_aload_n hx hb dL_law_709 rfl (lv_at hl 2 rfl) ?_
    refine lv_aload_n hx hb dL_law_710 rfl (lv_at hl 4 rfl) ?_
    refine lv_iload hx hb dL_law_711 (lv_at hl 0 rfl) ?_
    refine r_iconst hx hb dL_law_713 ?_
    refine r_iadd (z := 1) hx hb dL_law_714 rfl ?_
    refine r_sld hx hb hX hbl hbA hw (by decide) (by omega) (by omega) ey1 dL_law_715 ?_
    refine g_cVi (wr := [(a3, .inl (τ 1, 1, .inr (.inl (arL (fun _ => 0)))))]) (q0 := 0) (ci := 13) hx hb hml hC hA hw hl.1 (um_ahead l D τ _ a2 qm y1 (by omega)) kX12_ahead ml_L_105 [0, 1, 2, 3, 4, 5, 6, 7, 8, 9, 10, 11, 12, 13, 14, 15, 16, 17, 18, 19, 20, 21, 22, 23, 24, 25, 26, 27, 28, 29, 30, 31] [32] rfl rfl (by decide) (by decide) (by decide) rfl rfl rfl rfl (Nat.le_of_ble_eq_true rfl) ⟨by decide, by decide⟩ ⟨by decide, by decide⟩ rfl rfl dL_law_716 (fun u2 w2 H locs hu2 hE2 hw => ?_)
    obtain ⟨hq2, rfl⟩ := hE2
    replace hw : wS D A s.heap [(a3, .inl (τ 1, 1, .inr (.inl (arL (fun _ => 0)))))] H locs := hw
    refine r_icmp_eq (tgt := 1331) hx hb dL_law_719 (by decide) (by omega) (by omega) (fun _ => ?_) (fun h => (by exfalso; omega))
    exact Lend _ H locs ls _ _ hL5 hw (lv_sub hl [0, 4] rfl) (by decide) (by decide)
  · refine r_tblI (tgt := 724) hx hb dL_law_39 (by omega) (by omega) (by omega) (by rw [hs]; rfl) (by decide) ?_
    refine lv_aload_n hx hb dL_law_724 rfl (lv_at hl 3 rfl) ?_
    refine lv_aload_n hx hb dL_law_725 rfl (lv_at hl 4 rfl) ?_
    refine lv_iload hx hb dL_law_726 (lv_at hl 0 rfl) ?_
    refine r_iconst hx hb dL_law_728 ?_
    refine r_iadd (z := 1) hx hb dL_law_729 rfl ?_
    refine r_sld hx hb hX hbl hbA hw (by decide) (by omega) (by omega) ey1 dL_law_730 ?_
    refine g_cVi (wr := (WM τ a2 qm ++ [(a3, .inl (τ 1, 1, .inr (.inl (arL (fun _ => 0)))))])) (q0 := 0) (ci := 12) hx hb hml hC hA hw hl.1 (t_arrives l D τ _ a1 qx ivx gvx fvx y1 (by omega)) kX11_arrives ml_L_106 [0, 1, 2, 3, 4, 5, 6, 7, 8, 9, 10, 11, 12, 13, 14, 15, 16, 17, 18, 19, 20, 21, 22, 23, 24, 25, 26, 27, 28, 29, 30, 31, 32, 33, 34, 35, 36, 37, 38, 39, 40, 41, 42, 43, 44, 45, 46, 47, 48, 49, 50, 51, 52, 53, 54, 55, 56, 57, 58, 59, 60, 61, 62, 63, 64, 65, 66, 67, 68, 69, 70, 71, 72, 73, 74, 75, 76, 77, 78, 79, 80, 81, 82, 83, 84, 85, 86] [87, 88, 89, 90, 91, 92, 93, 94, 95, 96, 97, 98, 99, 100, 101, 102, 103, 104, 105, 106, 107, 108, 109, 110, 111, 112, 113, 114, 115, 116, 117, 118, 119] rfl rfl (by decide) (by decide) (by decide) rfl rfl rfl rfl (Nat.le_of_ble_eq_true rfl) ⟨by decide, by decide⟩ ⟨by decide, by decide⟩ rfl rfl dL_law_731 (fun u1 w1 H locs hu1 hE1 hw => ?_)
    obtain ⟨hq1, rfl⟩ := hE1
    replace hw : wS D A s.heap (WM τ a2 qm ++ [(a3, .inl (τ 1, 1, .inr (.inl (arL (fun _ => 0)))))]) H locs := hw
    refine lv_aload_n hx hb dL_law_734 rfl (lv_at hl 2 rfl) ?_
    refine lv_aload_n hx hb dL_law_735 rfl (lv_at hl 4 rfl) ?_
    refine lv_iload hx hb dL_law_736 (lv_at hl 0 rfl) ?_
    refine r_iconst hx hb dL_law_738 ?_
    refine r_iadd (z := 1) hx hb dL_law_739 rfl ?_
    refine r_sld hx hb hX hbl hbA hw (by decide) (by omega) (by omega) ey1 dL_law_740 ?_
    refine g_cVi (wr := [(a3, .inl (τ 1, 1, .inr (.inl (arL (fun _ => 0)))))]) (q0 := 0) (ci := 13) hx hb hml hC hA hw hl.1 (um_arrives l D τ _ a2 qm y1 (by omega)) kX12_arrives ml_L_109 [0, 1, 2, 3, 4, 5, 6, 7, 8, 9, 10, 11, 12, 13, 14, 15, 16, 17, 18, 19, 20, 21, 22, 23, 24, 25, 26, 27, 28, 29, 30, 31] [32] rfl rfl (by decide) (by decide) (by decide) rfl rfl rfl rfl (Nat.le_of_ble_eq_true rfl) ⟨by decide, by decide⟩ ⟨by decide, by decide⟩ rfl rfl dL_law_741 (fun u2 w2 H locs hu2 hE2 hw => ?_)
    obtain ⟨hq2, rfl⟩ := hE2
    replace hw : wS D A s.heap [(a3, .inl (τ 1, 1, .inr (.inl (arL (fun _ => 0)))))] H locs := hw
    refine r_icmp_eq (tgt := 1331) hx hb dL_law_744 (by decide) (by omega) (by omega) (fun _ => ?_) (fun h => (by exfalso; omega))
    exact Lend _ H locs ls _ _ hL5 hw (lv_sub hl [0, 4] rfl) (by decide) (by decide)
  · refine r_tblI (tgt := 749) hx hb dL_law_39 (by omega) (by omega) (by omega) (by rw [hs]; rfl) (by decide) ?_
    refine lv_aload_n hx hb dL_law_749 rfl (lv_at hl 3 rfl) ?_
    refine lv_aload_n hx hb dL_law_750 rfl (lv_at hl 4 rfl) ?_
    refine lv_iload hx hb dL_law_751 (lv_at hl 0 rfl) ?_
    refine r_iconst hx hb dL_law_753 ?_
    refine r_iadd (z := 1) hx hb dL_law_754 rfl ?_
    refine r_sld hx hb hX hbl hbA hw (by decide) (by omega) (by omega) ey1 dL_law_755 ?_
    refine g_cVi (wr := (WM τ a2 qm ++ [(a3, .inl (τ 1, 1, .inr (.inl (arL (fun _ => 0)))))])) (q0 := 0) (ci := 12) hx hb hml hC hA hw hl.1 (t_jam l D τ _ a1 qx ivx gvx fvx y1 (by omega)) kX11_jam ml_L_110 [0, 1, 2, 3, 4, 5, 6, 7, 8, 9, 10, 11, 12, 13, 14, 15, 16, 17, 18, 19, 20, 21, 22, 23, 24, 25, 26, 27, 28, 29, 30, 31, 32, 33, 34, 35, 36, 37, 38, 39, 40, 41, 42, 43, 44, 45, 46, 47, 48, 49, 50, 51, 52, 53, 54, 55, 56, 57, 58, 59, 60, 61, 62, 63, 64, 65, 66, 67, 68, 69, 70, 71, 72, 73, 74, 75, 76, 77, 78, 79, 80, 81, 82, 83, 84, 85, 86] [87, 88, 89, 90, 91, 92, 93, 94, 95, 96, 97, 98, 99, 100, 101, 102, 103, 104, 105, 106, 107, 108, 109, 110, 111, 112, 113, 114, 115, 116, 117, 118, 119] rfl rfl (by decide) (by decide) (by decide) rfl rfl rfl rfl (Nat.le_of_ble_eq_true rfl) ⟨by decide, by decide⟩ ⟨by decide, by decide⟩ rfl rfl dL_law_756 (fun u1 w1 H locs hu1 hE1 hw => ?_)
    obtain ⟨hq1, rfl⟩ := hE1
    replace hw : wS D A s.heap (WM τ a2 qm ++ [(a3, .inl (τ 1, 1, .inr (.inl (arL (fun _ => 0)))))]) H locs := hw
    refine lv_aload_n hx hb dL_law_759 rfl (lv_at hl 2 rfl) ?_
    refine lv_aload_n hx hb dL_law_760 rfl (lv_at hl 4 rfl) ?_
    refine lv_iload hx hb dL_law_761 (lv_at hl 0 rfl) ?_
    refine r_iconst hx hb dL_law_763 ?_
    refine r_iadd (z := 1) hx hb dL_law_764 rfl ?_
    refine r_sld hx hb hX hbl hbA hw (by decide) (by omega) (by omega) ey1 dL_law_765 ?_
    refine g_cVi (wr := [(a3, .inl (τ 1, 1, .inr (.inl (arL (fun _ => 0)))))]) (q0 := 0) (ci := 13) hx hb hml hC hA hw hl.1 (um_jam l D τ _ a2 qm y1 (by omega)) kX12_jam ml_L_113 [0, 1, 2, 3, 4, 5, 6, 7, 8, 9, 10, 11, 12, 13, 14, 15, 16, 17, 18, 19, 20, 21, 22, 23, 24, 25, 26, 27, 28, 29, 30, 31] [32] rfl rfl (by decide) (by decide) (by decide) rfl rfl rfl rfl (Nat.le_of_ble_eq_true rfl) ⟨by decide, by decide⟩ ⟨by decide, by decide⟩ rfl rfl dL_law_766 (fun u2 w2 H locs hu2 hE2 hw => ?_)
    obtain ⟨hq2, rfl⟩ := hE2
    replace hw : wS D A s.heap [(a3, .inl (τ 1, 1, .inr (.inl (arL (fun _ => 0)))))] H locs := hw
    refine r_icmp_eq (tgt := 1331) hx hb dL_law_769 (by decide) (by omega) (by omega) (fun _ => ?_) (fun h => (by exfalso; omega))
    exact Lend _ H locs ls _ _ hL5 hw (lv_sub hl [0, 4] rfl) (by decide) (by decide)
  · refine r_tblI (tgt := 774) hx hb dL_law_39 (by omega) (by omega) (by omega) (by rw [hs]; rfl) (by decide) ?_
    refine lv_aload_n hx hb dL_law_774 rfl (lv_at hl 3 rfl) ?_
    refine lv_aload_n hx hb dL_law_775 rfl (lv_at hl 4 rfl) ?_
    refine lv_iload hx hb dL_law_776 (lv_at hl 0 rfl) ?_
    refine r_iconst hx hb dL_law_778 ?_
    refine r_iadd (z := 1) hx hb dL_law_779 rfl ?_
    refine r_sld hx hb hX hbl hbA hw (by decide) (by omega) (by omega) ey1 dL_law_780 ?_
    refine lv_aload_n hx hb dL_law_781 rfl (lv_at hl 4 rfl) ?_
    refine lv_iload hx hb dL_law_782 (lv_at hl 0 rfl) ?_
    refine r_iconst hx hb dL_law_784 ?_
    refine r_iadd (z := 2) hx hb dL_law_785 rfl ?_
    refine r_sld hx hb hX hbl hbA hw (by decide) (by omega) (by omega) ey2 dL_law_786 ?_
    refine g_cVi (wr := (WM τ a2 qm ++ [(a3, .inl (τ 1, 1, .inr (.inl (arL (fun _ => 0)))))])) (q0 := 0) (ci := 12) hx hb hml hC hA hw hl.1 (t_passes l D τ _ a1 qx ivx gvx fvx y1 y2 (by omega) (by omega)) kX11_passes ml_L_114 [0, 1, 2, 3, 4, 5, 6, 7, 8, 9, 10, 11, 12, 13, 14, 15, 16, 17, 18, 19, 20, 21, 22, 23, 24, 25, 26, 27, 28, 29, 30, 31, 32, 33, 34, 35, 36, 37, 38, 39, 40, 41, 42, 43, 44, 45, 46, 47, 48, 49, 50, 51, 52, 53, 54, 55, 56, 57, 58, 59, 60, 61, 62, 63, 64, 65, 66, 67, 68, 69, 70, 71, 72, 73, 74, 75, 76, 77, 78, 79, 80, 81, 82, 83, 84, 85, 86] [87, 88, 89, 90, 91, 92, 93, 94, 95, 96, 97, 98, 99, 100, 101, 102, 103, 104, 105, 106, 107, 108, 109, 110, 111, 112, 113, 114, 115, 116, 117, 118, 119] rfl rfl (by decide) (by decide) (by decide) rfl rfl rfl rfl (Nat.le_of_ble_eq_true rfl) ⟨by decide, by decide⟩ ⟨by decide, by decide⟩ rfl rfl dL_law_787 (fun u1 w1 H locs hu1 hE1 hw => ?_)
    obtain ⟨hq1, rfl⟩ := hE1
    replace hw : wS D A s.heap (WM τ a2 qm ++ [(a3, .inl (τ 1, 1, .inr (.inl (arL (fun _ => 0)))))]) H locs := hw
    refine lv_aload_n hx hb dL_law_790 rfl (lv_at hl 2 rfl) ?_
    refine lv_aload_n hx hb dL_law_791 rfl (lv_at hl 4 rfl) ?_
    refine lv_iload hx hb dL_law_792 (lv_at hl 0 rfl) ?_
    refine r_iconst hx hb dL_law_794 ?_
    refine r_iadd (z := 1) hx hb dL_law_795 rfl ?_
    refine r_sld hx hb hX hbl hbA hw (by decide) (by omega) (by omega) ey1 dL_law_796 ?_
    refine lv_aload_n hx hb dL_law_797 rfl (lv_at hl 4 rfl) ?_
    refine lv_iload hx hb dL_law_798 (lv_at hl 0 rfl) ?_
    refine r_iconst hx hb dL_law_800 ?_
    refine r_iadd (z := 2) hx hb dL_law_801 rfl ?_
    refine r_sld hx hb hX hbl hbA hw (by decide) (by omega) (by omega) ey2 dL_law_802 ?_
    refine g_cVi (wr := [(a3, .inl (τ 1, 1, .inr (.inl (arL (fun _ => 0)))))]) (q0 := 0) (ci := 13) hx hb hml hC hA hw hl.1 (um_passes l D τ _ a2 qm y1 y2 (by omega) (by omega)) kX12_passes ml_L_117 [0, 1, 2, 3, 4, 5, 6, 7, 8, 9, 10, 11, 12, 13, 14, 15, 16, 17, 18, 19, 20, 21, 22, 23, 24, 25, 26, 27, 28, 29, 30, 31] [32] rfl rfl (by decide) (by decide) (by decide) rfl rfl rfl rfl (Nat.le_of_ble_eq_true rfl) ⟨by decide, by decide⟩ ⟨by decide, by decide⟩ rfl rfl dL_law_803 (fun u2 w2 H locs hu2 hE2 hw => ?_)
    obtain ⟨hq2, rfl⟩ := hE2
    replace hw : wS D A s.heap [(a3, .inl (τ 1, 1, .inr (.inl (arL (fun _ => 0)))))] H locs := hw
    refine r_icmp_eq (tgt := 1331) hx hb dL_law_806 (by decide) (by omega) (by omega) (fun _ => ?_) (fun h => (by exfalso; omega))
    exact Lend _ H locs ls _ _ hL5 hw (lv_sub hl [0, 4] rfl) (by decide) (by decide)
  · refine r_tblI (tgt := 811) hx hb dL_law_39 (by omega) (by omega) (by omega) (by rw [hs]; rfl) (by decide) ?_
    refine lv_aload_n hx hb dL_law_811 rfl (lv_at hl 3 rfl) ?_
    refine lv_aload_n hx hb dL_law_812 rfl (lv_at hl 4 rfl) ?_
    refine lv_iload hx hb dL_law_813 (lv_at hl 0 rfl) ?_
    refine r_iconst hx hb dL_law_815 ?_
    refine r_iadd (z := 1) hx hb dL_law_816 rfl ?_
    refine r_sld hx hb hX hbl hbA hw (by decide) (by omega) (by omega) ey1 dL_law_817 ?_
    refine g_cVi (wr := (WM τ a2 qm ++ [(a3, .inl (τ 1, 1, .inr (.inl (arL (fun _ => 0)))))])) (q0 := 0) (ci := 12) hx hb hml hC hA hw hl.1 (t_ends l D τ _ a1 qx ivx gvx fvx y1 (by omega)) kX11_ends ml_L_118 [0, 1, 2, 3, 4, 5, 6, 7, 8, 9, 10, 11, 12, 13, 14, 15, 16, 17, 18, 19, 20, 21, 22, 23, 24, 25, 26, 27, 28, 29, 30, 31, 32, 33, 34, 35, 36, 37, 38, 39, 40, 41, 42, 43, 44, 45, 46, 47, 48, 49, 50, 51, 52, 53, 54, 55, 56, 57, 58, 59, 60, 61, 62, 63, 64, 65, 66, 67, 68, 69, 70, 71, 72, 73, 74, 75, 76, 77, 78, 79, 80, 81, 82, 83, 84, 85, 86] [87, 88, 89, 90, 91, 92, 93, 94, 95, 96, 97, 98, 99, 100, 101, 102, 103, 104, 105, 106, 107, 108, 109, 110, 111, 112, 113, 114, 115, 116, 117, 118, 119] rfl rfl (by decide) (by decide) (by decide) rfl rfl rfl rfl (Nat.le_of_ble_eq_true rfl) ⟨by decide, by decide⟩ ⟨by decide, by decide⟩ rfl rfl dL_law_818 (fun u1 w1 H locs hu1 hE1 hw => ?_)
    obtain ⟨hq1, rfl⟩ := hE1
    replace hw : wS D A s.heap (WM τ a2 qm ++ [(a3, .inl (τ 1, 1, .inr (.inl (arL (fun _ => 0)))))]) H locs := hw
    refine lv_aload_n hx hb dL_law_821 rfl (lv_at hl 2 rfl) ?_
    refine lv_aload_n hx hb dL_law_822 rfl (lv_at hl 4 rfl) ?_
    refine lv_iload hx hb dL_law_823 (lv_at hl 0 rfl) ?_
    refine r_iconst hx hb dL_law_825 ?_
    refine r_iadd (z := 1) hx hb dL_law_826 rfl ?_
    refine r_sld hx hb hX hbl hbA hw (by decide) (by omega) (by omega) ey1 dL_law_827 ?_
    refine g_cVi (wr := [(a3, .inl (τ 1, 1, .inr (.inl (arL (fun _ => 0)))))]) (q0 := 0) (ci := 13) hx hb hml hC hA hw hl.1 (um_ends l D τ _ a2 qm y1 (by omega)) kX12_ends ml_L_121 [0, 1, 2, 3, 4, 5, 6, 7, 8, 9, 10, 11, 12, 13, 14, 15, 16, 17, 18, 19, 20, 21, 22, 23, 24, 25, 26, 27, 28, 29, 30, 31] [32] rfl rfl (by decide) (by decide) (by decide) rfl rfl rfl rfl (Nat.le_of_ble_eq_true rfl) ⟨by decide, by decide⟩ ⟨by decide, by decide⟩ rfl rfl dL_law_828 (fun u2 w2 H locs hu2 hE2 hw => ?_)
    obtain ⟨hq2, rfl⟩ := hE2
    replace hw : wS D A s.heap [(a3, .inl (τ 1, 1, .inr (.inl (arL (fun _ => 0)))))] H locs := hw
    refine r_icmp_eq (tgt := 1331) hx hb dL_law_831 (by decide) (by omega) (by omega) (fun _ => ?_) (fun h => (by exfalso; omega))
    exact Lend _ H locs ls _ _ hL5 hw (lv_sub hl [0, 4] rfl) (by decide) (by decide)
  · refine r_tblI (tgt := 836) hx hb dL_law_39 (by omega) (by omega) (by omega) (by rw [hs]; rfl) (by decide) ?_
    refine lv_aload_n hx hb dL_law_836 rfl (lv_at hl 3 rfl) ?_
    refine g_cVi (wr := (WM τ a2 qm ++ [(a3, .inl (τ 1, 1, .inr (.inl (arL (fun _ => 0)))))])) (q0 := 0) (ci := 12) hx hb hml hC hA hw hl.1 (t_right l D τ _ a1 qx ivx gvx fvx  ) kX11_right ml_L_122 [0, 1, 2, 3, 4, 5, 6, 7, 8, 9, 10, 11, 12, 13, 14, 15, 16, 17, 18, 19, 20, 21, 22, 23, 24, 25, 26, 27, 28, 29, 30, 31, 32, 33, 34, 35, 36, 37, 38, 39, 40, 41, 42, 43, 44, 45, 46, 47, 48, 49, 50, 51, 52, 53, 54, 55, 56, 57, 58, 59, 60, 61, 62, 63, 64, 65, 66, 67, 68, 69, 70, 71, 72, 73, 74, 75, 76, 77, 78, 79, 80, 81, 82, 83, 84, 85, 86] [87, 88, 89, 90, 91, 92, 93, 94, 95, 96, 97, 98, 99, 100, 101, 102, 103, 104, 105, 106, 107, 108, 109, 110, 111, 112, 113, 114, 115, 116, 117, 118, 119] rfl rfl (by decide) (by decide) (by decide) rfl rfl rfl rfl (Nat.le_of_ble_eq_true rfl) ⟨by decide, by decide⟩ ⟨by decide, by decide⟩ rfl rfl dL_law_837 (fun u1 w1 H locs hu1 hE1 hw => ?_)
    obtain ⟨hq1, rfl⟩ := hE1
    replace hw : wS D A s.heap (WM τ a2 qm ++ [(a3, .inl (τ 1, 1, .inr (.inl (arL (fun _ => 0)))))]) H locs := hw
    refine lv_aload_n hx hb dL_law_840 rfl (lv_at hl 2 rfl) ?_
    refine g_cVi (wr := [(a3, .inl (τ 1, 1, .inr (.inl (arL (fun _ => 0)))))]) (q0 := 0) (ci := 13) hx hb hml hC hA hw hl.1 (um_right l D τ _ a2 qm  ) kX12_right ml_L_125 [0, 1, 2, 3, 4, 5, 6, 7, 8, 9, 10, 11, 12, 13, 14, 15, 16, 17, 18, 19, 20, 21, 22, 23, 24, 25, 26, 27, 28, 29, 30, 31] [32] rfl rfl (by decide) (by decide) (by decide) rfl rfl rfl rfl (Nat.le_of_ble_eq_true rfl) ⟨by decide, by decide⟩ ⟨by decide, by decide⟩ rfl rfl dL_law_841 (fun u2 w2 H locs hu2 hE2 hw => ?_)
    obtain ⟨hq2, rfl⟩ := hE2
    replace hw : wS D A s.heap [(a3, .inl (τ 1, 1, .inr (.inl (arL (fun _ => 0)))))] H locs := hw
    refine r_icmp_eq (tgt := 1331) hx hb dL_law_844 (by decide) (by omega) (by omega) (fun _ => ?_) (fun h => (by exfalso; omega))
    exact Lend _ H locs ls _ _ hL5 hw (lv_sub hl [0, 4] rfl) (by decide) (by decide)
  · refine r_tblI (tgt := 849) hx hb dL_law_39 (by omega) (by omega) (by omega) (by rw [hs]; rfl) (by decide) ?_
    refine lv_aload_n hx hb dL_law_849 rfl (lv_at hl 3 rfl) ?_
    refine g_cVi (wr := (WM τ a2 qm ++ [(a3, .inl (τ 1, 1, .inr (.inl (arL (fun _ => 0)))))])) (q0 := 0) (ci := 12) hx hb hml hC hA hw hl.1 (t_order l D τ _ a1 qx ivx gvx fvx  ) kX11_order ml_L_126 [0, 1, 2, 3, 4, 5, 6, 7, 8, 9, 10, 11, 12, 13, 14, 15, 16, 17, 18, 19, 20, 21, 22, 23, 24, 25, 26, 27, 28, 29, 30, 31, 32, 33, 34, 35, 36, 37, 38, 39, 40, 41, 42, 43, 44, 45, 46, 47, 48, 49, 50, 51, 52, 53, 54, 55, 56, 57, 58, 59, 60, 61, 62, 63, 64, 65, 66, 67, 68, 69, 70, 71, 72, 73, 74, 75, 76, 77, 78, 79, 80, 81, 82, 83, 84, 85, 86] [87, 88, 89, 90, 91, 92, 93, 94, 95, 96, 97, 98, 99, 100, 101, 102, 103, 104, 105, 106, 107, 108, 109, 110, 111, 112, 113, 114, 115, 116, 117, 118, 119] rfl rfl (by decide) (by decide) (by decide) rfl rfl rfl rfl (Nat.le_of_ble_eq_true rfl) ⟨by decide, by decide⟩ ⟨by decide, by decide⟩ rfl rfl dL_law_850 (fun u1 w1 H locs hu1 hE1 hw => ?_)
    obtain ⟨hq1, rfl⟩ := hE1
    replace hw : wS D A s.heap (WM τ a2 qm ++ [(a3, .inl (τ 1, 1, .inr (.inl (arL (fun _ => 0)))))]) H locs := hw
    refine lv_aload_n hx hb dL_law_853 rfl (lv_at hl 2 rfl) ?_
    refine g_cVi (wr := [(a3, .inl (τ 1, 1, .inr (.inl (arL (fun _ => 0)))))]) (q0 := 0) (ci := 13) hx hb hml hC hA hw hl.1 (um_order l D τ _ a2 qm  ) kX12_order ml_L_129 [0, 1, 2, 3, 4, 5, 6, 7, 8, 9, 10, 11, 12, 13, 14, 15, 16, 17, 18, 19, 20, 21, 22, 23, 24, 25, 26, 27, 28, 29, 30, 31] [32] rfl rfl (by decide) (by decide) (by decide) rfl rfl rfl rfl (Nat.le_of_ble_eq_true rfl) ⟨by decide, by decide⟩ ⟨by decide, by decide⟩ rfl rfl dL_law_854 (fun u2 w2 H locs hu2 hE2 hw => ?_)
    obtain ⟨hq2, rfl⟩ := hE2
    replace hw : wS D A s.heap [(a3, .inl (τ 1, 1, .inr (.inl (arL (fun _ => 0)))))] H locs := hw
    refine r_icmp_eq (tgt := 1331) hx hb dL_law_857 (by decide) (by omega) (by omega) (fun _ => ?_) (fun h => (by exfalso; omega))
    exact Lend _ H locs ls _ _ hL5 hw (lv_sub hl [0, 4] rfl) (by decide) (by decide)
  · refine r_tblI (tgt := 862) hx hb dL_law_39 (by omega) (by omega) (by omega) (by rw [hs]; rfl) (by decide) ?_
    refine lv_aload_n hx hb dL_law_862 rfl (lv_at hl 3 rfl) ?_
    refine lv_aload_n hx hb dL_law_863 rfl (lv_at hl 4 rfl) ?_
    refine lv_iload hx hb dL_law_864 (lv_at hl 0 rfl) ?_
    refine r_iconst hx hb dL_law_866 ?_
    refine r_iadd (z := 1) hx hb dL_law_867 rfl ?_
    refine r_sld hx hb hX hbl hbA hw (by decide) (by omega) (by omega) ey1 dL_law_868 ?_
    refine g_cVi (wr := (WM τ a2 qm ++ [(a3, .inl (τ 1, 1, .inr (.inl (arL (fun _ => 0)))))])) (q0 := 0) (ci := 12) hx hb hml hC hA hw hl.1 (t_stands l D τ _ a1 qx ivx gvx fvx y1 (by omega)) kX11_stands ml_L_130 [0, 1, 2, 3, 4, 5, 6, 7, 8, 9, 10, 11, 12, 13, 14, 15, 16, 17, 18, 19, 20, 21, 22, 23, 24, 25, 26, 27, 28, 29, 30, 31, 32, 33, 34, 35, 36, 37, 38, 39, 40, 41, 42, 43, 44, 45, 46, 47, 48, 49, 50, 51, 52, 53, 54, 55, 56, 57, 58, 59, 60, 61, 62, 63, 64, 65, 66, 67, 68, 69, 70, 71, 72, 73, 74, 75, 76, 77, 78, 79, 80, 81, 82, 83, 84, 85, 86] [87, 88, 89, 90, 91, 92, 93, 94, 95, 96, 97, 98, 99, 100, 101, 102, 103, 104, 105, 106, 107, 108, 109, 110, 111, 112, 113, 114, 115, 116, 117, 118, 119] rfl rfl (by decide) (by decide) (by decide) rfl rfl rfl rfl (Nat.le_of_ble_eq_true rfl) ⟨by decide, by decide⟩ ⟨by decide, by decide⟩ rfl rfl dL_law_869 (fun u1 w1 H locs hu1 hE1 hw => ?_)
    obtain ⟨hq1, rfl⟩ := hE1
    replace hw : wS D A s.heap (WM τ a2 qm ++ [(a3, .inl (τ 1, 1, .inr (.inl (arL (fun _ => 0)))))]) H locs := hw
    refine lv_aload_n hx hb dL_law_872 rfl (lv_at hl 2 rfl) ?_
    refine lv_aload_n hx hb dL_law_873 rfl (lv_at hl 4 rfl) ?_
    refine lv_iload hx hb dL_law_874 (lv_at hl 0 rfl) ?_
    refine r_iconst hx hb dL_law_876 ?_
    refine r_iadd (z := 1) hx hb dL_law_877 rfl ?_
    refine r_sld hx hb hX hbl hbA hw (by decide) (by omega) (by omega) ey1 dL_law_878 ?_
    refine g_cVi (wr := [(a3, .inl (τ 1, 1, .inr (.inl (arL (fun _ => 0)))))]) (q0 := 0) (ci := 13) hx hb hml hC hA hw hl.1 (um_stands l D τ _ a2 qm y1 (by omega)) kX12_stands ml_L_133 [0, 1, 2, 3, 4, 5, 6, 7, 8, 9, 10, 11, 12, 13, 14, 15, 16, 17, 18, 19, 20, 21, 22, 23, 24, 25, 26, 27, 28, 29, 30, 31] [32] rfl rfl (by decide) (by decide) (by decide) rfl rfl rfl rfl (Nat.le_of_ble_eq_true rfl) ⟨by decide, by decide⟩ ⟨by decide, by decide⟩ rfl rfl dL_law_879 (fun u2 w2 H locs hu2 hE2 hw => ?_)
    obtain ⟨hq2, rfl⟩ := hE2
    replace hw : wS D A s.heap [(a3, .inl (τ 1, 1, .inr (.inl (arL (fun _ => 0)))))] H locs := hw
    refine r_icmp_eq (tgt := 1331) hx hb dL_law_882 (by decide) (by omega) (by omega) (fun _ => ?_) (fun h => (by exfalso; omega))
    exact Lend _ H locs ls _ _ hL5 hw (lv_sub hl [0, 4] rfl) (by decide) (by decide)
  · refine r_tblI (tgt := 887) hx hb dL_law_39 (by omega) (by omega) (by omega) (by rw [hs]; rfl) (by decide) ?_
    refine lv_aload_n hx hb dL_law_887 rfl (lv_at hl 3 rfl) ?_
    refine lv_aload_n hx hb dL_law_888 rfl (lv_at hl 4 rfl) ?_
    refine lv_iload hx hb dL_law_889 (lv_at hl 0 rfl) ?_
    refine r_iconst hx hb dL_law_891 ?_
    refine r_iadd (z := 1) hx hb dL_law_892 rfl ?_
    refine r_sld hx hb hX hbl hbA hw (by decide) (by omega) (by omega) ey1 dL_law_893 ?_
    refine g_cVi (wr := (WM τ a2 qm ++ [(a3, .inl (τ 1, 1, .inr (.inl (arL (fun _ => 0)))))])) (q0 := 0) (ci := 12) hx hb hml hC hA hw hl.1 (t_when l D τ _ a1 qx ivx gvx fvx y1 (by omega)) kX11_when ml_L_134 [0, 1, 2, 3, 4, 5, 6, 7, 8, 9, 10, 11, 12, 13, 14, 15, 16, 17, 18, 19, 20, 21, 22, 23, 24, 25, 26, 27, 28, 29, 30, 31, 32, 33, 34, 35, 36, 37, 38, 39, 40, 41, 42, 43, 44, 45, 46, 47, 48, 49, 50, 51, 52, 53, 54, 55, 56, 57, 58, 59, 60, 61, 62, 63, 64, 65, 66, 67, 68, 69, 70, 71, 72, 73, 74, 75, 76, 77, 78, 79, 80, 81, 82, 83, 84, 85, 86] [87, 88, 89, 90, 91, 92, 93, 94, 95, 96, 97, 98, 99, 100, 101, 102, 103, 104, 105, 106, 107, 108, 109, 110, 111, 112, 113, 114, 115, 116, 117, 118, 119] rfl rfl (by decide) (by decide) (by decide) rfl rfl rfl rfl (Nat.le_of_ble_eq_true rfl) ⟨by decide, by decide⟩ ⟨by decide, by decide⟩ rfl rfl dL_law_894 (fun u1 w1 H locs hu1 hE1 hw => ?_)
    obtain ⟨hq1, rfl⟩ := hE1
    replace hw : wS D A s.heap (WM τ a2 qm ++ [(a3, .inl (τ 1, 1, .inr (.inl (arL (fun _ => 0)))))]) H locs := hw
    refine lv_aload_n hx hb dL_law_897 rfl (lv_at hl 2 rfl) ?_
    refine lv_aload_n hx hb dL_law_898 rfl (lv_at hl 4 rfl) ?_
    refine lv_iload hx hb dL_law_899 (lv_at hl 0 rfl) ?_
    refine r_iconst hx hb dL_law_901 ?_
    refine r_iadd (z := 1) hx hb dL_law_902 rfl ?_
    refine r_sld hx hb hX hbl hbA hw (by decide) (by omega) (by omega) ey1 dL_law_903 ?_
    refine g_cVi (wr := [(a3, .inl (τ 1, 1, .inr (.inl (arL (fun _ => 0)))))]) (q0 := 0) (ci := 13) hx hb hml hC hA hw hl.1 (um_when l D τ _ a2 qm y1 (by omega)) kX12_when ml_L_137 [0, 1, 2, 3, 4, 5, 6, 7, 8, 9, 10, 11, 12, 13, 14, 15, 16, 17, 18, 19, 20, 21, 22, 23, 24, 25, 26, 27, 28, 29, 30, 31] [32] rfl rfl (by decide) (by decide) (by decide) rfl rfl rfl rfl (Nat.le_of_ble_eq_true rfl) ⟨by decide, by decide⟩ ⟨by decide, by decide⟩ rfl rfl dL_law_904 (fun u2 w2 H locs hu2 hE2 hw => ?_)
    obtain ⟨hq2, rfl⟩ := hE2
    replace hw : wS D A s.heap [(a3, .inl (τ 1, 1, .inr (.inl (arL (fun _ => 0)))))] H locs := hw
    refine r_icmp_eq (tgt := 1331) hx hb dL_law_907 (by decide) (by omega) (by omega) (fun _ => ?_) (fun h => (by exfalso; omega))
    exact Lend _ H locs ls _ _ hL5 hw (lv_sub hl [0, 4] rfl) (by decide) (by decide)
  · refine r_tblI (tgt := 912) hx hb dL_law_39 (by omega) (by omega) (by omega) (by rw [hs]; rfl) (by decide) ?_
    refine lv_aload_n hx hb dL_law_912 rfl (lv_at hl 3 rfl) ?_
    refine lv_aload_n hx hb dL_law_913 rfl (lv_at hl 4 rfl) ?_
    refine lv_iload hx hb dL_law_914 (lv_at hl 0 rfl) ?_
    refine r_iconst hx hb dL_law_916 ?_
    refine r_iadd (z := 1) hx hb dL_law_917 rfl ?_
    refine r_sld hx hb hX hbl hbA hw (by decide) (by omega) (by omega) ey1 dL_law_918 ?_
    refine g_cVi (wr := (WM τ a2 qm ++ [(a3, .inl (τ 1, 1, .inr (.inl (arL (fun _ => 0)))))])) (q0 := 0) (ci := 12) hx hb hml hC hA hw hl.1 (t_mends l D τ _ a1 qx ivx gvx fvx y1 (by omega)) kX11_mends ml_L_138 [0, 1, 2, 3, 4, 5, 6, 7, 8, 9, 10, 11, 12, 13, 14, 15, 16, 17, 18, 19, 20, 21, 22, 23, 24, 25, 26, 27, 28, 29, 30, 31, 32, 33, 34, 35, 36, 37, 38, 39, 40, 41, 42, 43, 44, 45, 46, 47, 48, 49, 50, 51, 52, 53, 54, 55, 56, 57, 58, 59, 60, 61, 62, 63, 64, 65, 66, 67, 68, 69, 70, 71, 72, 73, 74, 75, 76, 77, 78, 79, 80, 81, 82, 83, 84, 85, 86] [87, 88, 89, 90, 91, 92, 93, 94, 95, 96, 97, 98, 99, 100, 101, 102, 103, 104, 105, 106, 107, 108, 109, 110, 111, 112, 113, 114, 115, 116, 117, 118, 119] rfl rfl (by decide) (by decide) (by decide) rfl rfl rfl rfl (Nat.le_of_ble_eq_true rfl) ⟨by decide, by decide⟩ ⟨by decide, by decide⟩ rfl rfl dL_law_919 (fun u1 w1 H locs hu1 hE1 hw => ?_)
    obtain ⟨hq1, rfl⟩ := hE1
    replace hw : wS D A s.heap (WM τ a2 qm ++ [(a3, .inl (τ 1, 1, .inr (.inl (arL (fun _ => 0)))))]) H locs := hw
    refine lv_aload_n hx hb dL_law_922 rfl (lv_at hl 2 rfl) ?_
    refine lv_aload_n hx hb dL_law_923 rfl (lv_at hl 4 rfl) ?_
    refine lv_iload hx hb dL_law_924 (lv_at hl 0 rfl) ?_
    refine r_iconst hx hb dL_law_926 ?_
    refine r_iadd (z := 1) hx hb dL_law_927 rfl ?_
    refine r_sld hx hb hX hbl hbA hw (by decide) (by omega) (by omega) ey1 dL_law_928 ?_
    refine g_cVi (wr := [(a3, .inl (τ 1, 1, .inr (.inl (arL (fun _ => 0)))))]) (q0 := 0) (ci := 13) hx hb hml hC hA hw hl.1 (um_mends l D τ _ a2 qm y1 (by omega)) kX12_mends ml_L_141 [0, 1, 2, 3, 4, 5, 6, 7, 8, 9, 10, 11, 12, 13, 14, 15, 16, 17, 18, 19, 20, 21, 22, 23, 24, 25, 26, 27, 28, 29, 30, 31] [32] rfl rfl (by decide) (by decide) (by decide) rfl rfl rfl rfl (Nat.le_of_ble_eq_true rfl) ⟨by decide, by decide⟩ ⟨by decide, by decide⟩ rfl rfl dL_law_929 (fun u2 w2 H locs hu2 hE2 hw => ?_)
    obtain ⟨hq2, rfl⟩ := hE2
    replace hw : wS D A s.heap [(a3, .inl (τ 1, 1, .inr (.inl (arL (fun _ => 0)))))] H locs := hw
    refine r_icmp_eq (tgt := 1331) hx hb dL_law_932 (by decide) (by omega) (by omega) (fun _ => ?_) (fun h => (by exfalso; omega))
    exact Lend _ H locs ls _ _ hL5 hw (lv_sub hl [0, 4] rfl) (by decide) (by decide)
  · refine r_tblI (tgt := 937) hx hb dL_law_39 (by omega) (by omega) (by omega) (by rw [hs]; rfl) (by decide) ?_
    refine lv_aload_n hx hb dL_law_937 rfl (lv_at hl 3 rfl) ?_
    refine g_cVi (wr := (WM τ a2 qm ++ [(a3, .inl (τ 1, 1, .inr (.inl (arL (fun _ => 0)))))])) (q0 := 0) (ci := 12) hx hb hml hC hA hw hl.1 (t_misleads l D τ _ a1 qx ivx gvx fvx  ) kX11_misleads ml_L_142 [0, 1, 2, 3, 4, 5, 6, 7, 8, 9, 10, 11, 12, 13, 14, 15, 16, 17, 18, 19, 20, 21, 22, 23, 24, 25, 26, 27, 28, 29, 30, 31, 32, 33, 34, 35, 36, 37, 38, 39, 40, 41, 42, 43, 44, 45, 46, 47, 48, 49, 50, 51, 52, 53, 54, 55, 56, 57, 58, 59, 60, 61, 62, 63, 64, 65, 66, 67, 68, 69, 70, 71, 72, 73, 74, 75, 76, 77, 78, 79, 80, 81, 82, 83, 84, 85, 86] [87, 88, 89, 90, 91, 92, 93, 94, 95, 96, 97, 98, 99, 100, 101, 102, 103, 104, 105, 106, 107, 108, 109, 110, 111, 112, 113, 114, 115, 116, 117, 118, 119] rfl rfl (by decide) (by decide) (by decide) rfl rfl rfl rfl (Nat.le_of_ble_eq_true rfl) ⟨by decide, by decide⟩ ⟨by decide, by decide⟩ rfl rfl dL_law_938 (fun u1 w1 H locs hu1 hE1 hw => ?_)
    obtain ⟨hq1, rfl⟩ := hE1
    replace hw : wS D A s.heap (WM τ a2 qm ++ [(a3, .inl (τ 1, 1, .inr (.inl (arL (fun _ => 0)))))]) H locs := hw
    refine lv_aload_n hx hb dL_law_941 rfl (lv_at hl 2 rfl) ?_
    refine g_cVi (wr := [(a3, .inl (τ 1, 1, .inr (.inl (arL (fun _ => 0)))))]) (q0 := 0) (ci := 13) hx hb hml hC hA hw hl.1 (um_misleads l D τ _ a2 qm  ) kX12_misleads ml_L_145 [0, 1, 2, 3, 4, 5, 6, 7, 8, 9, 10, 11, 12, 13, 14, 15, 16, 17, 18, 19, 20, 21, 22, 23, 24, 25, 26, 27, 28, 29, 30, 31] [32] rfl rfl (by decide) (by decide) (by decide) rfl rfl rfl rfl (Nat.le_of_ble_eq_true rfl) ⟨by decide, by decide⟩ ⟨by decide, by decide⟩ rfl rfl dL_law_942 (fun u2 w2 H locs hu2 hE2 hw => ?_)
    obtain ⟨hq2, rfl⟩ := hE2
    replace hw : wS D A s.heap [(a3, .inl (τ 1, 1, .inr (.inl (arL (fun _ => 0)))))] H locs := hw
    refine r_icmp_eq (tgt := 1331) hx hb dL_law_945 (by decide) (by omega) (by omega) (fun _ => ?_) (fun h => (by exfalso; omega))
    exact Lend _ H locs ls _ _ hL5 hw (lv_sub hl [0, 4] rfl) (by decide) (by decide)
  · refine r_tblI (tgt := 950) hx hb dL_law_39 (by omega) (by omega) (by omega) (by rw [hs]; rfl) (by decide) ?_
    refine lv_aload_n hx hb dL_law_950 rfl (lv_at hl 3 rfl) ?_
    refine g_cVi (wr := (WM τ a2 qm ++ [(a3, .inl (τ 1, 1, .inr (.inl (arL (fun _ => 0)))))])) (q0 := 0) (ci := 12) hx hb hml hC hA hw hl.1 (t_crowd l D τ _ a1 qx ivx gvx fvx  ) kX11_crowd ml_L_146 [0, 1, 2, 3, 4, 5, 6, 7, 8, 9, 10, 11, 12, 13, 14, 15, 16, 17, 18, 19, 20, 21, 22, 23, 24, 25, 26, 27, 28, 29, 30, 31, 32, 33, 34, 35, 36, 37, 38, 39, 40, 41, 42, 43, 44, 45, 46, 47, 48, 49, 50, 51, 52, 53, 54, 55, 56, 57, 58, 59, 60, 61, 62, 63, 64, 65, 66, 67, 68, 69, 70, 71, 72, 73, 74, 75, 76, 77, 78, 79, 80, 81, 82, 83, 84, 85, 86] [87, 88, 89, 90, 91, 92, 93, 94, 95, 96, 97, 98, 99, 100, 101, 102, 103, 104, 105, 106, 107, 108, 109, 110, 111, 112, 113, 114, 115, 116, 117, 118, 119] rfl rfl (by decide) (by decide) (by decide) rfl rfl rfl rfl (Nat.le_of_ble_eq_true rfl) ⟨by decide, by decide⟩ ⟨by decide, by decide⟩ rfl rfl dL_law_951 (fun u1 w1 H locs hu1 hE1 hw => ?_)
    obtain ⟨hq1, rfl⟩ := hE1
    replace hw : wS D A s.heap (WM τ a2 qm ++ [(a3, .inl (τ 1, 1, .inr (.inl (arL (fun _ => 0)))))]) H locs := hw
    refine lv_aload_n hx hb dL_law_954 rfl (lv_at hl 2 rfl) ?_
    refine g_cVi (wr := [(a3, .inl (τ 1, 1, .inr (.inl (arL (fun _ => 0)))))]) (q0 := 0) (ci := 13) hx hb hml hC hA hw hl.1 (um_crowd l D τ _ a2 qm  ) kX12_crowd ml_L_149 [0, 1, 2, 3, 4, 5, 6, 7, 8, 9, 10, 11, 12, 13, 14, 15, 16, 17, 18, 19, 20, 21, 22, 23, 24, 25, 26, 27, 28, 29, 30, 31] [32] rfl rfl (by decide) (by decide) (by decide) rfl rfl rfl rfl (Nat.le_of_ble_eq_true rfl) ⟨by decide, by decide⟩ ⟨by decide, by decide⟩ rfl rfl dL_law_955 (fun u2 w2 H locs hu2 hE2 hw => ?_)
    obtain ⟨hq2, rfl⟩ := hE2
    replace hw : wS D A s.heap [(a3, .inl (τ 1, 1, .inr (.inl (arL (fun _ => 0)))))] H locs := hw
    refine r_icmp_eq (tgt := 1331) hx hb dL_law_958 (by decide) (by omega) (by omega) (fun _ => ?_) (fun h => (by exfalso; omega))
    exact Lend _ H locs ls _ _ hL5 hw (lv_sub hl [0, 4] rfl) (by decide) (by decide)
  · refine r_tblI (tgt := 963) hx hb dL_law_39 (by omega) (by omega) (by omega) (by rw [hs]; rfl) (by decide) ?_
    refine lv_aload_n hx hb dL_law_963 rfl (lv_at hl 3 rfl) ?_
    refine lv_aload_n hx hb dL_law_964 rfl (lv_at hl 4 rfl) ?_
    refine lv_iload hx hb dL_law_965 (lv_at hl 0 rfl) ?_
    refine r_iconst hx hb dL_law_967 ?_
    refine r_iadd (z := 1) hx hb dL_law_968 rfl ?_
    refine r_sld hx hb hX hbl hbA hw (by decide) (by omega) (by omega) ey1 dL_law_969 ?_
    refine g_cVi (wr := (WM τ a2 qm ++ [(a3, .inl (τ 1, 1, .inr (.inl (arL (fun _ => 0)))))])) (q0 := 0) (ci := 12) hx hb hml hC hA hw hl.1 (t_shares l D τ _ a1 qx ivx gvx fvx y1 (by omega) hf1) kX11_shares ml_L_150 [0, 1, 2, 3, 4, 5, 6, 7, 8, 9, 10, 11, 12, 13, 14, 15, 16, 17, 18, 19, 20, 21, 22, 23, 24, 25, 26, 27, 28, 29, 30, 31, 32, 33, 34, 35, 36, 37, 38, 39, 40, 41, 42, 43, 44, 45, 46, 47, 48, 49, 50, 51, 52, 53, 54, 55, 56, 57, 58, 59, 60, 61, 62, 63, 64, 65, 66, 67, 68, 69, 70, 71, 72, 73, 74, 75, 76, 77, 78, 79, 80, 81, 82, 83, 84, 85, 86] [87, 88, 89, 90, 91, 92, 93, 94, 95, 96, 97, 98, 99, 100, 101, 102, 103, 104, 105, 106, 107, 108, 109, 110, 111, 112, 113, 114, 115, 116, 117, 118, 119] rfl rfl (by decide) (by decide) (by decide) rfl rfl rfl rfl (Nat.le_of_ble_eq_true rfl) ⟨by decide, by decide⟩ ⟨by decide, by decide⟩ rfl rfl dL_law_970 (fun u1 w1 H locs hu1 hE1 hw => ?_)
    obtain ⟨hq1, rfl⟩ := hE1
    replace hw : wS D A s.heap (WM τ a2 qm ++ [(a3, .inl (τ 1, 1, .inr (.inl (arL (fun _ => 0)))))]) H locs := hw
    refine lv_aload_n hx hb dL_law_973 rfl (lv_at hl 2 rfl) ?_
    refine lv_aload_n hx hb dL_law_974 rfl (lv_at hl 4 rfl) ?_
    refine lv_iload hx hb dL_law_975 (lv_at hl 0 rfl) ?_
    refine r_iconst hx hb dL_law_977 ?_
    refine r_iadd (z := 1) hx hb dL_law_978 rfl ?_
    refine r_sld hx hb hX hbl hbA hw (by decide) (by omega) (by omega) ey1 dL_law_979 ?_
    refine g_cVi (wr := [(a3, .inl (τ 1, 1, .inr (.inl (arL (fun _ => 0)))))]) (q0 := 0) (ci := 13) hx hb hml hC hA hw hl.1 (um_shares l D τ _ a2 qm y1 (by omega)) kX12_shares ml_L_153 [0, 1, 2, 3, 4, 5, 6, 7, 8, 9, 10, 11, 12, 13, 14, 15, 16, 17, 18, 19, 20, 21, 22, 23, 24, 25, 26, 27, 28, 29, 30, 31] [32] rfl rfl (by decide) (by decide) (by decide) rfl rfl rfl rfl (Nat.le_of_ble_eq_true rfl) ⟨by decide, by decide⟩ ⟨by decide, by decide⟩ rfl rfl dL_law_980 (fun u2 w2 H locs hu2 hE2 hw => ?_)
    obtain ⟨hq2, rfl⟩ := hE2
    replace hw : wS D A s.heap [(a3, .inl (τ 1, 1, .inr (.inl (arL (fun _ => 0)))))] H locs := hw
    refine r_icmp_eq (tgt := 1331) hx hb dL_law_983 (by decide) (by omega) (by omega) (fun _ => ?_) (fun h => (by exfalso; omega))
    exact Lend _ H locs ls _ _ hL5 hw (lv_sub hl [0, 4] rfl) (by decide) (by decide)
  · refine r_tblI (tgt := 988) hx hb dL_law_39 (by omega) (by omega) (by omega) (by rw [hs]; rfl) (by decide) ?_
    refine lv_aload_n hx hb dL_law_988 rfl (lv_at hl 3 rfl) ?_
    refine g_cVi (wr := (WM τ a2 qm ++ [(a3, .inl (τ 1, 1, .inr (.inl (arL (fun _ => 0)))))])) (q0 := 0) (ci := 12) hx hb hml hC hA hw hl.1 (t_strangers l D τ _ a1 qx ivx gvx fvx  ) kX11_strangers ml_L_154 [0, 1, 2, 3, 4, 5, 6, 7, 8, 9, 10, 11, 12, 13, 14, 15, 16, 17, 18, 19, 20, 21, 22, 23, 24, 25, 26, 27, 28, 29, 30, 31, 32, 33, 34, 35, 36, 37, 38, 39, 40, 41, 42, 43, 44, 45, 46, 47, 48, 49, 50, 51, 52, 53, 54, 55, 56, 57, 58, 59, 60, 61, 62, 63, 64, 65, 66, 67, 68, 69, 70, 71, 72, 73, 74, 75, 76, 77, 78, 79, 80, 81, 82, 83, 84, 85, 86] [87, 88, 89, 90, 91, 92, 93, 94, 95, 96, 97, 98, 99, 100, 101, 102, 103, 104, 105, 106, 107, 108, 109, 110, 111, 112, 113, 114, 115, 116, 117, 118, 119] rfl rfl (by decide) (by decide) (by decide) rfl rfl rfl rfl (Nat.le_of_ble_eq_true rfl) ⟨by decide, by decide⟩ ⟨by decide, by decide⟩ rfl rfl dL_law_989 (fun u1 w1 H locs hu1 hE1 hw => ?_)
    obtain ⟨hq1, rfl⟩ := hE1
    replace hw : wS D A s.heap (WM τ a2 qm ++ [(a3, .inl (τ 1, 1, .inr (.inl (arL (fun _ => 0)))))]) H locs := hw
    refine lv_aload_n hx hb dL_law_992 rfl (lv_at hl 2 rfl) ?_
    refine g_cVi (wr := [(a3, .inl (τ 1, 1, .inr (.inl (arL (fun _ => 0)))))]) (q0 := 0) (ci := 13) hx hb hml hC hA hw hl.1 (um_strangers l D τ _ a2 qm  ) kX12_strangers ml_L_157 [0, 1, 2, 3, 4, 5, 6, 7, 8, 9, 10, 11, 12, 13, 14, 15, 16, 17, 18, 19, 20, 21, 22, 23, 24, 25, 26, 27, 28, 29, 30, 31] [32] rfl rfl (by decide) (by decide) (by decide) rfl rfl rfl rfl (Nat.le_of_ble_eq_true rfl) ⟨by decide, by decide⟩ ⟨by decide, by decide⟩ rfl rfl dL_law_993 (fun u2 w2 H locs hu2 hE2 hw => ?_)
    obtain ⟨hq2, rfl⟩ := hE2
    replace hw : wS D A s.heap [(a3, .inl (τ 1, 1, .inr (.inl (arL (fun _ => 0)))))] H locs := hw
    refine r_icmp_eq (tgt := 1331) hx hb dL_law_996 (by decide) (by omega) (by omega) (fun _ => ?_) (fun h => (by exfalso; omega))
    exact Lend _ H locs ls _ _ hL5 hw (lv_sub hl [0, 4] rfl) (by decide) (by decide)
  · refine r_tblI (tgt := 1001) hx hb dL_law_39 (by omega) (by omega) (by omega) (by rw [hs]; rfl) (by decide) ?_
    refine lv_aload_n hx hb dL_law_1001 rfl (lv_at hl 3 rfl) ?_
    refine g_cVi (wr := (WM τ a2 qm ++ [(a3, .inl (τ 1, 1, .inr (.inl (arL (fun _ => 0)))))])) (q0 := 0) (ci := 12) hx hb hml hC hA hw hl.1 (t_doubts l D τ _ a1 qx ivx gvx fvx  ) kX11_doubts ml_L_158 [0, 1, 2, 3, 4, 5, 6, 7, 8, 9, 10, 11, 12, 13, 14, 15, 16, 17, 18, 19, 20, 21, 22, 23, 24, 25, 26, 27, 28, 29, 30, 31, 32, 33, 34, 35, 36, 37, 38, 39, 40, 41, 42, 43, 44, 45, 46, 47, 48, 49, 50, 51, 52, 53, 54, 55, 56, 57, 58, 59, 60, 61, 62, 63, 64, 65, 66, 67, 68, 69, 70, 71, 72, 73, 74, 75, 76, 77, 78, 79, 80, 81, 82, 83, 84, 85, 86] [87, 88, 89, 90, 91, 92, 93, 94, 95, 96, 97, 98, 99, 100, 101, 102, 103, 104, 105, 106, 107, 108, 109, 110, 111, 112, 113, 114, 115, 116, 117, 118, 119] rfl rfl (by decide) (by decide) (by decide) rfl rfl rfl rfl (Nat.le_of_ble_eq_true rfl) ⟨by decide, by decide⟩ ⟨by decide, by decide⟩ rfl rfl dL_law_1002 (fun u1 w1 H locs hu1 hE1 hw => ?_)
    obtain ⟨hq1, rfl⟩ := hE1
    replace hw : wS D A s.heap (WM τ a2 qm ++ [(a3, .inl (τ 1, 1, .inr (.inl (arL (fun _ => 0)))))]) H locs := hw
    refine lv_aload_n hx hb dL_law_1005 rfl (lv_at hl 2 rfl) ?_
    refine g_cVi (wr := [(a3, .inl (τ 1, 1, .inr (.inl (arL (fun _ => 0)))))]) (q0 := 0) (ci := 13) hx hb hml hC hA hw hl.1 (um_doubts l D τ _ a2 qm  ) kX12_doubts ml_L_161 [0, 1, 2, 3, 4, 5, 6, 7, 8, 9, 10, 11, 12, 13, 14, 15, 16, 17, 18, 19, 20, 21, 22, 23, 24, 25, 26, 27, 28, 29, 30, 31] [32] rfl rfl (by decide) (by decide) (by decide) rfl rfl rfl rfl (Nat.le_of_ble_eq_true rfl) ⟨by decide, by decide⟩ ⟨by decide, by decide⟩ rfl rfl dL_law_1006 (fun u2 w2 H locs hu2 hE2 hw => ?_)
    obtain ⟨hq2, rfl⟩ := hE2
    replace hw : wS D A s.heap [(a3, .inl (τ 1, 1, .inr (.inl (arL (fun _ => 0)))))] H locs := hw
    refine r_icmp_eq (tgt := 1331) hx hb dL_law_1009 (by decide) (by omega) (by omega) (fun _ => ?_) (fun h => (by exfalso; omega))
    exact Lend _ H locs ls _ _ hL5 hw (lv_sub hl [0, 4] rfl) (by decide) (by decide)
  · refine r_tblI (tgt := 1014) hx hb dL_law_39 (by omega) (by omega) (by omega) (by rw [hs]; rfl) (by decide) ?_
    refine lv_aload_n hx hb dL_law_1014 rfl (lv_at hl 3 rfl) ?_
    refine lv_aload_n hx hb dL_law_1015 rfl (lv_at hl 4 rfl) ?_
    refine lv_iload hx hb dL_law_1016 (lv_at hl 0 rfl) ?_
    refine r_iconst hx hb dL_law_1018 ?_
    refine r_iadd (z := 1) hx hb dL_law_1019 rfl ?_
    refine r_sld hx hb hX hbl hbA hw (by decide) (by omega) (by omega) ey1 dL_law_1020 ?_
    refine lv_aload_n hx hb dL_law_1021 rfl (lv_at hl 4 rfl) ?_
    refine lv_iload hx hb dL_law_1022 (lv_at hl 0 rfl) ?_
    refine r_iconst hx hb dL_law_1024 ?_
    refine r_iadd (z := 2) hx hb dL_law_1025 rfl ?_
    refine r_sld hx hb hX hbl hbA hw (by decide) (by omega) (by omega) ey2 dL_law_1026 ?_
    refine g_cVi (wr := (WM τ a2 qm ++ [(a3, .inl (τ 1, 1, .inr (.inl (arL (fun _ => 0)))))])) (q0 := 0) (ci := 12) hx hb hml hC hA hw hl.1 (t_heard l D τ _ a1 qx ivx gvx fvx y1 y2 (by omega) (by omega)) kX11_heard ml_L_162 [0, 1, 2, 3, 4, 5, 6, 7, 8, 9, 10, 11, 12, 13, 14, 15, 16, 17, 18, 19, 20, 21, 22, 23, 24, 25, 26, 27, 28, 29, 30, 31, 32, 33, 34, 35, 36, 37, 38, 39, 40, 41, 42, 43, 44, 45, 46, 47, 48, 49, 50, 51, 52, 53, 54, 55, 56, 57, 58, 59, 60, 61, 62, 63, 64, 65, 66, 67, 68, 69, 70, 71, 72, 73, 74, 75, 76, 77, 78, 79, 80, 81, 82, 83, 84, 85, 86] [87, 88, 89, 90, 91, 92, 93, 94, 95, 96, 97, 98, 99, 100, 101, 102, 103, 104, 105, 106, 107, 108, 109, 110, 111, 112, 113, 114, 115, 116, 117, 118, 119] rfl rfl (by decide) (by decide) (by decide) rfl rfl rfl rfl (Nat.le_of_ble_eq_true rfl) ⟨by decide, by decide⟩ ⟨by decide, by decide⟩ rfl rfl dL_law_1027 (fun u1 w1 H locs hu1 hE1 hw => ?_)
    obtain ⟨hq1, rfl⟩ := hE1
    replace hw : wS D A s.heap (WM τ a2 qm ++ [(a3, .inl (τ 1, 1, .inr (.inl (arL (fun _ => 0)))))]) H locs := hw
    refine lv_aload_n hx hb dL_law_1030 rfl (lv_at hl 2 rfl) ?_
    refine lv_aload_n hx hb dL_law_1031 rfl (lv_at hl 4 rfl) ?_
    refine lv_iload hx hb dL_law_1032 (lv_at hl 0 rfl) ?_
    refine r_iconst hx hb dL_law_1034 ?_
    refine r_iadd (z := 1) hx hb dL_law_1035 rfl ?_
    refine r_sld hx hb hX hbl hbA hw (by decide) (by omega) (by omega) ey1 dL_law_1036 ?_
    refine lv_aload_n hx hb dL_law_1037 rfl (lv_at hl 4 rfl) ?_
    refine lv_iload hx hb dL_law_1038 (lv_at hl 0 rfl) ?_
    refine r_iconst hx hb dL_law_1040 ?_
    refine r_iadd (z := 2) hx hb dL_law_1041 rfl ?_
    refine r_sld hx hb hX hbl hbA hw (by decide) (by omega) (by omega) ey2 dL_law_1042 ?_
    refine g_cVi (wr := [(a3, .inl (τ 1, 1, .inr (.inl (arL (fun _ => 0)))))]) (q0 := 0) (ci := 13) hx hb hml hC hA hw hl.1 (um_heard l D τ _ a2 qm y1 y2 (by omega) (by omega)) kX12_heard ml_L_165 [0, 1, 2, 3, 4, 5, 6, 7, 8, 9, 10, 11, 12, 13, 14, 15, 16, 17, 18, 19, 20, 21, 22, 23, 24, 25, 26, 27, 28, 29, 30, 31] [32] rfl rfl (by decide) (by decide) (by decide) rfl rfl rfl rfl (Nat.le_of_ble_eq_true rfl) ⟨by decide, by decide⟩ ⟨by decide, by decide⟩ rfl rfl dL_law_1043 (fun u2 w2 H locs hu2 hE2 hw => ?_)
    obtain ⟨hq2, rfl⟩ := hE2
    replace hw : wS D A s.heap [(a3, .inl (τ 1, 1, .inr (.inl (arL (fun _ => 0)))))] H locs := hw
    refine r_icmp_eq (tgt := 1331) hx hb dL_law_1046 (by decide) (by omega) (by omega) (fun _ => ?_) (fun h => (by exfalso; omega))
    exact Lend _ H locs ls _ _ hL5 hw (lv_sub hl [0, 4] rfl) (by decide) (by decide)
  · refine r_tblI (tgt := 1051) hx hb dL_law_39 (by omega) (by omega) (by omega) (by rw [hs]; rfl) (by decide) ?_
    refine lv_aload_n hx hb dL_law_1051 rfl (lv_at hl 3 rfl) ?_
    refine g_cVi (wr := (WM τ a2 qm ++ [(a3, .inl (τ 1, 1, .inr (.inl (arL (fun _ => 0)))))])) (q0 := 0) (ci := 12) hx hb hml hC hA hw hl.1 (t_forget l D τ _ a1 qx ivx gvx fvx  ) kX11_forget ml_L_166 [0, 1, 2, 3, 4, 5, 6, 7, 8, 9, 10, 11, 12, 13, 14, 15, 16, 17, 18, 19, 20, 21, 22, 23, 24, 25, 26, 27, 28, 29, 30, 31, 32, 33, 34, 35, 36, 37, 38, 39, 40, 41, 42, 43, 44, 45, 46, 47, 48, 49, 50, 51, 52, 53, 54, 55, 56, 57, 58, 59, 60, 61, 62, 63, 64, 65, 66, 67, 68, 69, 70, 71, 72, 73, 74, 75, 76, 77, 78, 79, 80, 81, 82, 83, 84, 85, 86] [87, 88, 89, 90, 91, 92, 93, 94, 95, 96, 97, 98, 99, 100, 101, 102, 103, 104, 105, 106, 107, 108, 109, 110, 111, 112, 113, 114, 115, 116, 117, 118, 119] rfl rfl (by decide) (by decide) (by decide) rfl rfl rfl rfl (Nat.le_of_ble_eq_true rfl) ⟨by decide, by decide⟩ ⟨by decide, by decide⟩ rfl rfl dL_law_1052 (fun u1 w1 H locs hu1 hE1 hw => ?_)
    obtain ⟨hq1, rfl⟩ := hE1
    replace hw : wS D A s.heap (WM τ a2 qm ++ [(a3, .inl (τ 1, 1, .inr (.inl (arL (fun _ => 0)))))]) H locs := hw
    refine lv_aload_n hx hb dL_law_1055 rfl (lv_at hl 2 rfl) ?_
    refine g_cVi (wr := [(a3, .inl (τ 1, 1, .inr (.inl (arL (fun _ => 0)))))]) (q0 := 0) (ci := 13) hx hb hml hC hA hw hl.1 (um_forget l D τ _ a2 qm  ) kX12_forget ml_L_169 [0, 1, 2, 3, 4, 5, 6, 7, 8, 9, 10, 11, 12, 13, 14, 15, 16, 17, 18, 19, 20, 21, 22, 23, 24, 25, 26, 27, 28, 29, 30, 31] [32] rfl rfl (by decide) (by decide) (by decide) rfl rfl rfl rfl (Nat.le_of_ble_eq_true rfl) ⟨by decide, by decide⟩ ⟨by decide, by decide⟩ rfl rfl dL_law_1056 (fun u2 w2 H locs hu2 hE2 hw => ?_)
    obtain ⟨hq2, rfl⟩ := hE2
    replace hw : wS D A s.heap [(a3, .inl (τ 1, 1, .inr (.inl (arL (fun _ => 0)))))] H locs := hw
    refine r_icmp_eq (tgt := 1331) hx hb dL_law_1059 (by decide) (by omega) (by omega) (fun _ => ?_) (fun h => (by exfalso; omega))
    exact Lend _ H locs ls _ _ hL5 hw (lv_sub hl [0, 4] rfl) (by decide) (by decide)
  · refine r_tblI (tgt := 1064) hx hb dL_law_39 (by omega) (by omega) (by omega) (by rw [hs]; rfl) (by decide) ?_
    refine lv_aload_n hx hb dL_law_1064 rfl (lv_at hl 3 rfl) ?_
    refine g_cVi (wr := (WM τ a2 qm ++ [(a3, .inl (τ 1, 1, .inr (.inl (arL (fun _ => 0)))))])) (q0 := 0) (ci := 12) hx hb hml hC hA hw hl.1 (t_fits l D τ _ a1 qx ivx gvx fvx  ) kX11_fits ml_L_170 [0, 1, 2, 3, 4, 5, 6, 7, 8, 9, 10, 11, 12, 13, 14, 15, 16, 17, 18, 19, 20, 21, 22, 23, 24, 25, 26, 27, 28, 29, 30, 31, 32, 33, 34, 35, 36, 37, 38, 39, 40, 41, 42, 43, 44, 45, 46, 47, 48, 49, 50, 51, 52, 53, 54, 55, 56, 57, 58, 59, 60, 61, 62, 63, 64, 65, 66, 67, 68, 69, 70, 71, 72, 73, 74, 75, 76, 77, 78, 79, 80, 81, 82, 83, 84, 85, 86] [87, 88, 89, 90, 91, 92, 93, 94, 95, 96, 97, 98, 99, 100, 101, 102, 103, 104, 105, 106, 107, 108, 109, 110, 111, 112, 113, 114, 115, 116, 117, 118, 119] rfl rfl (by decide) (by decide) (by decide) rfl rfl rfl rfl (Nat.le_of_ble_eq_true rfl) ⟨by decide, by decide⟩ ⟨by decide, by decide⟩ rfl rfl dL_law_1065 (fun u1 w1 H locs hu1 hE1 hw => ?_)
    obtain ⟨hq1, rfl⟩ := hE1
    replace hw : wS D A s.heap (WM τ a2 qm ++ [(a3, .inl (τ 1, 1, .inr (.inl (arL (fun _ => 0)))))]) H locs := hw
    refine lv_aload_n hx hb dL_law_1068 rfl (lv_at hl 2 rfl) ?_
    refine g_cVi (wr := [(a3, .inl (τ 1, 1, .inr (.inl (arL (fun _ => 0)))))]) (q0 := 0) (ci := 13) hx hb hml hC hA hw hl.1 (um_fits l D τ _ a2 qm  ) kX12_fits ml_L_173 [0, 1, 2, 3, 4, 5, 6, 7, 8, 9, 10, 11, 12, 13, 14, 15, 16, 17, 18, 19, 20, 21, 22, 23, 24, 25, 26, 27, 28, 29, 30, 31] [32] rfl rfl (by decide) (by decide) (by decide) rfl rfl rfl rfl (Nat.le_of_ble_eq_true rfl) ⟨by decide, by decide⟩ ⟨by decide, by decide⟩ rfl rfl dL_law_1069 (fun u2 w2 H locs hu2 hE2 hw => ?_)
    obtain ⟨hq2, rfl⟩ := hE2
    replace hw : wS D A s.heap [(a3, .inl (τ 1, 1, .inr (.inl (arL (fun _ => 0)))))] H locs := hw
    refine r_icmp_eq (tgt := 1331) hx hb dL_law_1072 (by decide) (by omega) (by omega) (fun _ => ?_) (fun h => (by exfalso; omega))
    exact Lend _ H locs ls _ _ hL5 hw (lv_sub hl [0, 4] rfl) (by decide) (by decide)
  · refine r_tblI (tgt := 1077) hx hb dL_law_39 (by omega) (by omega) (by omega) (by rw [hs]; rfl) (by decide) ?_
    refine lv_aload_n hx hb dL_law_1077 rfl (lv_at hl 3 rfl) ?_
    refine lv_aload_n hx hb dL_law_1078 rfl (lv_at hl 4 rfl) ?_
    refine lv_iload hx hb dL_law_1079 (lv_at hl 0 rfl) ?_
    refine r_iconst hx hb dL_law_1081 ?_
    refine r_iadd (z := 1) hx hb dL_law_1082 rfl ?_
    refine r_sld hx hb hX hbl hbA hw (by decide) (by omega) (by omega) ey1 dL_law_1083 ?_
    refine lv_aload_n hx hb dL_law_1084 rfl (lv_at hl 4 rfl) ?_
    refine lv_iload hx hb dL_law_1085 (lv_at hl 0 rfl) ?_
    refine r_iconst hx hb dL_law_1087 ?_
    refine r_iadd (z := 2) hx hb dL_law_1088 rfl ?_
    refine r_sld hx hb hX hbl hbA hw (by decide) (by omega) (by omega) ey2 dL_law_1089 ?_
    refine lv_aload_n hx hb dL_law_1090 rfl (lv_at hl 4 rfl) ?_
    refine lv_iload hx hb dL_law_1091 (lv_at hl 0 rfl) ?_
    refine r_iconst hx hb dL_law_1093 ?_
    refine r_iadd (z := 3) hx hb dL_law_1094 rfl ?_
    refine r_sld hx hb hX hbl hbA hw (by decide) (by omega) (by omega) ey3 dL_law_1095 ?_
    refine g_cVi (wr := (WM τ a2 qm ++ [(a3, .inl (τ 1, 1, .inr (.inl (arL (fun _ => 0)))))])) (q0 := 0) (ci := 12) hx hb hml hC hA hw hl.1 (t_rains l D τ _ a1 qx ivx gvx fvx y1 y2 y3 (by omega) (by omega) (by omega)) kX11_rains ml_L_174 [0, 1, 2, 3, 4, 5, 6, 7, 8, 9, 10, 11, 12, 13, 14, 15, 16, 17, 18, 19, 20, 21, 22, 23, 24, 25, 26, 27, 28, 29, 30, 31, 32, 33, 34, 35, 36, 37, 38, 39, 40, 41, 42, 43, 44, 45, 46, 47, 48, 49, 50, 51, 52, 53, 54, 55, 56, 57, 58, 59, 60, 61, 62, 63, 64, 65, 66, 67, 68, 69, 70, 71, 72, 73, 74, 75, 76, 77, 78, 79, 80, 81, 82, 83, 84, 85, 86] [87, 88, 89, 90, 91, 92, 93, 94, 95, 96, 97, 98, 99, 100, 101, 102, 103, 104, 105, 106, 107, 108, 109, 110, 111, 112, 113, 114, 115, 116, 117, 118, 119] rfl rfl (by decide) (by decide) (by decide) rfl rfl rfl rfl (Nat.le_of_ble_eq_true rfl) ⟨by decide, by decide⟩ ⟨by decide, by decide⟩ rfl rfl dL_law_1096 (fun u1 w1 H locs hu1 hE1 hw => ?_)
    obtain ⟨hq1, rfl⟩ := hE1
    replace hw : wS D A s.heap (WM τ a2 qm ++ [(a3, .inl (τ 1, 1, .inr (.inl (arL (fun _ => 0)))))]) H locs := hw
    refine lv_aload_n hx hb dL_law_1099 rfl (lv_at hl 2 rfl) ?_
    refine lv_aload_n hx hb dL_law_1100 rfl (lv_at hl 4 rfl) ?_
    refine lv_iload hx hb dL_law_1101 (lv_at hl 0 rfl) ?_
    refine r_iconst hx hb dL_law_1103 ?_
    refine r_iadd (z := 1) hx hb dL_law_1104 rfl ?_
    refine r_sld hx hb hX hbl hbA hw (by decide) (by omega) (by omega) ey1 dL_law_1105 ?_
    refine lv_aload_n hx hb dL_law_1106 rfl (lv_at hl 4 rfl) ?_
    refine lv_iload hx hb dL_law_1107 (lv_at hl 0 rfl) ?_
    refine r_iconst hx hb dL_law_1109 ?_
    refine r_iadd (z := 2) hx hb dL_law_1110 rfl ?_
    refine r_sld hx hb hX hbl hbA hw (by decide) (by omega) (by omega) ey2 dL_law_1111 ?_
    refine lv_aload_n hx hb dL_law_1112 rfl (lv_at hl 4 rfl) ?_
    refine lv_iload hx hb dL_law_1113 (lv_at hl 0 rfl) ?_
    refine r_iconst hx hb dL_law_1115 ?_
    refine r_iadd (z := 3) hx hb dL_law_1116 rfl ?_
    refine r_sld hx hb hX hbl hbA hw (by decide) (by omega) (by omega) ey3 dL_law_1117 ?_
    refine g_cVi (wr := [(a3, .inl (τ 1, 1, .inr (.inl (arL (fun _ => 0)))))]) (q0 := 0) (ci := 13) hx hb hml hC hA hw hl.1 (um_rains l D τ _ a2 qm y1 y2 y3 (by omega) (by omega) (by omega)) kX12_rains ml_L_178 [0, 1, 2, 3, 4, 5, 6, 7, 8, 9, 10, 11, 12, 13, 14, 15, 16, 17, 18, 19, 20, 21, 22, 23, 24, 25, 26, 27, 28, 29, 30, 31] [32] rfl rfl (by decide) (by decide) (by decide) rfl rfl rfl rfl (Nat.le_of_ble_eq_true rfl) ⟨by decide, by decide⟩ ⟨by decide, by decide⟩ rfl rfl dL_law_1118 (fun u2 w2 H locs hu2 hE2 hw => ?_)
    obtain ⟨hq2, rfl⟩ := hE2
    replace hw : wS D A s.heap [(a3, .inl (τ 1, 1, .inr (.inl (arL (fun _ => 0)))))] H locs := hw
    refine r_icmp_eq (tgt := 1331) hx hb dL_law_1121 (by decide) (by omega) (by omega) (fun _ => ?_) (fun h => (by exfalso; omega))
    exact Lend _ H locs ls _ _ hL5 hw (lv_sub hl [0, 4] rfl) (by decide) (by decide)
  · refine r_tblI (tgt := 1126) hx hb dL_law_39 (by omega) (by omega) (by omega) (by rw [hs]; rfl) (by decide) ?_
    refine lv_aload_n hx hb dL_law_1126 rfl (lv_at hl 3 rfl) ?_
    refine g_cVi (wr := (WM τ a2 qm ++ [(a3, .inl (τ 1, 1, .inr (.inl (arL (fun _ => 0)))))])) (q0 := 0) (ci := 12) hx hb hml hC hA hw hl.1 (t_law l D τ _ a1 qx ivx gvx fvx  ) kX11_law ml_L_179 [0, 1, 2, 3, 4, 5, 6, 7, 8, 9, 10, 11, 12, 13, 14, 15, 16, 17, 18, 19, 20, 21, 22, 23, 24, 25, 26, 27, 28, 29, 30, 31, 32, 33, 34, 35, 36, 37, 38, 39, 40, 41, 42, 43, 44, 45, 46, 47, 48, 49, 50, 51, 52, 53, 54, 55, 56, 57, 58, 59, 60, 61, 62, 63, 64, 65, 66, 67, 68, 69, 70, 71, 72, 73, 74, 75, 76, 77, 78, 79, 80, 81, 82, 83, 84, 85, 86] [87, 88, 89, 90, 91, 92, 93, 94, 95, 96, 97, 98, 99, 100, 101, 102, 103, 104, 105, 106, 107, 108, 109, 110, 111, 112, 113, 114, 115, 116, 117, 118, 119] rfl rfl (by decide) (by decide) (by decide) rfl rfl rfl rfl (Nat.le_of_ble_eq_true rfl) ⟨by decide, by decide⟩ ⟨by decide, by decide⟩ rfl rfl dL_law_1127 (fun u1 w1 H locs hu1 hE1 hw => ?_)
    obtain ⟨hq1, rfl⟩ := hE1
    replace hw : wS D A s.heap (WM τ a2 qm ++ [(a3, .inl (τ 1, 1, .inr (.inl (arL (fun _ => 0)))))]) H locs := hw
    refine lv_aload_n hx hb dL_law_1130 rfl (lv_at hl 2 rfl) ?_
    refine g_cVi (wr := [(a3, .inl (τ 1, 1, .inr (.inl (arL (fun _ => 0)))))]) (q0 := 0) (ci := 13) hx hb hml hC hA hw hl.1 (um_law l D τ _ a2 qm  ) kX12_law ml_L_182 [0, 1, 2, 3, 4, 5, 6, 7, 8, 9, 10, 11, 12, 13, 14, 15, 16, 17, 18, 19, 20, 21, 22, 23, 24, 25, 26, 27, 28, 29, 30, 31] [32] rfl rfl (by decide) (by decide) (by decide) rfl rfl rfl rfl (Nat.le_of_ble_eq_true rfl) ⟨by decide, by decide⟩ ⟨by decide, by decide⟩ rfl rfl dL_law_1131 (fun u2 w2 H locs hu2 hE2 hw => ?_)
    obtain ⟨hq2, rfl⟩ := hE2
    replace hw : wS D A s.heap [(a3, .inl (τ 1, 1, .inr (.inl (arL (fun _ => 0)))))] H locs := hw
    refine r_icmp_eq (tgt := 1331) hx hb dL_law_1134 (by decide) (by omega) (by omega) (fun _ => ?_) (fun h => (by exfalso; omega))
    exact Lend _ H locs ls _ _ hL5 hw (lv_sub hl [0, 4] rfl) (by decide) (by decide)
  · refine r_tblI (tgt := 1139) hx hb dL_law_39 (by omega) (by omega) (by omega) (by rw [hs]; rfl) (by decide) ?_
    refine lv_aload_n hx hb dL_law_1139 rfl (lv_at hl 3 rfl) ?_
    refine lv_aload_n hx hb dL_law_1140 rfl (lv_at hl 4 rfl) ?_
    refine lv_iload hx hb dL_law_1141 (lv_at hl 0 rfl) ?_
    refine r_iconst hx hb dL_law_1143 ?_
    refine r_iadd (z := 1) hx hb dL_law_1144 rfl ?_
    refine r_sld hx hb hX hbl hbA hw (by decide) (by omega) (by omega) ey1 dL_law_1145 ?_
    refine g_cVi (wr := (WM τ a2 qm ++ [(a3, .inl (τ 1, 1, .inr (.inl (arL (fun _ => 0)))))])) (q0 := 0) (ci := 12) hx hb hml hC hA hw hl.1 (t_rests l D τ _ a1 qx ivx gvx fvx y1 (by omega)) kX11_rests ml_L_183 [0, 1, 2, 3, 4, 5, 6, 7, 8, 9, 10, 11, 12, 13, 14, 15, 16, 17, 18, 19, 20, 21, 22, 23, 24, 25, 26, 27, 28, 29, 30, 31, 32, 33, 34, 35, 36, 37, 38, 39, 40, 41, 42, 43, 44, 45, 46, 47, 48, 49, 50, 51, 52, 53, 54, 55, 56, 57, 58, 59, 60, 61, 62, 63, 64, 65, 66, 67, 68, 69, 70, 71, 72, 73, 74, 75, 76, 77, 78, 79, 80, 81, 82, 83, 84, 85, 86] [87, 88, 89, 90, 91, 92, 93, 94, 95, 96, 97, 98, 99, 100, 101, 102, 103, 104, 105, 106, 107, 108, 109, 110, 111, 112, 113, 114, 115, 116, 117, 118, 119] rfl rfl (by decide) (by decide) (by decide) rfl rfl rfl rfl (Nat.le_of_ble_eq_true rfl) ⟨by decide, by decide⟩ ⟨by decide, by decide⟩ rfl rfl dL_law_1146 (fun u1 w1 H locs hu1 hE1 hw => ?_)
    obtain ⟨hq1, rfl⟩ := hE1
    replace hw : wS D A s.heap (WM τ a2 qm ++ [(a3, .inl (τ 1, 1, .inr (.inl (arL (fun _ => 0)))))]) H locs := hw
    refine lv_aload_n hx hb dL_law_1149 rfl (lv_at hl 2 rfl) ?_
    refine lv_aload_n hx hb dL_law_1150 rfl (lv_at hl 4 rfl) ?_
    refine lv_iload hx hb dL_law_1151 (lv_at hl 0 rfl) ?_
    refine r_iconst hx hb dL_law_1153 ?_
    refine r_iadd (z := 1) hx hb dL_law_1154 rfl ?_
    refine r_sld hx hb hX hbl hbA hw (by decide) (by omega) (by omega) ey1 dL_law_1155 ?_
    refine g_cVi (wr := [(a3, .inl (τ 1, 1, .inr (.inl (arL (fun _ => 0)))))]) (q0 := 0) (ci := 13) hx hb hml hC hA hw hl.1 (um_rests l D τ _ a2 qm y1 (by omega)) kX12_rests ml_L_186 [0, 1, 2, 3, 4, 5, 6, 7, 8, 9, 10, 11, 12, 13, 14, 15, 16, 17, 18, 19, 20, 21, 22, 23, 24, 25, 26, 27, 28, 29, 30, 31] [32] rfl rfl (by decide) (by decide) (by decide) rfl rfl rfl rfl (Nat.le_of_ble_eq_true rfl) ⟨by decide, by decide⟩ ⟨by decide, by decide⟩ rfl rfl dL_law_1156 (fun u2 w2 H locs hu2 hE2 hw => ?_)
    obtain ⟨hq2, rfl⟩ := hE2
    replace hw : wS D A s.heap [(a3, .inl (τ 1, 1, .inr (.inl (arL (fun _ => 0)))))] H locs := hw
    refine r_icmp_eq (tgt := 1331) hx hb dL_law_1159 (by decide) (by omega) (by omega) (fun _ => ?_) (fun h => (by exfalso; omega))
    exact Lend _ H locs ls _ _ hL5 hw (lv_sub hl [0, 4] rfl) (by decide) (by decide)
  · refine r_tblI (tgt := 1164) hx hb dL_law_39 (by omega) (by omega) (by omega) (by rw [hs]; rfl) (by decide) ?_
    refine lv_aload_n hx hb dL_law_1164 rfl (lv_at hl 3 rfl) ?_
    refine lv_aload_n hx hb dL_law_1165 rfl (lv_at hl 4 rfl) ?_
    refine lv_iload hx hb dL_law_1166 (lv_at hl 0 rfl) ?_
    refine r_iconst hx hb dL_law_1168 ?_
    refine r_iadd (z := 1) hx hb dL_law_1169 rfl ?_
    refine r_sld hx hb hX hbl hbA hw (by decide) (by omega) (by omega) ey1 dL_law_1170 ?_
    refine lv_aload_n hx hb dL_law_1171 rfl (lv_at hl 4 rfl) ?_
    refine lv_iload hx hb dL_law_1172 (lv_at hl 0 rfl) ?_
    refine r_iconst hx hb dL_law_1174 ?_
    refine r_iadd (z := 2) hx hb dL_law_1175 rfl ?_
    refine r_sld hx hb hX hbl hbA hw (by decide) (by omega) (by omega) ey2 dL_law_1176 ?_
    refine g_cVi (wr := (WM τ a2 qm ++ [(a3, .inl (τ 1, 1, .inr (.inl (arL (fun _ => 0)))))])) (q0 := 0) (ci := 12) hx hb hml hC hA hw hl.1 (t_years l D τ _ a1 qx ivx gvx fvx y1 y2 (by omega) (by omega)) kX11_years ml_L_187 [0, 1, 2, 3, 4, 5, 6, 7, 8, 9, 10, 11, 12, 13, 14, 15, 16, 17, 18, 19, 20, 21, 22, 23, 24, 25, 26, 27, 28, 29, 30, 31, 32, 33, 34, 35, 36, 37, 38, 39, 40, 41, 42, 43, 44, 45, 46, 47, 48, 49, 50, 51, 52, 53, 54, 55, 56, 57, 58, 59, 60, 61, 62, 63, 64, 65, 66, 67, 68, 69, 70, 71, 72, 73, 74, 75, 76, 77, 78, 79, 80, 81, 82, 83, 84, 85, 86] [87, 88, 89, 90, 91, 92, 93, 94, 95, 96, 97, 98, 99, 100, 101, 102, 103, 104, 105, 106, 107, 108, 109, 110, 111, 112, 113, 114, 115, 116, 117, 118, 119] rfl rfl (by decide) (by decide) (by decide) rfl rfl rfl rfl (Nat.le_of_ble_eq_true rfl) ⟨by decide, by decide⟩ ⟨by decide, by decide⟩ rfl rfl dL_law_1177 (fun u1 w1 H locs hu1 hE1 hw => ?_)
    obtain ⟨hq1, rfl⟩ := hE1
    replace hw : wS D A s.heap (WM τ a2 qm ++ [(a3, .inl (τ 1, 1, .inr (.inl (arL (fun _ => 0)))))]) H locs := hw
    refine lv_aload_n hx hb dL_law_1180 rfl (lv_at hl 2 rfl) ?_
    refine lv_aload_n hx hb dL_law_1181 rfl (lv_at hl 4 rfl) ?_
    refine lv_iload hx hb dL_law_1182 (lv_at hl 0 rfl) ?_
    refine r_iconst hx hb dL_law_1184 ?_
    refine r_iadd (z := 1) hx hb dL_law_1185 rfl ?_
    refine r_sld hx hb hX hbl hbA hw (by decide) (by omega) (by omega) ey1 dL_law_1186 ?_
    refine lv_aload_n hx hb dL_law_1187 rfl (lv_at hl 4 rfl) ?_
    refine lv_iload hx hb dL_law_1188 (lv_at hl 0 rfl) ?_
    refine r_iconst hx hb dL_law_1190 ?_
    refine r_iadd (z := 2) hx hb dL_law_1191 rfl ?_
    refine r_sld hx hb hX hbl hbA hw (by decide) (by omega) (by omega) ey2 dL_law_1192 ?_
    refine g_cVi (wr := [(a3, .inl (τ 1, 1, .inr (.inl (arL (fun _ => 0)))))]) (q0 := 0) (ci := 13) hx hb hml hC hA hw hl.1 (um_years l D τ _ a2 qm y1 y2 (by omega) (by omega)) kX12_years ml_L_190 [0, 1, 2, 3, 4, 5, 6, 7, 8, 9, 10, 11, 12, 13, 14, 15, 16, 17, 18, 19, 20, 21, 22, 23, 24, 25, 26, 27, 28, 29, 30, 31] [32] rfl rfl (by decide) (by decide) (by decide) rfl rfl rfl rfl (Nat.le_of_ble_eq_true rfl) ⟨by decide, by decide⟩ ⟨by decide, by decide⟩ rfl rfl dL_law_1193 (fun u2 w2 H locs hu2 hE2 hw => ?_)
    obtain ⟨hq2, rfl⟩ := hE2
    replace hw : wS D A s.heap [(a3, .inl (τ 1, 1, .inr (.inl (arL (fun _ => 0)))))] H locs := hw
    refine r_icmp_eq (tgt := 1331) hx hb dL_law_1196 (by decide) (by omega) (by omega) (fun _ => ?_) (fun h => (by exfalso; omega))
    exact Lend _ H locs ls _ _ hL5 hw (lv_sub hl [0, 4] rfl) (by decide) (by decide)
  · refine r_tblI (tgt := 1201) hx hb dL_law_39 (by omega) (by omega) (by omega) (by rw [hs]; rfl) (by decide) ?_
    refine lv_aload_n hx hb dL_law_1201 rfl (lv_at hl 3 rfl) ?_
    refine lv_aload_n hx hb dL_law_1202 rfl (lv_at hl 4 rfl) ?_
    refine lv_iload hx hb dL_law_1203 (lv_at hl 0 rfl) ?_
    refine r_iconst hx hb dL_law_1205 ?_
    refine r_iadd (z := 1) hx hb dL_law_1206 rfl ?_
    refine r_sld hx hb hX hbl hbA hw (by decide) (by omega) (by omega) ey1 dL_law_1207 ?_
    refine g_cVi (wr := (WM τ a2 qm ++ [(a3, .inl (τ 1, 1, .inr (.inl (arL (fun _ => 0)))))])) (q0 := 0) (ci := 12) hx hb hml hC hA hw hl.1 (t_keep l D τ _ a1 qx ivx gvx fvx y1 (by omega)) kX11_keep ml_L_191 [0, 1, 2, 3, 4, 5, 6, 7, 8, 9, 10, 11, 12, 13, 14, 15, 16, 17, 18, 19, 20, 21, 22, 23, 24, 25, 26, 27, 28, 29, 30, 31, 32, 33, 34, 35, 36, 37, 38, 39, 40, 41, 42, 43, 44, 45, 46, 47, 48, 49, 50, 51, 52, 53, 54, 55, 56, 57, 58, 59, 60, 61, 62, 63, 64, 65, 66, 67, 68, 69, 70, 71, 72, 73, 74, 75, 76, 77, 78, 79, 80, 81, 82, 83, 84, 85, 86] [87, 88, 89, 90, 91, 92, 93, 94, 95, 96, 97, 98, 99, 100, 101, 102, 103, 104, 105, 106, 107, 108, 109, 110, 111, 112, 113, 114, 115, 116, 117, 118, 119] rfl rfl (by decide) (by decide) (by decide) rfl rfl rfl rfl (Nat.le_of_ble_eq_true rfl) ⟨by decide, by decide⟩ ⟨by decide, by decide⟩ rfl rfl dL_law_1208 (fun u1 w1 H locs hu1 hE1 hw => ?_)
    obtain ⟨hq1, rfl⟩ := hE1
    replace hw : wS D A s.heap (WM τ a2 qm ++ [(a3, .inl (τ 1, 1, .inr (.inl (arL (fun _ => 0)))))]) H locs := hw
    refine lv_aload_n hx hb dL_law_1211 rfl (lv_at hl 2 rfl) ?_
    refine lv_aload_n hx hb dL_law_1212 rfl (lv_at hl 4 rfl) ?_
    refine lv_iload hx hb dL_law_1213 (lv_at hl 0 rfl) ?_
    refine r_iconst hx hb dL_law_1215 ?_
    refine r_iadd (z := 1) hx hb dL_law_1216 rfl ?_
    refine r_sld hx hb hX hbl hbA hw (by decide) (by omega) (by omega) ey1 dL_law_1217 ?_
    refine g_cVi (wr := [(a3, .inl (τ 1, 1, .inr (.inl (arL (fun _ => 0)))))]) (q0 := 0) (ci := 13) hx hb hml hC hA hw hl.1 (um_keep l D τ _ a2 qm y1 (by omega)) kX12_keep ml_L_194 [0, 1, 2, 3, 4, 5, 6, 7, 8, 9, 10, 11, 12, 13, 14, 15, 16, 17, 18, 19, 20, 21, 22, 23, 24, 25, 26, 27, 28, 29, 30, 31] [32] rfl rfl (by decide) (by decide) (by decide) rfl rfl rfl rfl (Nat.le_of_ble_eq_true rfl) ⟨by decide, by decide⟩ ⟨by decide, by decide⟩ rfl rfl dL_law_1218 (fun u2 w2 H locs hu2 hE2 hw => ?_)
    obtain ⟨hq2, rfl⟩ := hE2
    replace hw : wS D A s.heap [(a3, .inl (τ 1, 1, .inr (.inl (arL (fun _ => 0)))))] H locs := hw
    refine r_icmp_eq (tgt := 1331) hx hb dL_law_1221 (by decide) (by omega) (by omega) (fun _ => ?_) (fun h => (by exfalso; omega))
    exact Lend _ H locs ls _ _ hL5 hw (lv_sub hl [0, 4] rfl) (by decide) (by decide)
  · refine r_tblI (tgt := 1226) hx hb dL_law_39 (by omega) (by omega) (by omega) (by rw [hs]; rfl) (by decide) ?_
    refine lv_aload_n hx hb dL_law_1226 rfl (lv_at hl 3 rfl) ?_
    refine lv_aload_n hx hb dL_law_1227 rfl (lv_at hl 4 rfl) ?_
    refine lv_iload hx hb dL_law_1228 (lv_at hl 0 rfl) ?_
    refine r_iconst hx hb dL_law_1230 ?_
    refine r_iadd (z := 1) hx hb dL_law_1231 rfl ?_
    refine r_sld hx hb hX hbl hbA hw (by decide) (by omega) (by omega) ey1 dL_law_1232 ?_
    refine g_cVi (wr := (WM τ a2 qm ++ [(a3, .inl (τ 1, 1, .inr (.inl (arL (fun _ => 0)))))])) (q0 := 0) (ci := 12) hx hb hml hC hA hw hl.1 (t_again l D τ _ a1 qx ivx gvx fvx y1 (by omega)) kX11_again ml_L_195 [0, 1, 2, 3, 4, 5, 6, 7, 8, 9, 10, 11, 12, 13, 14, 15, 16, 17, 18, 19, 20, 21, 22, 23, 24, 25, 26, 27, 28, 29, 30, 31, 32, 33, 34, 35, 36, 37, 38, 39, 40, 41, 42, 43, 44, 45, 46, 47, 48, 49, 50, 51, 52, 53, 54, 55, 56, 57, 58, 59, 60, 61, 62, 63, 64, 65, 66, 67, 68, 69, 70, 71, 72, 73, 74, 75, 76, 77, 78, 79, 80, 81, 82, 83, 84, 85, 86] [87, 88, 89, 90, 91, 92, 93, 94, 95, 96, 97, 98, 99, 100, 101, 102, 103, 104, 105, 106, 107, 108, 109, 110, 111, 112, 113, 114, 115, 116, 117, 118, 119] rfl rfl (by decide) (by decide) (by decide) rfl rfl rfl rfl (Nat.le_of_ble_eq_true rfl) ⟨by decide, by decide⟩ ⟨by decide, by decide⟩ rfl rfl dL_law_1233 (fun u1 w1 H locs hu1 hE1 hw => ?_)
    obtain ⟨hq1, rfl⟩ := hE1
    replace hw : wS D A s.heap (WM τ a2 qm ++ [(a3, .inl (τ 1, 1, .inr (.inl (arL (fun _ => 0)))))]) H locs := hw
    refine lv_aload_n hx hb dL_law_1236 rfl (lv_at hl 2 rfl) ?_
    refine lv_aload_n hx hb dL_law_1237 rfl (lv_at hl 4 rfl) ?_
    refine lv_iload hx hb dL_law_1238 (lv_at hl 0 rfl) ?_
    refine r_iconst hx hb dL_law_1240 ?_
    refine r_iadd (z := 1) hx hb dL_law_1241 rfl ?_
    refine r_sld hx hb hX hbl hbA hw (by decide) (by omega) (by omega) ey1 dL_law_1242 ?_
    refine g_cVi (wr := [(a3, .inl (τ 1, 1, .inr (.inl (arL (fun _ => 0)))))]) (q0 := 0) (ci := 13) hx hb hml hC hA hw hl.1 (um_again l D τ _ a2 qm y1 (by omega)) kX12_again ml_L_198 [0, 1, 2, 3, 4, 5, 6, 7, 8, 9, 10, 11, 12, 13, 14, 15, 16, 17, 18, 19, 20, 21, 22, 23, 24, 25, 26, 27, 28, 29, 30, 31] [32] rfl rfl (by decide) (by decide) (by decide) rfl rfl rfl rfl (Nat.le_of_ble_eq_true rfl) ⟨by decide, by decide⟩ ⟨by decide, by decide⟩ rfl rfl dL_law_1243 (fun u2 w2 H locs hu2 hE2 hw => ?_)
    obtain ⟨hq2, rfl⟩ := hE2
    replace hw : wS D A s.heap [(a3, .inl (τ 1, 1, .inr (.inl (arL (fun _ => 0)))))] H locs := hw
    refine r_icmp_eq (tgt := 1331) hx hb dL_law_1246 (by decide) (by omega) (by omega) (fun _ => ?_) (fun h => (by exfalso; omega))
    exact Lend _ H locs ls _ _ hL5 hw (lv_sub hl [0, 4] rfl) (by decide) (by decide)
  · refine r_tblI (tgt := 1251) hx hb dL_law_39 (by omega) (by omega) (by omega) (by rw [hs]; rfl) (by decide) ?_
    refine lv_aload_n hx hb dL_law_1251 rfl (lv_at hl 3 rfl) ?_
    refine lv_aload_n hx hb dL_law_1252 rfl (lv_at hl 4 rfl) ?_
    refine lv_iload hx hb dL_law_1253 (lv_at hl 0 rfl) ?_
    refine r_iconst hx hb dL_law_1255 ?_
    refine r_iadd (z := 1) hx hb dL_law_1256 rfl ?_
    refine r_sld hx hb hX hbl hbA hw (by decide) (by omega) (by omega) ey1 dL_law_1257 ?_
    refine g_cVi (wr := (WM τ a2 qm ++ [(a3, .inl (τ 1, 1, .inr (.inl (arL (fun _ => 0)))))])) (q0 := 0) (ci := 12) hx hb hml hC hA hw hl.1 (t_count l D τ _ a1 qx ivx gvx fvx y1 (by omega)) kX11_count ml_L_199 [0, 1, 2, 3, 4, 5, 6, 7, 8, 9, 10, 11, 12, 13, 14, 15, 16, 17, 18, 19, 20, 21, 22, 23, 24, 25, 26, 27, 28, 29, 30, 31, 32, 33, 34, 35, 36, 37, 38, 39, 40, 41, 42, 43, 44, 45, 46, 47, 48, 49, 50, 51, 52, 53, 54, 55, 56, 57, 58, 59, 60, 61, 62, 63, 64, 65, 66, 67, 68, 69, 70, 71, 72, 73, 74, 75, 76, 77, 78, 79, 80, 81, 82, 83, 84, 85, 86] [87, 88, 89, 90, 91, 92, 93, 94, 95, 96, 97, 98, 99, 100, 101, 102, 103, 104, 105, 106, 107, 108, 109, 110, 111, 112, 113, 114, 115, 116, 117, 118, 119] rfl rfl (by decide) (by decide) (by decide) rfl rfl rfl rfl (Nat.le_of_ble_eq_true rfl) ⟨by decide, by decide⟩ ⟨by decide, by decide⟩ rfl rfl dL_law_1258 (fun u1 w1 H locs hu1 hE1 hw => ?_)
    obtain ⟨hq1, rfl⟩ := hE1
    replace hw : wS D A s.heap (WM τ a2 qm ++ [(a3, .inl (τ 1, 1, .inr (.inl (arL (fun _ => 0)))))]) H locs := hw
    refine lv_aload_n hx hb dL_law_1261 rfl (lv_at hl 2 rfl) ?_
    refine lv_aload_n hx hb dL_law_1262 rfl (lv_at hl 4 rfl) ?_
    refine lv_iload hx hb dL_law_1263 (lv_at hl 0 rfl) ?_
    refine r_iconst hx hb dL_law_1265 ?_
    refine r_iadd (z := 1) hx hb dL_law_1266 rfl ?_
    refine r_sld hx hb hX hbl hbA hw (by decide) (by omega) (by omega) ey1 dL_law_1267 ?_
    refine g_cVi (wr := [(a3, .inl (τ 1, 1, .inr (.inl (arL (fun _ => 0)))))]) (q0 := 0) (ci := 13) hx hb hml hC hA hw hl.1 (um_count l D τ _ a2 qm y1 (by omega)) kX12_count ml_L_202 [0, 1, 2, 3, 4, 5, 6, 7, 8, 9, 10, 11, 12, 13, 14, 15, 16, 17, 18, 19, 20, 21, 22, 23, 24, 25, 26, 27, 28, 29, 30, 31] [32] rfl rfl (by decide) (by decide) (by decide) rfl rfl rfl rfl (Nat.le_of_ble_eq_true rfl) ⟨by decide, by decide⟩ ⟨by decide, by decide⟩ rfl rfl dL_law_1268 (fun u2 w2 H locs hu2 hE2 hw => ?_)
    obtain ⟨hq2, rfl⟩ := hE2
    replace hw : wS D A s.heap [(a3, .inl (τ 1, 1, .inr (.inl (arL (fun _ => 0)))))] H locs := hw
    refine r_icmp_eq (tgt := 1331) hx hb dL_law_1271 (by decide) (by omega) (by omega) (fun _ => ?_) (fun h => (by exfalso; omega))
    exact Lend _ H locs ls _ _ hL5 hw (lv_sub hl [0, 4] rfl) (by decide) (by decide)
  · refine r_tblI (tgt := 1276) hx hb dL_law_39 (by omega) (by omega) (by omega) (by rw [hs]; rfl) (by decide) ?_
    refine lv_aload_n hx hb dL_law_1276 rfl (lv_at hl 3 rfl) ?_
    refine lv_aload_n hx hb dL_law_1277 rfl (lv_at hl 4 rfl) ?_
    refine lv_iload hx hb dL_law_1278 (lv_at hl 0 rfl) ?_
    refine r_iconst hx hb dL_law_1280 ?_
    refine r_iadd (z := 1) hx hb dL_law_1281 rfl ?_
    refine r_sld hx hb hX hbl hbA hw (by decide) (by omega) (by omega) ey1 dL_law_1282 ?_
    refine lv_aload_n hx hb dL_law_1283 rfl (lv_at hl 1 rfl) ?_
    refine g_cW (n := 3) (As := [.ref a1, .int (iI y1), .ref a3]) (wr := (WM τ a2 qm ++ [(a3, .inl (τ 1, 1, .inr (.inl (arL (fun _ => 0)))))])) hx hb hml hC hA hTX hS3 hw hl.1 (lw_row l hst D τ _ a1 qx ivx gvx fvx y1 a3 hy1) g_law_row (by decide +kernel) [0, 1, 2, 3, 4, 5, 6, 7, 8, 9, 10, 11, 12, 13, 14, 15, 16, 17, 18, 19, 20, 21, 22, 23, 24, 25, 26, 27, 28, 29, 30, 31, 32, 33, 34, 35, 36, 37, 38, 39, 40, 41, 42, 43, 44, 45, 46, 47, 48, 49, 50, 51, 52, 53, 54, 55, 56, 57, 58, 59, 60, 61, 62, 63, 64, 65, 66, 67, 68, 69, 70, 71, 72, 73, 74, 75, 76, 77, 78, 79, 80, 81, 82, 83, 84, 85, 86] [87, 88, 89, 90, 91, 92, 93, 94, 95, 96, 97, 98, 99, 100, 101, 102, 103, 104, 105, 106, 107, 108, 109, 110, 111, 112, 113, 114, 115, 116, 117, 118, 119] rfl rfl (by decide) (by decide) (by decide) rfl rfl (Nat.le_of_ble_eq_true rfl) ⟨by decide, by decide⟩ ⟨by decide, by decide⟩ rfl rfl dL_law_1284 (fun u1 w1 H locs hu1 hE1 hw => ?_)
    obtain ⟨hq1, rfl⟩ := hE1
    obtain rfl : 1 = u1 := hq1.symm
    replace hw : wS D A s.heap (WM τ a2 qm ++ [(a3, .inl (τ 1, 1, .inr (.inl (arL (fun _ => 0)))))]) H locs := hw
    refine lv_istore (lv' := [(5, .int (iI 1)), (4, .int (iI 0)), (3, .ref a3), (2, .ref a2), (1, .ref a1), (0, .ref b)]) hx hb dL_law_1287 hl (by decide) rfl (fun ls hl => ?_)
    refine lv_aload_n hx hb dL_law_1289 rfl (lv_at hl 3 rfl) ?_
    refine lv_aload_n hx hb dL_law_1290 rfl (lv_at hl 5 rfl) ?_
    refine lv_iload hx hb dL_law_1291 (lv_at hl 1 rfl) ?_
    refine r_iconst hx hb dL_law_1293 ?_
    refine r_iadd (z := 1) hx hb dL_law_1294 rfl ?_
    refine r_sld hx hb hX hbl hbA hw (by decide) (by omega) (by omega) ey1 dL_law_1295 ?_
    refine g_cVl (wr := [(a3, .inl (τ 1, 1, .inr (.inl (arL (fun _ => 0)))))]) (q0 := 0) (ci := 13) hx hb hml hC hA hw hl.1 (um_row l D τ _ a2 qm y1 hy1) kX12_row ml_L_206 [0, 1, 2, 3, 4, 5, 6, 7, 8, 9, 10, 11, 12, 13, 14, 15, 16, 17, 18, 19, 20, 21, 22, 23, 24, 25, 26, 27, 28, 29, 30, 31] [32] rfl rfl (by decide) (by decide) (by decide) rfl rfl rfl rfl (Nat.le_of_ble_eq_true rfl) ⟨by decide, by decide⟩ ⟨by decide, by decide⟩ rfl rfl dL_law_1296 (fun u2 w2 H locs hu2 hE2 hw => ?_)
    obtain ⟨hq2, rfl⟩ := hE2
    replace hw : wS D A s.heap [(a3, .inl (τ 1, 1, .inr (.inl (arL (fun _ => 0))))), (a2, .inr (13, [.int (iI 1), .int (iI 0), .ref (qm 0), .int (iI 4), .int (iI 0), .int (iI 0), .int (iI 0), .int (iI 1), .ref (qm 1), .ref (qm 2), .ref (qm 3), .ref (qm 4), .ref (qm 5), .ref (qm 6), .int (iI 0), .int (iI 0), .int (iI 0), .int (iI 0), .ref (qm 7), .ref (qm 8), .int (iI 0), .ref (qm 9), .ref (qm 10), .ref (qm 11), .int (iI 0), .int (iI 0), .ref (qm 12), .ref (qm 13), .int (iI 0), .ref (qm 14), .int (iI 0), .int (iI 0), .ref (qm 15), .ref (qm 16), .ref (qm 17), .int (iI 0), .ref (qm 18), .ref (qm 19), .ref (qm 20), .int (iI 0), .ref (qm 21), .ref (qm 22), .int (iI 0), .ref (qm 23), .ref (qm 24), .int (iI 0), .ref (qm 25), .ref (qm 26), .ref (qm 27), .int (iI 0), .ref (qm 28), .ref (qm 29), .ref (qm 30)]))] H locs := hw
    refine lv_lstore (lv' := [(6, .long (lI u2)), (5, .int (iI 1)), (4, .int (iI 0)), (3, .ref a3), (2, .ref a2), (1, .ref a1), (0, .ref b)]) hx hb dL_law_1299 hl (by decide) rfl (fun ls hl => ?_)
    refine lv_aload_n hx hb dL_law_1301 rfl (lv_at hl 4 rfl) ?_
    refine g_cVi (wr := [(a3, .inl (τ 1, 1, .inr (.inl (arL (fun _ => 0)))))]) (q0 := 0) (ci := 13) hx hb hml hC hA hw hl.1 (m_thrown l D τ _ a2 (qm 0) (qm 1) (qm 2) (qm 3) (qm 4) (qm 5) (qm 6) (qm 7) (qm 8) (qm 9) (qm 10) (qm 11) (qm 12) (qm 13) (qm 14) (qm 15) (qm 16) (qm 17) (qm 18) (qm 19) (qm 20) (qm 21) (qm 22) (qm 23) (qm 24) (qm 25) (qm 26) (qm 27) (qm 28) (qm 29) (qm 30) 1 0 4 0 0 0 1 0 0 0 0 0 0 0 0 0 0 0 0 0 0 0 (by decide)) kX12_thrown ml_L_63 [1] [0] rfl rfl (by decide) (by decide) (by decide) rfl rfl rfl rfl (Nat.le_of_ble_eq_true rfl) ⟨by decide, by decide⟩ ⟨by decide, by decide⟩ rfl rfl dL_law_1302 (fun u3 w3 H locs hu3 hE3 hw => ?_)
    obtain ⟨hq3, rfl⟩ := hE3
    replace hw : wS D A s.heap [(a3, .inl (τ 1, 1, .inr (.inl (arL (fun _ => 0))))), (a2, .inr (13, [.int (iI 1), .int (iI 0), .ref (qm 0), .int (iI 4), .int (iI 0), .int (iI 0), .int (iI 0), .int (iI 1), .ref (qm 1), .ref (qm 2), .ref (qm 3), .ref (qm 4), .ref (qm 5), .ref (qm 6), .int (iI 0), .int (iI 0), .int (iI 0), .int (iI 0), .ref (qm 7), .ref (qm 8), .int (iI 0), .ref (qm 9), .ref (qm 10), .ref (qm 11), .int (iI 0), .int (iI 0), .ref (qm 12), .ref (qm 13), .int (iI 0), .ref (qm 14), .int (iI 0), .int (iI 0), .ref (qm 15), .ref (qm 16), .ref (qm 17), .int (iI 0), .ref (qm 18), .ref (qm 19), .ref (qm 20), .int (iI 0), .ref (qm 21), .ref (qm 22), .int (iI 0), .ref (qm 23), .ref (qm 24), .int (iI 0), .ref (qm 25), .ref (qm 26), .ref (qm 27), .int (iI 0), .ref (qm 28), .ref (qm 29), .ref (qm 30)]))] H locs := hw
    refine lv_iload hx hb dL_law_1305 (lv_at hl 1 rfl) ?_
    refine r_icmp_eq (tgt := 1312) hx hb dL_law_1307 (by decide) (by omega) (by omega) (fun _ => ?_) (fun h => (by exfalso; omega))
    refine lv_iload hx hb dL_law_1312 (lv_at hl 1 rfl) ?_
    refine r_if_ne (tgt := 1328) hx hb dL_law_1314 (by decide) (by decide) (fun _ => ?_) (fun h => (by exfalso; omega))
    refine lv_goto (tgt := 1331) hx hb dL_law_1328 (by decide) ?_
    exact Lend _ H locs ls _ _ hL5 hw (lv_sub hl [2, 6] rfl) (by decide) (by decide)
