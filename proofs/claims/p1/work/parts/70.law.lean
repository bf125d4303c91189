set_option maxHeartbeats 40000000 in
set_option maxRecDepth 100000 in
theorem whole_start {p : Program} {e : Env} {s : State} {m : MethodId} {below : List Frame} {meth : Method} {c : Code} (l : Launch) (hflags : l.flags = flags0) {b L : Nat} {xs : Nat → Int32} (hL : L ≤ 5) (C0 : lw_At p s m meth c b L xs) : W p l e room_1 s m #[Value.ref b] below meth c s.heap [] 0 0 (lw_Z below #[Value.ref b] s) (entryFrame m ([Value.ref b] : List Value).toArray 8) := by
  obtain ⟨hx, hb, hr, hml, hown, hts, hX, hbl, hlocks, hgv⟩ := id C0
  obtain ⟨D, τ, hK, hN⟩ := K_init hts
  obtain ⟨A, hAe⟩ : ∃ A : Nat → Prop, A = fun q : Nat => s.heap.size ≤ q := ⟨_, rfl⟩
  have hA : ∀ q : Nat, s.heap.size ≤ q → A q := fun q h => by rw [hAe]; exact h
  have hAr : ∀ q : Nat, A q → s.heap.size ≤ q := fun q h => by rw [hAe] at h; exact h
  have hbA : ¬ A b := fun h => absurd (hAr b h) (Nat.not_le.mpr hbl)
  have hC : cx D τ s m #[Value.ref b] RL := ⟨fun w h => hts w (lw_gt h), hown, hK, hN⟩
  have hw : wS D A s.heap [] s.heap [] := ⟨fun k q h => by simp at h, ⟨fun i j p q h => by simp at h, fun k q h => by simp at h⟩, va_S.rf⟩
  have hl := lv_entry ([.ref b]) (n := 8) (Nat.le_of_ble_eq_true rfl)
  rw [lg_entry_eq]
  generalize (lg_sl ([.ref b]) ++ List.replicate (8 - (lg_sl ([.ref b])).length) Slot.unset).toArray = ls at hl ⊢
  have hl : lv_has ls 8 [(0, .ref b)] := hl
  have hTX : TX A s := TX_of hts hgv (fun a h1 h2 => absurd (hAr a h2) (Nat.not_le.mpr h1))
  have hS1 : SX 225 "no such hearse" s := SX_of hts hK (List.mem_of_getElem? (i := 1248) (by decide +kernel))
  have hS2 : SX 268 "no such mourner" s := SX_of hts hK (List.mem_of_getElem? (i := 1288) (by decide +kernel))
  have hS3 : SX 492 "no such number of the row" s := SX_of hts hK (List.mem_of_getElem? (i := 1298) (by decide +kernel))
  have hst : l.stackTraces = false := by show (!l.flags.contains Jvm.noTraceFlag) = false; rw [hflags]; decide +kernel
  obtain ⟨ad, adV, hLX⟩ := LX_of (D := D) (τ := τ) hts hgv (A := A) (fun a h1 h2 => absurd (hAr a h2) (Nat.not_le.mpr h1))
  obtain ⟨y0, hy0, ey0⟩ := iI_of (xs 0)
  obtain ⟨y1, hy1, ey1⟩ := iI_of (xs 1)
  obtain ⟨y2, hy2, ey2⟩ := iI_of (xs 2)
  obtain ⟨y3, hy3, ey3⟩ := iI_of (xs 3)
  obtain ⟨y4, hy4, ey4⟩ := iI_of (xs 4)
  have Lret : ∀ (ws : va_W) (H : Heap) (locs : List Loc) (ls : Array Slot) (cc ss : Nat), wS D A s.heap ws H locs → cc ≤ 600002 → ss ≤ 7302232 → W p l e room_1 s m #[Value.ref b] below meth c H locs cc ss (lw_Z below #[Value.ref b] s) (F0 m 1337 ls []) := by
    intro ws H locs ls cc ss hw h1 h2
    refine r_iconst hx hb dL_law_1337 ?_
    refine va_forget (fun q hq => hAr _ (hw.2.2.2.2 q hq)) ?_
    refine W.widen (k := 600002) (n := 7302232) h1 h2 ?_
    exact lw_ret hx hb hr hlocks dL_law_1338
  have Lend : ∀ (ws : va_W) (H : Heap) (locs : List Loc) (ls : Array Slot) (cc ss : Nat), L = 5 → wS D A s.heap ws H locs → lv_has ls 8 [(4, .int (iI 0)), (0, .ref b)] → cc ≤ 600002 → ss ≤ 7302232 → W p l e room_1 s m #[Value.ref b] below meth c H locs cc ss (lw_Z below #[Value.ref b] s) (F0 m 1331 ls []) := by
    intro ws H locs ls cc ss hL5 hw hl h1 h2
    refine r_iinc (v := 5) (lv' := [(4, .int (iI 5)), (0, .ref b)]) hx hb dL_law_1331 hl (k := 0) rfl rfl (by decide) rfl (fun ls hl => ?_)
    refine lv_goto (tgt := 23) hx hb dL_law_1334 (by decide) ?_
    refine lv_iload hx hb dL_law_23 (lv_at hl 0 rfl) ?_
    refine lv_aload_n hx hb dL_law_25 rfl (lv_at hl 1 rfl) ?_
    refine r_slen hx hb hX hbl hbA hw dL_law_26 ?_
    refine r_iconst hx hb dL_law_27 ?_
    refine r_isub (z := (L : Int) - 5) hx hb dL_law_28 rfl ?_
    refine r_icmp_gt (tgt := 1337) hx hb dL_law_29 (by decide) (by decide) (by omega) (fun _ => ?_) (fun h => (by exfalso; omega))
    exact Lret ws H locs ls cc ss hw h1 h2
  refine r_new (ci := 12) (fs := [.null, .null, .null, .null, .null, .null, .null, .null, .null, .null, .null, .null, .null, .null, .null, .int (iI 0), .null, .null]) hx hb hC hA hw iX11 tyX11 tyX11_ok rfl cl_L_8 it_X11 in_X11 df_X11 (by decide) (by decide) rfl rfl dL_law_0 (fun a1 H hw => ?_)
  refine lv_dup hx hb dL_law_3 rfl ?_
  refine g_cIv (wr := []) hx hb hml hC hA hw hl.1 (c_Main_init l D τ _ a1) kX11_init ml_L_22 [0] [] rfl rfl (by decide) (by decide) (by decide) rfl rfl (Nat.le_of_ble_eq_true rfl) ⟨by decide, by decide⟩ ⟨by decide, by decide⟩ rfl rfl dL_law_4 (fun w5 H locs hE5 hw => ?_)
  obtain ⟨qx, ivx, gvx, fvx, ⟨hf0, hf1⟩, rfl⟩ := hE5
  replace hw : wS D A s.heap (WF τ a1 qx ivx gvx fvx) H locs := hw
  refine lv_astore_n (lv' := [(1, .ref a1), (0, .ref b)]) hx hb dL_law_7 rfl hl (by decide) rfl (fun ls hl => ?_)
  refine r_new (ci := 13) (fs := [.int (iI 0), .int (iI 0), .null, .int (iI 0), .int (iI 0), .int (iI 0), .int (iI 0), .int (iI 0), .null, .null, .null, .null, .null, .null, .int (iI 0), .int (iI 0), .int (iI 0), .int (iI 0), .null, .null, .int (iI 0), .null, .null, .null, .int (iI 0), .int (iI 0), .null, .null, .int (iI 0), .null, .int (iI 0), .int (iI 0), .null, .null, .null, .int (iI 0), .null, .null, .null, .int (iI 0), .null, .null, .int (iI 0), .null, .null, .int (iI 0), .null, .null, .null, .int (iI 0), .null, .null, .null]) hx hb hC hA hw iX12 tyX12 tyX12_ok rfl cl_L_23 it_X12 in_X12 df_X12 (by decide) (by decide) rfl rfl dL_law_8 (fun a2 H hw => ?_)
  refine lv_dup hx hb dL_law_11 rfl ?_
  refine g_cIv (wr := WF τ a1 qx ivx gvx fvx) hx hb hml hC hA hw hl.1 (c_Model_init l D τ _ a2) kX12_init ml_L_25 [87] [0, 1, 2, 3, 4, 5, 6, 7, 8, 9, 10, 11, 12, 13, 14, 15, 16, 17, 18, 19, 20, 21, 22, 23, 24, 25, 26, 27, 28, 29, 30, 31, 32, 33, 34, 35, 36, 37, 38, 39, 40, 41, 42, 43, 44, 45, 46, 47, 48, 49, 50, 51, 52, 53, 54, 55, 56, 57, 58, 59, 60, 61, 62, 63, 64, 65, 66, 67, 68, 69, 70, 71, 72, 73, 74, 75, 76, 77, 78, 79, 80, 81, 82, 83, 84, 85, 86] rfl rfl (by decide) (by decide) (by decide) rfl rfl (Nat.le_of_ble_eq_true rfl) ⟨by decide, by decide⟩ ⟨by decide, by decide⟩ rfl rfl dL_law_12 (fun w6 H locs hE6 hw => ?_)
  obtain ⟨qm, rfl⟩ := hE6
  replace hw : wS D A s.heap (WF τ a1 qx ivx gvx fvx ++ WM τ a2 qm) H locs := hw
  refine lv_astore_n (lv' := [(2, .ref a2), (1, .ref a1), (0, .ref b)]) hx hb dL_law_15 rfl hl (by decide) rfl (fun ls hl => ?_)
  refine r_iconst hx hb dL_law_16 ?_
  refine r_newl (N := 1) hx hb hC hA hw ac_long (by decide) (by decide) (by decide) (by decide) rfl rfl dL_law_17 (fun a3 H hw => ?_)
  refine lv_astore_n (lv' := [(3, .ref a3), (2, .ref a2), (1, .ref a1), (0, .ref b)]) hx hb dL_law_19 rfl hl (by decide) rfl (fun ls hl => ?_)
  refine r_iconst hx hb dL_law_20 ?_
  refine lv_istore (lv' := [(4, .int (iI 0)), (3, .ref a3), (2, .ref a2), (1, .ref a1), (0, .ref b)]) hx hb dL_law_21 hl (by decide) rfl (fun ls hl => ?_)
  refine lv_iload hx hb dL_law_23 (lv_at hl 0 rfl) ?_
  refine lv_aload_n hx hb dL_law_25 rfl (lv_at hl 4 rfl) ?_
  refine r_slen hx hb hX hbl hbA hw dL_law_26 ?_
  refine r_iconst hx hb dL_law_27 ?_
  refine r_isub (z := (L : Int) - 5) hx hb dL_law_28 rfl ?_
  refine r_icmp_gt (tgt := 1337) hx hb dL_law_29 (by decide) (by decide) (by omega) (fun _ => ?_) (fun hge => ?_)
  · exact Lret _ H _ ls _ _ hw (by decide) (by decide)
  have hL5 : L = 5 := by omega
  refine lv_aload_n hx hb dL_law_32 rfl (lv_at hl 4 rfl) ?_
  refine lv_iload hx hb dL_law_33 (lv_at hl 0 rfl) ?_
  refine r_sld hx hb hX hbl hbA hw (by decide) (by omega) (by omega) ey0 dL_law_35 ?_
  refine r_bipush hx hb dL_law_36 (by decide +kernel) ?_
  refine r_iand hx hb dL_law_38 (fun z0 hz0 hv0 => ?_)
  rcases (show (z0 < 0 ∨ 42 < z0) ∨ z0 = 0 ∨ z0 = 1 ∨ z0 = 2 ∨ z0 = 3 ∨ z0 = 4 ∨ z0 = 5 ∨ z0 = 6 ∨ z0 = 7 ∨ z0 = 8 ∨ z0 = 9 ∨ z0 = 10 ∨ z0 = 11 ∨ z0 = 12 ∨ z0 = 13 ∨ z0 = 14 ∨ z0 = 15 ∨ z0 = 16 ∨ z0 = 17 ∨ z0 = 18 ∨ z0 = 19 ∨ z0 = 20 ∨ z0 = 21 ∨ z0 = 22 ∨ z0 = 23 ∨ z0 = 24 ∨ z0 = 25 ∨ z0 = 26 ∨ z0 = 27 ∨ z0 = 28 ∨ z0 = 29 ∨ z0 = 30 ∨ z0 = 31 ∨ z0 = 32 ∨ z0 = 33 ∨ z0 = 34 ∨ z0 = 35 ∨ z0 = 36 ∨ z0 = 37 ∨ z0 = 38 ∨ z0 = 39 ∨ z0 = 40 ∨ z0 = 41 ∨ z0 = 42 by omega) with hs | hs | hs | hs | hs | hs | hs | hs | hs | hs | hs | hs | hs | hs | hs | hs | hs | hs | hs | hs | hs | hs | hs | hs | hs | hs | hs | hs | hs | hs | hs | hs | hs | hs | hs | hs | hs | hs | hs | hs | hs | hs | hs | hs
  · refine r_tblO (tgt := 1331) hx hb dL_law_39 (by omega) hs (by decide) ?_
    exact Lend _ H _ ls _ _ hL5 hw (lv_sub hl [0, 4] rfl) (by decide) (by decide)
  · sorry
  · sorry
  · refine r_tblI (tgt := 274) hx hb dL_law_39 (by omega) (by omega) (by omega) (by rw [hs]; rfl) (by decide) ?_
    refine lv_aload_n hx hb dL_law_274 rfl (lv_at hl 3 rfl) ?_
    refine g_cVi (wr := (WM τ a2 qm ++ [(a3, .inl (τ 1, 1, .inr (.inl (arL (fun _ => 0)))))])) (q0 := 0) (ci := 12) hx hb hml hC hA hw hl.1 (t_avenue l D τ _ a1 qx ivx gvx fvx  ) kX11_avenue ml_L_36 [0, 1, 2, 3, 4, 5, 6, 7, 8, 9, 10, 11, 12, 13, 14, 15, 16, 17, 18, 19, 20, 21, 22, 23, 24, 25, 26, 27, 28, 29, 30, 31, 32, 33, 34, 35, 36, 37, 38, 39, 40, 41, 42, 43, 44, 45, 46, 47, 48, 49, 50, 51, 52, 53, 54, 55, 56, 57, 58, 59, 60, 61, 62, 63, 64, 65, 66, 67, 68, 69, 70, 71, 72, 73, 74, 75, 76, 77, 78, 79, 80, 81, 82, 83, 84, 85, 86] [87, 88, 89, 90, 91, 92, 93, 94, 95, 96, 97, 98, 99, 100, 101, 102, 103, 104, 105, 106, 107, 108, 109, 110, 111, 112, 113, 114, 115, 116, 117, 118, 119] rfl rfl (by decide) (by decide) (by decide) rfl rfl rfl rfl (Nat.le_of_ble_eq_true rfl) ⟨by decide, by decide⟩ ⟨by decide, by decide⟩ rfl rfl dL_law_275 (fun u1 w1 H locs hu1 hE1 hw => ?_)
    obtain ⟨hq1, rfl⟩ := hE1
    replace hw : wS D A s.heap (WM τ a2 qm ++ [(a3, .inl (τ 1, 1, .inr (.inl (arL (fun _ => 0)))))]) H locs := hw
    refine lv_aload_n hx hb dL_law_278 rfl (lv_at hl 2 rfl) ?_
    refine g_cY (As := []) (wr := [(a3, .inl (τ 1, 1, .inr (.inl (arL (fun _ => 0)))))]) hx hb hml hC hA hLX hw hl.1 (um_avenue l D τ _ a2 qm ad adV) kX12_avenue ml_L_40 [0, 1, 2, 3, 4, 5, 6, 7, 8, 9, 10, 11, 12, 13, 14, 15, 16, 17, 18, 19, 20, 21, 22, 23, 24, 25, 26, 27, 28, 29, 30, 31] [32] rfl rfl (by decide) (by decide) (by decide) (va_recv (q0 := 0) (ci := 13) hC.2.2.1 hw.1 rfl rfl) rfl rfl (Nat.le_of_ble_eq_true rfl) ⟨by decide, by decide⟩ ⟨by decide, by decide⟩ rfl rfl dL_law_279 (fun u2 w2 H locs hu2 hE2 hw => ?_)
    obtain ⟨hq2, rfl⟩ := hE2
    replace hw : wS D A s.heap [(a3, .inl (τ 1, 1, .inr (.inl (arL (fun _ => 0)))))] H locs := hw
    refine r_icmp_eq (tgt := 1331) hx hb dL_law_282 (by decide) (by omega) (by omega) (fun _ => ?_) (fun h => (by exfalso; omega))
    exact Lend _ H locs ls _ _ hL5 hw (lv_sub hl [0, 4] rfl) (by decide) (by decide)
  · sorry
  · sorry
  · sorry
  · sorry
  · sorry
  · sorry
  · sorry
  · sorry
  · sorry
  · sorry
  · sorry
  · sorry
  · sorry
  · sorry
  · sorry
  · sorry
  · sorry
  · sorry
  · sorry
  · sorry
  · sorry
  · sorry
  · sorry
  · sorry
  · sorry
  · sorry
  · sorry
  · sorry
  · sorry
  · sorry
  · sorry
  · sorry
  · sorry
  · sorry
  · sorry
  · sorry
  · sorry
  · sorry
  · sorry
  · sorry
