set_option maxHeartbeats 4000000 in
set_option maxRecDepth 100000 in
theorem law_case0 {p : Program} {e : Env} {s : State} {m : MethodId} {below : List Frame} {meth : Method} {c : Code} (l : Launch) (hst : l.stackTraces = false) {b L : Nat} {xs : Nat → Int32} {D : va_G} {τ : Nat → ClassId} {A : Nat → Prop} {sA sV : Nat → Nat} {ax am : Nat → Nat} {ao : Nat} (hx : p.tables.exec = Jvm.exec) (hb : c.code = code) (hml : c.maxLocals = 8) (hC : cx D τ s m #[Value.ref b] RL) (hLS : LK A s s.heap sA sV) (hXX : XX A s) (hA : ∀ q : Nat, s.heap.size ≤ q → A q) (hX : va_X b L xs s s.heap) (hbl : b < s.heap.size) (hbA : ¬ A b) (k : Nat) (hk : k < 512) (hkL : 5 * (k : Int) + 5 ≤ L) (hL : L ≤ 2560)
  (NEXT : ∀ (MX MM : Mem) (g : Int → Int) (H : Heap) (locs : List Loc) (ls : Array Slot) (cc ss : Nat), Rel (k + 1) MX MM → MR MX → MR MM → wS D A s.heap (WX τ ax MX ++ (WM τ am MM ++ [OC τ ao g])) H locs → lv_has ls 8 [(4, .int (iI (5 * (k : Int)))), (3, .ref ao), (2, .ref (am 1)), (1, .ref (ax 155)), (0, .ref b)] → cc ≤ 300 + 20 * (k + 1) → ss ≤ 6000 + 120 * (k + 1) → W p l e room_1 s m #[Value.ref b] below meth c H locs cc ss (lw_Z below #[Value.ref b] s) (F0 m 1276 ls []))
  (MX MM : Mem) (g : Int → Int) (H : Heap) (locs : List Loc) (ls : Array Slot) (hR : Rel k MX MM) (hMX : MR MX) (hMM : MR MM) (hw : wS D A s.heap (WX τ ax MX ++ (WM τ am MM ++ [OC τ ao g])) H locs) (hl : lv_has ls 8 [(4, .int (iI (5 * (k : Int)))), (3, .ref ao), (2, .ref (am 1)), (1, .ref (ax 155)), (0, .ref b)]) : W p l e room_1 s m #[Value.ref b] below meth c H locs (300 + 20 * k) (6000 + 120 * k) (lw_Z below #[Value.ref b] s) (F0 m 224 ls []) := by
  obtain ⟨y1, hy1, ey1⟩ := iI_of (xs (5 * (k : Int) + 1).toNat)
  obtain ⟨y2, hy2, ey2⟩ := iI_of (xs (5 * (k : Int) + 2).toNat)
  obtain ⟨y3, hy3, ey3⟩ := iI_of (xs (5 * (k : Int) + 3).toNat)
  obtain ⟨y4, hy4, ey4⟩ := iI_of (xs (5 * (k : Int) + 4).toNat)
  have hv := Rl_sign k MX MM y1 hy1 hk hMX hMM hR
  refine lv_aload_n hx hb dL_law_224 rfl (lv_at hl 3 rfl) ?_
  refine lv_aload_n hx hb dL_law_225 rfl (lv_at hl 4 rfl) ?_
  refine lv_iload hx hb dL_law_226 (lv_at hl 0 rfl) ?_
  refine r_iconst hx hb dL_law_228 ?_
  refine r_iadd (z := 5 * (k : Int) + 1) hx hb dL_law_229 rfl ?_
  refine r_sld hx hb hX hbl hbA hw (by omega) (by omega) (by omega) ey1 dL_law_230 ?_
  refine s_cVi (Wf := WX τ ax) (As := [.int (iI y1)]) (rest := []) hx hb hml hC hLS hA hw hl.1 (mX11_sign l D τ ax sA sV _ y1 hy1 MX hMX _ hv) kX11_sign ml_L_26 rfl (gX_155 τ ax MX) rfl rfl (Nat.le_of_ble_eq_true rfl) ⟨by decide, by decide⟩ ⟨by show 300 + 20 * k ≤ 601024; omega, by show 6000 + 120 * k ≤ 7293034; omega⟩ (cells' := 300 + 20 * k) (slots' := 6000 + 120 * k) rfl rfl dL_law_231 (fun z1 MX1 H locs hz1 hMX hv hw => ?_)
  refine lv_pop hx hb dL_law_234 rfl ?_
  refine lv_aload_n hx hb dL_law_235 rfl (lv_at hl 2 rfl) ?_
  refine lv_aload_n hx hb dL_law_236 rfl (lv_at hl 4 rfl) ?_
  refine lv_iload hx hb dL_law_237 (lv_at hl 0 rfl) ?_
  refine r_iconst hx hb dL_law_239 ?_
  refine r_iadd (z := 5 * (k : Int) + 1) hx hb dL_law_240 rfl ?_
  refine r_sld hx hb hX hbl hbA hw (by omega) (by omega) (by omega) ey1 dL_law_241 ?_
  have hw := hw.rot
  refine s_cVi (Wf := WM τ am) (As := [.int (iI y1)]) (rest := []) hx hb hml hC hLS hA hw hl.1 (mX12_sign l D τ am sA sV _ y1 hy1 MM hMM _ hv) kX12_sign ml_L_30 rfl (gM_1 τ am MM) rfl rfl (Nat.le_of_ble_eq_true rfl) ⟨by decide, by decide⟩ ⟨by show 300 + 20 * k ≤ 601024; omega, by show 6000 + 120 * k ≤ 7293034; omega⟩ (cells' := 300 + 20 * k) (slots' := 6000 + 120 * k) rfl rfl dL_law_242 (fun z2 MM2 H locs hz2 hMM hv hw => ?_)
  have hw := hw.rot.rot
  refine lv_pop hx hb dL_law_245 rfl ?_
  refine lv_goto (tgt := 1276) hx hb dL_law_246 (by decide) ?_
  exact NEXT MX1 MM2 g _ _ _ _ _ hv hMX hMM hw (lv_sub hl [0, 1, 2, 3, 4] rfl) (by omega) (by omega)
set_option maxHeartbeats 4000000 in
set_option maxRecDepth 100000 in
theorem law_case1 {p : Program} {e : Env} {s : State} {m : MethodId} {below : List Frame} {meth : Method} {c : Code} (l : Launch) (hst : l.stackTraces = false) {b L : Nat} {xs : Nat → Int32} {D : va_G} {τ : Nat → ClassId} {A : Nat → Prop} {sA sV : Nat → Nat} {ax am : Nat → Nat} {ao : Nat} (hx : p.tables.exec = Jvm.exec) (hb : c.code = code) (hml : c.maxLocals = 8) (hC : cx D τ s m #[Value.ref b] RL) (hLS : LK A s s.heap sA sV) (hXX : XX A s) (hA : ∀ q : Nat, s.heap.size ≤ q → A q) (hX : va_X b L xs s s.heap) (hbl : b < s.heap.size) (hbA : ¬ A b) (k : Nat) (hk : k < 512) (hkL : 5 * (k : Int) + 5 ≤ L) (hL : L ≤ 2560)
  (NEXT : ∀ (MX MM : Mem) (g : Int → Int) (H : Heap) (locs : List Loc) (ls : Array Slot) (cc ss : Nat), Rel (k + 1) MX MM → MR MX → MR MM → wS D A s.heap (WX τ ax MX ++ (WM τ am MM ++ [OC τ ao g])) H locs → lv_has ls 8 [(4, .int (iI (5 * (k : Int)))), (3, .ref ao), (2, .ref (am 1)), (1, .ref (ax 155)), (0, .ref b)] → cc ≤ 300 + 20 * (k + 1) → ss ≤ 6000 + 120 * (k + 1) → W p l e room_1 s m #[Value.ref b] below meth c H locs cc ss (lw_Z below #[Value.ref b] s) (F0 m 1276 ls []))
  (MX MM : Mem) (g : Int → Int) (H : Heap) (locs : List Loc) (ls : Array Slot) (hR : Rel k MX MM) (hMX : MR MX) (hMM : MR MM) (hw : wS D A s.heap (WX τ ax MX ++ (WM τ am MM ++ [OC τ ao g])) H locs) (hl : lv_has ls 8 [(4, .int (iI (5 * (k : Int)))), (3, .ref ao), (2, .ref (am 1)), (1, .ref (ax 155)), (0, .ref b)]) : W p l e room_1 s m #[Value.ref b] below meth c H locs (300 + 20 * k) (6000 + 120 * k) (lw_Z below #[Value.ref b] s) (F0 m 249 ls []) := by
  obtain ⟨y1, hy1, ey1⟩ := iI_of (xs (5 * (k : Int) + 1).toNat)
  obtain ⟨y2, hy2, ey2⟩ := iI_of (xs (5 * (k : Int) + 2).toNat)
  obtain ⟨y3, hy3, ey3⟩ := iI_of (xs (5 * (k : Int) + 3).toNat)
  obtain ⟨y4, hy4, ey4⟩ := iI_of (xs (5 * (k : Int) + 4).toNat)
  have hv := Rl_end k MX MM y1 hy1 hk hMX hMM hR
  refine lv_aload_n hx hb dL_law_249 rfl (lv_at hl 3 rfl) ?_
  refine lv_aload_n hx hb dL_law_250 rfl (lv_at hl 4 rfl) ?_
  refine lv_iload hx hb dL_law_251 (lv_at hl 0 rfl) ?_
  refine r_iconst hx hb dL_law_253 ?_
  refine r_iadd (z := 5 * (k : Int) + 1) hx hb dL_law_254 rfl ?_
  refine r_sld hx hb hX hbl hbA hw (by omega) (by omega) (by omega) ey1 dL_law_255 ?_
  refine s_cVz (Wf := WX τ ax) (As := [.int (iI y1)]) (rest := []) hx hb hml hC hLS hA hw hl.1 (mX11_end l D τ ax sA sV _ y1 hy1 MX hMX _ hv) kX11_end ml_L_31 rfl (gX_155 τ ax MX) rfl rfl (Nat.le_of_ble_eq_true rfl) ⟨by decide, by decide⟩ ⟨by show 300 + 20 * k ≤ 601024; omega, by show 6000 + 120 * k ≤ 7293034; omega⟩ (cells' := 300 + 20 * k) (slots' := 6000 + 120 * k) rfl rfl dL_law_256 (fun z1 MX1 H locs hz1 h01 hMX hv hw => ?_)
  refine lv_pop hx hb dL_law_259 rfl ?_
  refine lv_aload_n hx hb dL_law_260 rfl (lv_at hl 2 rfl) ?_
  refine lv_aload_n hx hb dL_law_261 rfl (lv_at hl 4 rfl) ?_
  refine lv_iload hx hb dL_law_262 (lv_at hl 0 rfl) ?_
  refine r_iconst hx hb dL_law_264 ?_
  refine r_iadd (z := 5 * (k : Int) + 1) hx hb dL_law_265 rfl ?_
  refine r_sld hx hb hX hbl hbA hw (by omega) (by omega) (by omega) ey1 dL_law_266 ?_
  have hw := hw.rot
  refine s_cVz (Wf := WM τ am) (As := [.int (iI y1)]) (rest := []) hx hb hml hC hLS hA hw hl.1 (mX12_end l D τ am sA sV _ y1 hy1 MM hMM _ hv) kX12_end ml_L_35 rfl (gM_1 τ am MM) rfl rfl (Nat.le_of_ble_eq_true rfl) ⟨by decide, by decide⟩ ⟨by show 300 + 20 * k ≤ 601024; omega, by show 6000 + 120 * k ≤ 7293034; omega⟩ (cells' := 300 + 20 * k) (slots' := 6000 + 120 * k) rfl rfl dL_law_267 (fun z2 MM2 H locs hz2 h01 hMM hv hw => ?_)
  have hw := hw.rot.rot
  refine lv_pop hx hb dL_law_270 rfl ?_
  refine lv_goto (tgt := 1276) hx hb dL_law_271 (by decide) ?_
  exact NEXT MX1 MM2 g _ _ _ _ _ hv hMX hMM hw (lv_sub hl [0, 1, 2, 3, 4] rfl) (by omega) (by omega)
set_option maxHeartbeats 4000000 in
set_option maxRecDepth 100000 in
theorem law_case2 {p : Program} {e : Env} {s : State} {m : MethodId} {below : List Frame} {meth : Method} {c : Code} (l : Launch) (hst : l.stackTraces = false) {b L : Nat} {xs : Nat → Int32} {D : va_G} {τ : Nat → ClassId} {A : Nat → Prop} {sA sV : Nat → Nat} {ax am : Nat → Nat} {ao : Nat} (hx : p.tables.exec = Jvm.exec) (hb : c.code = code) (hml : c.maxLocals = 8) (hC : cx D τ s m #[Value.ref b] RL) (hLS : LK A s s.heap sA sV) (hXX : XX A s) (hA : ∀ q : Nat, s.heap.size ≤ q → A q) (hX : va_X b L xs s s.heap) (hbl : b < s.heap.size) (hbA : ¬ A b) (k : Nat) (hk : k < 512) (hkL : 5 * (k : Int) + 5 ≤ L) (hL : L ≤ 2560)
  (NEXT : ∀ (MX MM : Mem) (g : Int → Int) (H : Heap) (locs : List Loc) (ls : Array Slot) (cc ss : Nat), Rel (k + 1) MX MM → MR MX → MR MM → wS D A s.heap (WX τ ax MX ++ (WM τ am MM ++ [OC τ ao g])) H locs → lv_has ls 8 [(4, .int (iI (5 * (k : Int)))), (3, .ref ao), (2, .ref (am 1)), (1, .ref (ax 155)), (0, .ref b)] → cc ≤ 300 + 20 * (k + 1) → ss ≤ 6000 + 120 * (k + 1) → W p l e room_1 s m #[Value.ref b] below meth c H locs cc ss (lw_Z below #[Value.ref b] s) (F0 m 1276 ls []))
  (MX MM : Mem) (g : Int → Int) (H : Heap) (locs : List Loc) (ls : Array Slot) (hR : Rel k MX MM) (hMX : MR MX) (hMM : MR MM) (hw : wS D A s.heap (WX τ ax MX ++ (WM τ am MM ++ [OC τ ao g])) H locs) (hl : lv_has ls 8 [(4, .int (iI (5 * (k : Int)))), (3, .ref ao), (2, .ref (am 1)), (1, .ref (ax 155)), (0, .ref b)]) : W p l e room_1 s m #[Value.ref b] below meth c H locs (300 + 20 * k) (6000 + 120 * k) (lw_Z below #[Value.ref b] s) (F0 m 274 ls []) := by
  obtain ⟨y1, hy1, ey1⟩ := iI_of (xs (5 * (k : Int) + 1).toNat)
  obtain ⟨y2, hy2, ey2⟩ := iI_of (xs (5 * (k : Int) + 2).toNat)
  obtain ⟨y3, hy3, ey3⟩ := iI_of (xs (5 * (k : Int) + 3).toNat)
  obtain ⟨y4, hy4, ey4⟩ := iI_of (xs (5 * (k : Int) + 4).toNat)
  have hv := Rl_avenue k MX MM   hk hMX hMM hR
  refine lv_aload_n hx hb dL_law_274 rfl (lv_at hl 3 rfl) ?_
  refine s_cVi (Wf := WX τ ax) (As := []) (rest := []) hx hb hml hC hLS hA hw hl.1 (mX11_avenue l D τ ax sA sV _   MX hMX _ hv) kX11_avenue ml_L_36 rfl (gX_155 τ ax MX) rfl rfl (Nat.le_of_ble_eq_true rfl) ⟨by decide, by decide⟩ ⟨by show 300 + 20 * k ≤ 601024; omega, by show 6000 + 120 * k ≤ 7293034; omega⟩ (cells' := 300 + 20 * k) (slots' := 6000 + 120 * k) rfl rfl dL_law_275 (fun z1 MX1 H locs hz1 hMX hv hw => ?_)
  refine lv_pop hx hb dL_law_278 rfl ?_
  refine lv_aload_n hx hb dL_law_279 rfl (lv_at hl 2 rfl) ?_
  have hw := hw.rot
  refine s_cVi (Wf := WM τ am) (As := []) (rest := []) hx hb hml hC hLS hA hw hl.1 (mX12_avenue l D τ am sA sV _   MM hMM _ hv) kX12_avenue ml_L_40 rfl (gM_1 τ am MM) rfl rfl (Nat.le_of_ble_eq_true rfl) ⟨by decide, by decide⟩ ⟨by show 300 + 20 * k ≤ 601024; omega, by show 6000 + 120 * k ≤ 7293034; omega⟩ (cells' := 300 + 20 * k) (slots' := 6000 + 120 * k) rfl rfl dL_law_280 (fun z2 MM2 H locs hz2 hMM hv hw => ?_)
  have hw := hw.rot.rot
  refine lv_pop hx hb dL_law_283 rfl ?_
  refine lv_goto (tgt := 1276) hx hb dL_law_284 (by decide) ?_
  exact NEXT MX1 MM2 g _ _ _ _ _ hv hMX hMM hw (lv_sub hl [0, 1, 2, 3, 4] rfl) (by omega) (by omega)
set_option maxHeartbeats 4000000 in
set_option maxRecDepth 100000 in
theorem law_case3 {p : Program} {e : Env} {s : State} {m : MethodId} {below : List Frame} {meth : Method} {c : Code} (l : Launch) (hst : l.stackTraces = false) {b L : Nat} {xs : Nat → Int32} {D : va_G} {τ : Nat → ClassId} {A : Nat → Prop} {sA sV : Nat → Nat} {ax am : Nat → Nat} {ao : Nat} (hx : p.tables.exec = Jvm.exec) (hb : c.code = code) (hml : c.maxLocals = 8) (hC : cx D τ s m #[Value.ref b] RL) (hLS : LK A s s.heap sA sV) (hXX : XX A s) (hA : ∀ q : Nat, s.heap.size ≤ q → A q) (hX : va_X b L xs s s.heap) (hbl : b < s.heap.size) (hbA : ¬ A b) (k : Nat) (hk : k < 512) (hkL : 5 * (k : Int) + 5 ≤ L) (hL : L ≤ 2560)
  (NEXT : ∀ (MX MM : Mem) (g : Int → Int) (H : Heap) (locs : List Loc) (ls : Array Slot) (cc ss : Nat), Rel (k + 1) MX MM → MR MX → MR MM → wS D A s.heap (WX τ ax MX ++ (WM τ am MM ++ [OC τ ao g])) H locs → lv_has ls 8 [(4, .int (iI (5 * (k : Int)))), (3, .ref ao), (2, .ref (am 1)), (1, .ref (ax 155)), (0, .ref b)] → cc ≤ 300 + 20 * (k + 1) → ss ≤ 6000 + 120 * (k + 1) → W p l e room_1 s m #[Value.ref b] below meth c H locs cc ss (lw_Z below #[Value.ref b] s) (F0 m 1276 ls []))
  (MX MM : Mem) (g : Int → Int) (H : Heap) (locs : List Loc) (ls : Array Slot) (hR : Rel k MX MM) (hMX : MR MX) (hMM : MR MM) (hw : wS D A s.heap (WX τ ax MX ++ (WM τ am MM ++ [OC τ ao g])) H locs) (hl : lv_has ls 8 [(4, .int (iI (5 * (k : Int)))), (3, .ref ao), (2, .ref (am 1)), (1, .ref (ax 155)), (0, .ref b)]) : W p l e room_1 s m #[Value.ref b] below meth c H locs (300 + 20 * k) (6000 + 120 * k) (lw_Z below #[Value.ref b] s) (F0 m 287 ls []) := by
  obtain ⟨y1, hy1, ey1⟩ := iI_of (xs (5 * (k : Int) + 1).toNat)
  obtain ⟨y2, hy2, ey2⟩ := iI_of (xs (5 * (k : Int) + 2).toNat)
  obtain ⟨y3, hy3, ey3⟩ := iI_of (xs (5 * (k : Int) + 3).toNat)
  obtain ⟨y4, hy4, ey4⟩ := iI_of (xs (5 * (k : Int) + 4).toNat)
  have hv := Rl_hearses k MX MM   hk hMX hMM hR
  refine lv_aload_n hx hb dL_law_287 rfl (lv_at hl 3 rfl) ?_
  refine s_cVi (Wf := WX τ ax) (As := []) (rest := []) hx hb hml hC hLS hA hw hl.1 (mX11_hearses l D τ ax sA sV _   MX hMX _ hv) kX11_hearses ml_L_41 rfl (gX_155 τ ax MX) rfl rfl (Nat.le_of_ble_eq_true rfl) ⟨by decide, by decide⟩ ⟨by show 300 + 20 * k ≤ 601024; omega, by show 6000 + 120 * k ≤ 7293034; omega⟩ (cells' := 300 + 20 * k) (slots' := 6000 + 120 * k) rfl rfl dL_law_288 (fun z1 MX1 H locs hz1 hMX hv hw => ?_)
  refine lv_pop hx hb dL_law_291 rfl ?_
  refine lv_aload_n hx hb dL_law_292 rfl (lv_at hl 2 rfl) ?_
  have hw := hw.rot
  refine s_cVi (Wf := WM τ am) (As := []) (rest := []) hx hb hml hC hLS hA hw hl.1 (mX12_hearses l D τ am sA sV _   MM hMM _ hv) kX12_hearses ml_L_44 rfl (gM_1 τ am MM) rfl rfl (Nat.le_of_ble_eq_true rfl) ⟨by decide, by decide⟩ ⟨by show 300 + 20 * k ≤ 601024; omega, by show 6000 + 120 * k ≤ 7293034; omega⟩ (cells' := 300 + 20 * k) (slots' := 6000 + 120 * k) rfl rfl dL_law_293 (fun z2 MM2 H locs hz2 hMM hv hw => ?_)
  have hw := hw.rot.rot
  refine lv_pop hx hb dL_law_296 rfl ?_
  refine lv_goto (tgt := 1276) hx hb dL_law_297 (by decide) ?_
  exact NEXT MX1 MM2 g _ _ _ _ _ hv hMX hMM hw (lv_sub hl [0, 1, 2, 3, 4] rfl) (by omega) (by omega)
set_option maxHeartbeats 4000000 in
set_option maxRecDepth 100000 in
theorem law_case4 {p : Program} {e : Env} {s : State} {m : MethodId} {below : List Frame} {meth : Method} {c : Code} (l : Launch) (hst : l.stackTraces = false) {b L : Nat} {xs : Nat → Int32} {D : va_G} {τ : Nat → ClassId} {A : Nat → Prop} {sA sV : Nat → Nat} {ax am : Nat → Nat} {ao : Nat} (hx : p.tables.exec = Jvm.exec) (hb : c.code = code) (hml : c.maxLocals = 8) (hC : cx D τ s m #[Value.ref b] RL) (hLS : LK A s s.heap sA sV) (hXX : XX A s) (hA : ∀ q : Nat, s.heap.size ≤ q → A q) (hX : va_X b L xs s s.heap) (hbl : b < s.heap.size) (hbA : ¬ A b) (k : Nat) (hk : k < 512) (hkL : 5 * (k : Int) + 5 ≤ L) (hL : L ≤ 2560)
  (NEXT : ∀ (MX MM : Mem) (g : Int → Int) (H : Heap) (locs : List Loc) (ls : Array Slot) (cc ss : Nat), Rel (k + 1) MX MM → MR MX → MR MM → wS D A s.heap (WX τ ax MX ++ (WM τ am MM ++ [OC τ ao g])) H locs → lv_has ls 8 [(4, .int (iI (5 * (k : Int)))), (3, .ref ao), (2, .ref (am 1)), (1, .ref (ax 155)), (0, .ref b)] → cc ≤ 300 + 20 * (k + 1) → ss ≤ 6000 + 120 * (k + 1) → W p l e room_1 s m #[Value.ref b] below meth c H locs cc ss (lw_Z below #[Value.ref b] s) (F0 m 1276 ls []))
  (MX MM : Mem) (g : Int → Int) (H : Heap) (locs : List Loc) (ls : Array Slot) (hR : Rel k MX MM) (hMX : MR MX) (hMM : MR MM) (hw : wS D A s.heap (WX τ ax MX ++ (WM τ am MM ++ [OC τ ao g])) H locs) (hl : lv_has ls 8 [(4, .int (iI (5 * (k : Int)))), (3, .ref ao), (2, .ref (am 1)), (1, .ref (ax 155)), (0, .ref b)]) : W p l e room_1 s m #[Value.ref b] below meth c H locs (300 + 20 * k) (6000 + 120 * k) (lw_Z below #[Value.ref b] s) (F0 m 300 ls []) := by
  obtain ⟨y1, hy1, ey1⟩ := iI_of (xs (5 * (k : Int) + 1).toNat)
  obtain ⟨y2, hy2, ey2⟩ := iI_of (xs (5 * (k : Int) + 2).toNat)
  obtain ⟨y3, hy3, ey3⟩ := iI_of (xs (5 * (k : Int) + 3).toNat)
  obtain ⟨y4, hy4, ey4⟩ := iI_of (xs (5 * (k : Int) + 4).toNat)
  have hv := Rl_mourners k MX MM   hk hMX hMM hR
  refine lv_aload_n hx hb dL_law_300 rfl (lv_at hl 3 rfl) ?_
  refine s_cVi (Wf := WX τ ax) (As := []) (rest := []) hx hb hml hC hLS hA hw hl.1 (mX11_mourners l D τ ax sA sV _   MX hMX _ hv) kX11_mourners ml_L_45 rfl (gX_155 τ ax MX) rfl rfl (Nat.le_of_ble_eq_true rfl) ⟨by decide, by decide⟩ ⟨by show 300 + 20 * k ≤ 601024; omega, by show 6000 + 120 * k ≤ 7293034; omega⟩ (cells' := 300 + 20 * k) (slots' := 6000 + 120 * k) rfl rfl dL_law_301 (fun z1 MX1 H locs hz1 hMX hv hw => ?_)
  refine lv_pop hx hb dL_law_304 rfl ?_
  refine lv_aload_n hx hb dL_law_305 rfl (lv_at hl 2 rfl) ?_
  have hw := hw.rot
  refine s_cVi (Wf := WM τ am) (As := []) (rest := []) hx hb hml hC hLS hA hw hl.1 (mX12_mourners l D τ am sA sV _   MM hMM _ hv) kX12_mourners ml_L_48 rfl (gM_1 τ am MM) rfl rfl (Nat.le_of_ble_eq_true rfl) ⟨by decide, by decide⟩ ⟨by show 300 + 20 * k + 20 ≤ 601024; omega, by show 6000 + 120 * k + 120 ≤ 7293034; omega⟩ (cells' := 300 + 20 * k + 20) (slots' := 6000 + 120 * k + 120) rfl rfl dL_law_306 (fun z2 MM2 H locs hz2 hMM hv hw => ?_)
  have hw := hw.rot.rot
  refine lv_pop hx hb dL_law_309 rfl ?_
  refine lv_goto (tgt := 1276) hx hb dL_law_310 (by decide) ?_
  exact NEXT MX1 MM2 g _ _ _ _ _ hv hMX hMM hw (lv_sub hl [0, 1, 2, 3, 4] rfl) (by omega) (by omega)
set_option maxHeartbeats 4000000 in
set_option maxRecDepth 100000 in
theorem law_case5 {p : Program} {e : Env} {s : State} {m : MethodId} {below : List Frame} {meth : Method} {c : Code} (l : Launch) (hst : l.stackTraces = false) {b L : Nat} {xs : Nat → Int32} {D : va_G} {τ : Nat → ClassId} {A : Nat → Prop} {sA sV : Nat → Nat} {ax am : Nat → Nat} {ao : Nat} (hx : p.tables.exec = Jvm.exec) (hb : c.code = code) (hml : c.maxLocals = 8) (hC : cx D τ s m #[Value.ref b] RL) (hLS : LK A s s.heap sA sV) (hXX : XX A s) (hA : ∀ q : Nat, s.heap.size ≤ q → A q) (hX : va_X b L xs s s.heap) (hbl : b < s.heap.size) (hbA : ¬ A b) (k : Nat) (hk : k < 512) (hkL : 5 * (k : Int) + 5 ≤ L) (hL : L ≤ 2560)
  (NEXT : ∀ (MX MM : Mem) (g : Int → Int) (H : Heap) (locs : List Loc) (ls : Array Slot) (cc ss : Nat), Rel (k + 1) MX MM → MR MX → MR MM → wS D A s.heap (WX τ ax MX ++ (WM τ am MM ++ [OC τ ao g])) H locs → lv_has ls 8 [(4, .int (iI (5 * (k : Int)))), (3, .ref ao), (2, .ref (am 1)), (1, .ref (ax 155)), (0, .ref b)] → cc ≤ 300 + 20 * (k + 1) → ss ≤ 6000 + 120 * (k + 1) → W p l e room_1 s m #[Value.ref b] below meth c H locs cc ss (lw_Z below #[Value.ref b] s) (F0 m 1276 ls []))
  (MX MM : Mem) (g : Int → Int) (H : Heap) (locs : List Loc) (ls : Array Slot) (hR : Rel k MX MM) (hMX : MR MX) (hMM : MR MM) (hw : wS D A s.heap (WX τ ax MX ++ (WM τ am MM ++ [OC τ ao g])) H locs) (hl : lv_has ls 8 [(4, .int (iI (5 * (k : Int)))), (3, .ref ao), (2, .ref (am 1)), (1, .ref (ax 155)), (0, .ref b)]) : W p l e room_1 s m #[Value.ref b] below meth c H locs (300 + 20 * k) (6000 + 120 * k) (lw_Z below #[Value.ref b] s) (F0 m 313 ls []) := by
  obtain ⟨y1, hy1, ey1⟩ := iI_of (xs (5 * (k : Int) + 1).toNat)
  obtain ⟨y2, hy2, ey2⟩ := iI_of (xs (5 * (k : Int) + 2).toNat)
  obtain ⟨y3, hy3, ey3⟩ := iI_of (xs (5 * (k : Int) + 3).toNat)
  obtain ⟨y4, hy4, ey4⟩ := iI_of (xs (5 * (k : Int) + 4).toNat)
  have hv := Rl_weather k MX MM   hk hMX hMM hR
  refine lv_aload_n hx hb dL_law_313 rfl (lv_at hl 3 rfl) ?_
  refine s_cVi (Wf := WX τ ax) (As := []) (rest := []) hx hb hml hC hLS hA hw hl.1 (mX11_weather l D τ ax sA sV _   MX hMX _ hv) kX11_weather ml_L_49 rfl (gX_155 τ ax MX) rfl rfl (Nat.le_of_ble_eq_true rfl) ⟨by decide, by decide⟩ ⟨by show 300 + 20 * k ≤ 601024; omega, by show 6000 + 120 * k ≤ 7293034; omega⟩ (cells' := 300 + 20 * k) (slots' := 6000 + 120 * k) rfl rfl dL_law_314 (fun z1 MX1 H locs hz1 hMX hv hw => ?_)
  refine lv_pop hx hb dL_law_317 rfl ?_
  refine lv_aload_n hx hb dL_law_318 rfl (lv_at hl 2 rfl) ?_
  have hw := hw.rot
  refine s_cVi (Wf := WM τ am) (As := []) (rest := []) hx hb hml hC hLS hA hw hl.1 (mX12_weather l D τ am sA sV _   MM hMM _ hv) kX12_weather ml_L_52 rfl (gM_1 τ am MM) rfl rfl (Nat.le_of_ble_eq_true rfl) ⟨by decide, by decide⟩ ⟨by show 300 + 20 * k ≤ 601024; omega, by show 6000 + 120 * k ≤ 7293034; omega⟩ (cells' := 300 + 20 * k) (slots' := 6000 + 120 * k) rfl rfl dL_law_319 (fun z2 MM2 H locs hz2 hMM hv hw => ?_)
  have hw := hw.rot.rot
  refine lv_pop hx hb dL_law_322 rfl ?_
  refine lv_goto (tgt := 1276) hx hb dL_law_323 (by decide) ?_
  exact NEXT MX1 MM2 g _ _ _ _ _ hv hMX hMM hw (lv_sub hl [0, 1, 2, 3, 4] rfl) (by omega) (by omega)
set_option maxHeartbeats 4000000 in
set_option maxRecDepth 100000 in
theorem law_case6 {p : Program} {e : Env} {s : State} {m : MethodId} {below : List Frame} {meth : Method} {c : Code} (l : Launch) (hst : l.stackTraces = false) {b L : Nat} {xs : Nat → Int32} {D : va_G} {τ : Nat → ClassId} {A : Nat → Prop} {sA sV : Nat → Nat} {ax am : Nat → Nat} {ao : Nat} (hx : p.tables.exec = Jvm.exec) (hb : c.code = code) (hml : c.maxLocals = 8) (hC : cx D τ s m #[Value.ref b] RL) (hLS : LK A s s.heap sA sV) (hXX : XX A s) (hA : ∀ q : Nat, s.heap.size ≤ q → A q) (hX : va_X b L xs s s.heap) (hbl : b < s.heap.size) (hbA : ¬ A b) (k : Nat) (hk : k < 512) (hkL : 5 * (k : Int) + 5 ≤ L) (hL : L ≤ 2560)
  (NEXT : ∀ (MX MM : Mem) (g : Int → Int) (H : Heap) (locs : List Loc) (ls : Array Slot) (cc ss : Nat), Rel (k + 1) MX MM → MR MX → MR MM → wS D A s.heap (WX τ ax MX ++ (WM τ am MM ++ [OC τ ao g])) H locs → lv_has ls 8 [(4, .int (iI (5 * (k : Int)))), (3, .ref ao), (2, .ref (am 1)), (1, .ref (ax 155)), (0, .ref b)] → cc ≤ 300 + 20 * (k + 1) → ss ≤ 6000 + 120 * (k + 1) → W p l e room_1 s m #[Value.ref b] below meth c H locs cc ss (lw_Z below #[Value.ref b] s) (F0 m 1276 ls []))
  (MX MM : Mem) (g : Int → Int) (H : Heap) (locs : List Loc) (ls : Array Slot) (hR : Rel k MX MM) (hMX : MR MX) (hMM : MR MM) (hw : wS D A s.heap (WX τ ax MX ++ (WM τ am MM ++ [OC τ ao g])) H locs) (hl : lv_has ls 8 [(4, .int (iI (5 * (k : Int)))), (3, .ref ao), (2, .ref (am 1)), (1, .ref (ax 155)), (0, .ref b)]) : W p l e room_1 s m #[Value.ref b] below meth c H locs (300 + 20 * k) (6000 + 120 * k) (lw_Z below #[Value.ref b] s) (F0 m 326 ls []) := by
  obtain ⟨y1, hy1, ey1⟩ := iI_of (xs (5 * (k : Int) + 1).toNat)
  obtain ⟨y2, hy2, ey2⟩ := iI_of (xs (5 * (k : Int) + 2).toNat)
  obtain ⟨y3, hy3, ey3⟩ := iI_of (xs (5 * (k : Int) + 3).toNat)
  obtain ⟨y4, hy4, ey4⟩ := iI_of (xs (5 * (k : Int) + 4).toNat)
  have hv := Rl_rule k MX MM   hk hMX hMM hR
  refine lv_aload_n hx hb dL_law_326 rfl (lv_at hl 3 rfl) ?_
  refine s_cVi (Wf := WX τ ax) (As := []) (rest := []) hx hb hml hC hLS hA hw hl.1 (mX11_rule l D τ ax sA sV _   MX hMX _ hv) kX11_rule ml_L_53 rfl (gX_155 τ ax MX) rfl rfl (Nat.le_of_ble_eq_true rfl) ⟨by decide, by decide⟩ ⟨by show 300 + 20 * k ≤ 601024; omega, by show 6000 + 120 * k ≤ 7293034; omega⟩ (cells' := 300 + 20 * k) (slots' := 6000 + 120 * k) rfl rfl dL_law_327 (fun z1 MX1 H locs hz1 hMX hv hw => ?_)
  refine lv_pop hx hb dL_law_330 rfl ?_
  refine lv_aload_n hx hb dL_law_331 rfl (lv_at hl 2 rfl) ?_
  have hw := hw.rot
  refine s_cVi (Wf := WM τ am) (As := []) (rest := []) hx hb hml hC hLS hA hw hl.1 (mX12_rule l D τ am sA sV _   MM hMM _ hv) kX12_rule ml_L_56 rfl (gM_1 τ am MM) rfl rfl (Nat.le_of_ble_eq_true rfl) ⟨by decide, by decide⟩ ⟨by show 300 + 20 * k ≤ 601024; omega, by show 6000 + 120 * k ≤ 7293034; omega⟩ (cells' := 300 + 20 * k) (slots' := 6000 + 120 * k) rfl rfl dL_law_332 (fun z2 MM2 H locs hz2 hMM hv hw => ?_)
  have hw := hw.rot.rot
  refine lv_pop hx hb dL_law_335 rfl ?_
  refine lv_goto (tgt := 1276) hx hb dL_law_336 (by decide) ?_
  exact NEXT MX1 MM2 g _ _ _ _ _ hv hMX hMM hw (lv_sub hl [0, 1, 2, 3, 4] rfl) (by omega) (by omega)
set_option maxHeartbeats 4000000 in
set_option maxRecDepth 100000 in
theorem law_case7 {p : Program} {e : Env} {s : State} {m : MethodId} {below : List Frame} {meth : Method} {c : Code} (l : Launch) (hst : l.stackTraces = false) {b L : Nat} {xs : Nat → Int32} {D : va_G} {τ : Nat → ClassId} {A : Nat → Prop} {sA sV : Nat → Nat} {ax am : Nat → Nat} {ao : Nat} (hx : p.tables.exec = Jvm.exec) (hb : c.code = code) (hml : c.maxLocals = 8) (hC : cx D τ s m #[Value.ref b] RL) (hLS : LK A s s.heap sA sV) (hXX : XX A s) (hA : ∀ q : Nat, s.heap.size ≤ q → A q) (hX : va_X b L xs s s.heap) (hbl : b < s.heap.size) (hbA : ¬ A b) (k : Nat) (hk : k < 512) (hkL : 5 * (k : Int) + 5 ≤ L) (hL : L ≤ 2560)
  (NEXT : ∀ (MX MM : Mem) (g : Int → Int) (H : Heap) (locs : List Loc) (ls : Array Slot) (cc ss : Nat), Rel (k + 1) MX MM → MR MX → MR MM → wS D A s.heap (WX τ ax MX ++ (WM τ am MM ++ [OC τ ao g])) H locs → lv_has ls 8 [(4, .int (iI (5 * (k : Int)))), (3, .ref ao), (2, .ref (am 1)), (1, .ref (ax 155)), (0, .ref b)] → cc ≤ 300 + 20 * (k + 1) → ss ≤ 6000 + 120 * (k + 1) → W p l e room_1 s m #[Value.ref b] below meth c H locs cc ss (lw_Z below #[Value.ref b] s) (F0 m 1276 ls []))
  (MX MM : Mem) (g : Int → Int) (H : Heap) (locs : List Loc) (ls : Array Slot) (hR : Rel k MX MM) (hMX : MR MX) (hMM : MR MM) (hw : wS D A s.heap (WX τ ax MX ++ (WM τ am MM ++ [OC τ ao g])) H locs) (hl : lv_has ls 8 [(4, .int (iI (5 * (k : Int)))), (3, .ref ao), (2, .ref (am 1)), (1, .ref (ax 155)), (0, .ref b)]) : W p l e room_1 s m #[Value.ref b] below meth c H locs (300 + 20 * k) (6000 + 120 * k) (lw_Z below #[Value.ref b] s) (F0 m 339 ls []) := by
  obtain ⟨y1, hy1, ey1⟩ := iI_of (xs (5 * (k : Int) + 1).toNat)
  obtain ⟨y2, hy2, ey2⟩ := iI_of (xs (5 * (k : Int) + 2).toNat)
  obtain ⟨y3, hy3, ey3⟩ := iI_of (xs (5 * (k : Int) + 3).toNat)
  obtain ⟨y4, hy4, ey4⟩ := iI_of (xs (5 * (k : Int) + 4).toNat)
  have hv := Rl_hearse k MX MM y1 y2 hy1 hy2 hk hMX hMM hR
  refine lv_aload_n hx hb dL_law_339 rfl (lv_at hl 3 rfl) ?_
  refine lv_aload_n hx hb dL_law_340 rfl (lv_at hl 4 rfl) ?_
  refine lv_iload hx hb dL_law_341 (lv_at hl 0 rfl) ?_
  refine r_iconst hx hb dL_law_343 ?_
  refine r_iadd (z := 5 * (k : Int) + 1) hx hb dL_law_344 rfl ?_
  refine r_sld hx hb hX hbl hbA hw (by omega) (by omega) (by omega) ey1 dL_law_345 ?_
  refine lv_aload_n hx hb dL_law_346 rfl (lv_at hl 4 rfl) ?_
  refine lv_iload hx hb dL_law_347 (lv_at hl 0 rfl) ?_
  refine r_iconst hx hb dL_law_349 ?_
  refine r_iadd (z := 5 * (k : Int) + 2) hx hb dL_law_350 rfl ?_
  refine r_sld hx hb hX hbl hbA hw (by omega) (by omega) (by omega) ey2 dL_law_351 ?_
  refine lv_aload_n hx hb dL_law_352 rfl (lv_at hl 1 rfl) ?_
  have hw := hw.rot.swap
  refine g_cW (n := 4) (wc := OC τ ao g :: WX τ ax MX) (wr := WM τ am MM) (As := [.ref (ax 155), .int (iI y1), .int (iI y2), .ref ao]) (rest := []) hx hb hml hC hA hLS hXX hw hl.1 (lw_hearse l hst D τ ax sA sV _ ao g y1 y2 hy1 hy2 MX hMX _ _ hv) g_law_hearse ⟨by decide +kernel, by decide +kernel, by decide +kernel⟩ (List.range (OC τ ao g :: WX τ ax MX).length) ((List.range (WM τ am MM).length).map (fun i => i + (OC τ ao g :: WX τ ax MX).length)) (pick_l _ _) (pick_r _ _) (va_nd_range _) (nd_of (nodup_shift _ _)) (fun i hi h => by obtain ⟨j, _, rfl⟩ := List.mem_map.mp hi; have := List.mem_range.mp h; omega) rfl rfl (Nat.le_of_ble_eq_true rfl) ⟨by decide, by decide⟩ ⟨by show 300 + 20 * k + 1 ≤ 601024; omega, by show 6000 + 120 * k + 6 ≤ 7293034; omega⟩ (cells' := 300 + 20 * k + 1) (slots' := 6000 + 120 * k + 6) rfl rfl dL_law_353 (fun z1 w1 H locs hz1 hE hw => ?_)
  obtain ⟨MX1, g1, hMX, hE, rfl⟩ := hE
  have hw : wS D A s.heap (WM τ am MM ++ ([OC τ ao g1] ++ WX τ ax MX1)) H locs := hw
  have hw := hw.rot.rot
  rcases hE with ⟨rfl, v1, hv1, hv, hg1⟩ | ⟨rfl, hv, hg1⟩
  · skip
    refine lv_istore (lv' := [(5, .int (iI 0)), (4, .int (iI (5 * (k : Int)))), (3, .ref ao), (2, .ref (am 1)), (1, .ref (ax 155)), (0, .ref b)]) hx hb dL_law_356 hl (by decide) rfl (fun ls hl => ?_)
    refine lv_aload_n hx hb dL_law_358 rfl (lv_at hl 3 rfl) ?_
    refine lv_aload_n hx hb dL_law_359 rfl (lv_at hl 5 rfl) ?_
    refine lv_iload hx hb dL_law_360 (lv_at hl 1 rfl) ?_
    refine r_iconst hx hb dL_law_362 ?_
    refine r_iadd (z := 5 * (k : Int) + 1) hx hb dL_law_363 rfl ?_
    refine r_sld hx hb hX hbl hbA hw (by omega) (by omega) (by omega) ey1 dL_law_364 ?_
    refine lv_aload_n hx hb dL_law_365 rfl (lv_at hl 5 rfl) ?_
    refine lv_iload hx hb dL_law_366 (lv_at hl 1 rfl) ?_
    refine r_iconst hx hb dL_law_368 ?_
    refine r_iadd (z := 5 * (k : Int) + 2) hx hb dL_law_369 rfl ?_
    refine r_sld hx hb hX hbl hbA hw (by omega) (by omega) (by omega) ey2 dL_law_370 ?_
    have hw := hw.rot
    refine s_cVi (Wf := WM τ am) (As := [.int (iI y1), .int (iI y2)]) (rest := []) hx hb hml hC hLS hA hw hl.1 (mX12_hearse l D τ am sA sV _ y1 y2 hy1 hy2 MM hMM _ hv) kX12_hearse ml_L_62 rfl (gM_1 τ am MM) rfl rfl (Nat.le_of_ble_eq_true rfl) ⟨by decide, by decide⟩ ⟨by show 300 + 20 * k + 1 ≤ 601024; omega, by show 6000 + 120 * k + 6 ≤ 7293034; omega⟩ (cells' := 300 + 20 * k + 1) (slots' := 6000 + 120 * k + 6) rfl rfl dL_law_371 (fun z2 MM2 H locs hz2 hMM hv hw => ?_)
    have hw := hw.rot.rot
    refine lv_istore (lv' := [(6, .int (iI z2)), (5, .int (iI 0)), (4, .int (iI (5 * (k : Int)))), (3, .ref ao), (2, .ref (am 1)), (1, .ref (ax 155)), (0, .ref b)]) hx hb dL_law_374 hl (by decide) rfl (fun ls hl => ?_)
    refine lv_goto (tgt := 1276) hx hb dL_law_376 (by decide) ?_
    exact NEXT MX1 MM2 g1 _ _ _ _ _ hv hMX hMM hw (lv_sub hl [2, 3, 4, 5, 6] rfl) (by omega) (by omega)
  · skip
    refine lv_istore (lv' := [(5, .int (iI 1)), (4, .int (iI (5 * (k : Int)))), (3, .ref ao), (2, .ref (am 1)), (1, .ref (ax 155)), (0, .ref b)]) hx hb dL_law_356 hl (by decide) rfl (fun ls hl => ?_)
    refine lv_aload_n hx hb dL_law_358 rfl (lv_at hl 3 rfl) ?_
    refine lv_aload_n hx hb dL_law_359 rfl (lv_at hl 5 rfl) ?_
    refine lv_iload hx hb dL_law_360 (lv_at hl 1 rfl) ?_
    refine r_iconst hx hb dL_law_362 ?_
    refine r_iadd (z := 5 * (k : Int) + 1) hx hb dL_law_363 rfl ?_
    refine r_sld hx hb hX hbl hbA hw (by omega) (by omega) (by omega) ey1 dL_law_364 ?_
    refine lv_aload_n hx hb dL_law_365 rfl (lv_at hl 5 rfl) ?_
    refine lv_iload hx hb dL_law_366 (lv_at hl 1 rfl) ?_
    refine r_iconst hx hb dL_law_368 ?_
    refine r_iadd (z := 5 * (k : Int) + 2) hx hb dL_law_369 rfl ?_
    refine r_sld hx hb hX hbl hbA hw (by omega) (by omega) (by omega) ey2 dL_law_370 ?_
    have hw := hw.rot
    refine s_cVi (Wf := WM τ am) (As := [.int (iI y1), .int (iI y2)]) (rest := []) hx hb hml hC hLS hA hw hl.1 (mX12_hearse l D τ am sA sV _ y1 y2 hy1 hy2 MM hMM _ hv) kX12_hearse ml_L_62 rfl (gM_1 τ am MM) rfl rfl (Nat.le_of_ble_eq_true rfl) ⟨by decide, by decide⟩ ⟨by show 300 + 20 * k + 1 ≤ 601024; omega, by show 6000 + 120 * k + 6 ≤ 7293034; omega⟩ (cells' := 300 + 20 * k + 1) (slots' := 6000 + 120 * k + 6) rfl rfl dL_law_371 (fun z3 MM3 H locs hz3 hMM hv hw => ?_)
    have hw := hw.rot.rot
    refine lv_istore (lv' := [(6, .int (iI z3)), (5, .int (iI 1)), (4, .int (iI (5 * (k : Int)))), (3, .ref ao), (2, .ref (am 1)), (1, .ref (ax 155)), (0, .ref b)]) hx hb dL_law_374 hl (by decide) rfl (fun ls hl => ?_)
    refine lv_goto (tgt := 1276) hx hb dL_law_376 (by decide) ?_
    exact NEXT MX1 MM3 g1 _ _ _ _ _ hv hMX hMM hw (lv_sub hl [2, 3, 4, 5, 6] rfl) (by omega) (by omega)
set_option maxHeartbeats 4000000 in
set_option maxRecDepth 100000 in
theorem law_case8 {p : Program} {e : Env} {s : State} {m : MethodId} {below : List Frame} {meth : Method} {c : Code} (l : Launch) (hst : l.stackTraces = false) {b L : Nat} {xs : Nat → Int32} {D : va_G} {τ : Nat → ClassId} {A : Nat → Prop} {sA sV : Nat → Nat} {ax am : Nat → Nat} {ao : Nat} (hx : p.tables.exec = Jvm.exec) (hb : c.code = code) (hml : c.maxLocals = 8) (hC : cx D τ s m #[Value.ref b] RL) (hLS : LK A s s.heap sA sV) (hXX : XX A s) (hA : ∀ q : Nat, s.heap.size ≤ q → A q) (hX : va_X b L xs s s.heap) (hbl : b < s.heap.size) (hbA : ¬ A b) (k : Nat) (hk : k < 512) (hkL : 5 * (k : Int) + 5 ≤ L) (hL : L ≤ 2560)
  (NEXT : ∀ (MX MM : Mem) (g : Int → Int) (H : Heap) (locs : List Loc) (ls : Array Slot) (cc ss : Nat), Rel (k + 1) MX MM → MR MX → MR MM → wS D A s.heap (WX τ ax MX ++ (WM τ am MM ++ [OC τ ao g])) H locs → lv_has ls 8 [(4, .int (iI (5 * (k : Int)))), (3, .ref ao), (2, .ref (am 1)), (1, .ref (ax 155)), (0, .ref b)] → cc ≤ 300 + 20 * (k + 1) → ss ≤ 6000 + 120 * (k + 1) → W p l e room_1 s m #[Value.ref b] below meth c H locs cc ss (lw_Z below #[Value.ref b] s) (F0 m 1276 ls []))
  (MX MM : Mem) (g : Int → Int) (H : Heap) (locs : List Loc) (ls : Array Slot) (hR : Rel k MX MM) (hMX : MR MX) (hMM : MR MM) (hw : wS D A s.heap (WX τ ax MX ++ (WM τ am MM ++ [OC τ ao g])) H locs) (hl : lv_has ls 8 [(4, .int (iI (5 * (k : Int)))), (3, .ref ao), (2, .ref (am 1)), (1, .ref (ax 155)), (0, .ref b)]) : W p l e room_1 s m #[Value.ref b] below meth c H locs (300 + 20 * k) (6000 + 120 * k) (lw_Z below #[Value.ref b] s) (F0 m 379 ls []) := by
  obtain ⟨y1, hy1, ey1⟩ := iI_of (xs (5 * (k : Int) + 1).toNat)
  obtain ⟨y2, hy2, ey2⟩ := iI_of (xs (5 * (k : Int) + 2).toNat)
  obtain ⟨y3, hy3, ey3⟩ := iI_of (xs (5 * (k : Int) + 3).toNat)
  obtain ⟨y4, hy4, ey4⟩ := iI_of (xs (5 * (k : Int) + 4).toNat)
  have hv := Rl_mourner k MX MM y1 y2 hy1 hy2 hk hMX hMM hR
  refine lv_aload_n hx hb dL_law_379 rfl (lv_at hl 3 rfl) ?_
  refine lv_aload_n hx hb dL_law_380 rfl (lv_at hl 4 rfl) ?_
  refine lv_iload hx hb dL_law_381 (lv_at hl 0 rfl) ?_
  refine r_iconst hx hb dL_law_383 ?_
  refine r_iadd (z := 5 * (k : Int) + 1) hx hb dL_law_384 rfl ?_
  refine r_sld hx hb hX hbl hbA hw (by omega) (by omega) (by omega) ey1 dL_law_385 ?_
  refine lv_aload_n hx hb dL_law_386 rfl (lv_at hl 4 rfl) ?_
  refine lv_iload hx hb dL_law_387 (lv_at hl 0 rfl) ?_
  refine r_iconst hx hb dL_law_389 ?_
  refine r_iadd (z := 5 * (k : Int) + 2) hx hb dL_law_390 rfl ?_
  refine r_sld hx hb hX hbl hbA hw (by omega) (by omega) (by omega) ey2 dL_law_391 ?_
  refine lv_aload_n hx hb dL_law_392 rfl (lv_at hl 1 rfl) ?_
  have hw := hw.rot.swap
  refine g_cW (n := 4) (wc := OC τ ao g :: WX τ ax MX) (wr := WM τ am MM) (As := [.ref (ax 155), .int (iI y1), .int (iI y2), .ref ao]) (rest := []) hx hb hml hC hA hLS hXX hw hl.1 (lw_mourner l hst D τ ax sA sV _ ao g y1 y2 hy1 hy2 MX hMX _ _ hv) g_law_mourner ⟨by decide +kernel, by decide +kernel, by decide +kernel⟩ (List.range (OC τ ao g :: WX τ ax MX).length) ((List.range (WM τ am MM).length).map (fun i => i + (OC τ ao g :: WX τ ax MX).length)) (pick_l _ _) (pick_r _ _) (va_nd_range _) (nd_of (nodup_shift _ _)) (fun i hi h => by obtain ⟨j, _, rfl⟩ := List.mem_map.mp hi; have := List.mem_range.mp h; omega) rfl rfl (Nat.le_of_ble_eq_true rfl) ⟨by decide, by decide⟩ ⟨by show 300 + 20 * k + 1 ≤ 601024; omega, by show 6000 + 120 * k + 6 ≤ 7293034; omega⟩ (cells' := 300 + 20 * k + 1) (slots' := 6000 + 120 * k + 6) rfl rfl dL_law_393 (fun z1 w1 H locs hz1 hE hw => ?_)
  obtain ⟨MX1, g1, hMX, hE, rfl⟩ := hE
  have hw : wS D A s.heap (WM τ am MM ++ ([OC τ ao g1] ++ WX τ ax MX1)) H locs := hw
  have hw := hw.rot.rot
  rcases hE with ⟨rfl, v1, hv1, hv, hg1⟩ | ⟨rfl, hv, hg1⟩
  · skip
    refine lv_istore (lv' := [(5, .int (iI 0)), (4, .int (iI (5 * (k : Int)))), (3, .ref ao), (2, .ref (am 1)), (1, .ref (ax 155)), (0, .ref b)]) hx hb dL_law_396 hl (by decide) rfl (fun ls hl => ?_)
    refine lv_aload_n hx hb dL_law_398 rfl (lv_at hl 3 rfl) ?_
    refine lv_aload_n hx hb dL_law_399 rfl (lv_at hl 5 rfl) ?_
    refine lv_iload hx hb dL_law_400 (lv_at hl 1 rfl) ?_
    refine r_iconst hx hb dL_law_402 ?_
    refine r_iadd (z := 5 * (k : Int) + 1) hx hb dL_law_403 rfl ?_
    refine r_sld hx hb hX hbl hbA hw (by omega) (by omega) (by omega) ey1 dL_law_404 ?_
    refine lv_aload_n hx hb dL_law_405 rfl (lv_at hl 5 rfl) ?_
    refine lv_iload hx hb dL_law_406 (lv_at hl 1 rfl) ?_
    refine r_iconst hx hb dL_law_408 ?_
    refine r_iadd (z := 5 * (k : Int) + 2) hx hb dL_law_409 rfl ?_
    refine r_sld hx hb hX hbl hbA hw (by omega) (by omega) (by omega) ey2 dL_law_410 ?_
    have hw := hw.rot
    refine s_cVi (Wf := WM τ am) (As := [.int (iI y1), .int (iI y2)]) (rest := []) hx hb hml hC hLS hA hw hl.1 (mX12_mourner l D τ am sA sV _ y1 y2 hy1 hy2 MM hMM _ hv) kX12_mourner ml_L_65 rfl (gM_1 τ am MM) rfl rfl (Nat.le_of_ble_eq_true rfl) ⟨by decide, by decide⟩ ⟨by show 300 + 20 * k + 1 ≤ 601024; omega, by show 6000 + 120 * k + 6 ≤ 7293034; omega⟩ (cells' := 300 + 20 * k + 1) (slots' := 6000 + 120 * k + 6) rfl rfl dL_law_411 (fun z2 MM2 H locs hz2 hMM hv hw => ?_)
    have hw := hw.rot.rot
    refine lv_istore (lv' := [(6, .int (iI z2)), (5, .int (iI 0)), (4, .int (iI (5 * (k : Int)))), (3, .ref ao), (2, .ref (am 1)), (1, .ref (ax 155)), (0, .ref b)]) hx hb dL_law_414 hl (by decide) rfl (fun ls hl => ?_)
    refine lv_aload_n hx hb dL_law_416 rfl (lv_at hl 4 rfl) ?_
    have hw := hw.rot
    refine s_cVi (Wf := WM τ am) (As := []) (rest := []) hx hb hml hC hLS hA hw hl.1 (mX12_thrown l D τ am sA sV _ MM2 hMM _ (show qX12_thrown MM2 (fun z M' => z = MM2 1 0 ∧ M' = MM2) from fun x1 e1 _ => ⟨e1, rfl⟩)) kX12_thrown ml_L_66 rfl (gM_1 τ am MM2) rfl rfl (Nat.le_of_ble_eq_true rfl) ⟨by decide, by decide⟩ ⟨by show 300 + 20 * k + 1 ≤ 601024; omega, by show 6000 + 120 * k + 6 ≤ 7293034; omega⟩ (cells' := 300 + 20 * k + 1) (slots' := 6000 + 120 * k + 6) rfl rfl dL_law_417 (fun z3 MMt H locs hz3 hMMt ht hw => ?_)
    obtain ⟨ez3, et⟩ := ht
    rw [et] at hw
    have hw := hw.rot.rot
    refine lv_iload hx hb dL_law_420 (lv_at hl 1 rfl) ?_
    refine r_icmp_eq (tgt := 427) hx hb dL_law_422 (by decide) hz3 (show iR 0 by decide) (fun _ => ?_) (fun h => absurd (by rw [ez3]; exact hv.2.1) h)
    refine lv_iload hx hb dL_law_427 (lv_at hl 1 rfl) ?_
    refine r_if_ne (tgt := 444) hx hb dL_law_429 (by decide) (show iR 0 by decide) (fun h => absurd rfl h) (fun _ => ?_)
    refine lv_aload_n hx hb dL_law_432 rfl (lv_at hl 3 rfl) ?_
    refine r_iconst hx hb dL_law_433 ?_
    have eg : g1 0 = v1 := by rw [hg1, upS]
    refine r_lald (g := g1) hx hb hC hw.rot.rot 0 rfl (by decide) (by decide) (by decide) dL_law_434 ?_
    refine lv_iload hx hb dL_law_435 (lv_at hl 0 rfl) ?_
    refine r_i2l hx hb dL_law_437 hz2 ?_
    refine r_lcmp hx hb (by rw [eg]; exact hv1) (iR_lR hz2) dL_law_438 (fun z4 hz4 hc4 => ?_)
    refine r_if_eq (tgt := 444) hx hb dL_law_439 (by decide) hz4 (fun _ => ?_) (fun h => absurd (show z4 = 0 by have := hv.1; omega) h)
    refine lv_goto (tgt := 1276) hx hb dL_law_444 (by decide) ?_
    exact NEXT MX1 MM2 g1 _ _ _ _ _ hv.2.2 hMX hMM hw (lv_sub hl [2, 3, 4, 5, 6] rfl) (by omega) (by omega)
  · skip
    refine lv_istore (lv' := [(5, .int (iI 1)), (4, .int (iI (5 * (k : Int)))), (3, .ref ao), (2, .ref (am 1)), (1, .ref (ax 155)), (0, .ref b)]) hx hb dL_law_396 hl (by decide) rfl (fun ls hl => ?_)
    refine lv_aload_n hx hb dL_law_398 rfl (lv_at hl 3 rfl) ?_
    refine lv_aload_n hx hb dL_law_399 rfl (lv_at hl 5 rfl) ?_
    refine lv_iload hx hb dL_law_400 (lv_at hl 1 rfl) ?_
    refine r_iconst hx hb dL_law_402 ?_
    refine r_iadd (z := 5 * (k : Int) + 1) hx hb dL_law_403 rfl ?_
    refine r_sld hx hb hX hbl hbA hw (by omega) (by omega) (by omega) ey1 dL_law_404 ?_
    refine lv_aload_n hx hb dL_law_405 rfl (lv_at hl 5 rfl) ?_
    refine lv_iload hx hb dL_law_406 (lv_at hl 1 rfl) ?_
    refine r_iconst hx hb dL_law_408 ?_
    refine r_iadd (z := 5 * (k : Int) + 2) hx hb dL_law_409 rfl ?_
    refine r_sld hx hb hX hbl hbA hw (by omega) (by omega) (by omega) ey2 dL_law_410 ?_
    have hw := hw.rot
    refine s_cVi (Wf := WM τ am) (As := [.int (iI y1), .int (iI y2)]) (rest := []) hx hb hml hC hLS hA hw hl.1 (mX12_mourner l D τ am sA sV _ y1 y2 hy1 hy2 MM hMM _ hv) kX12_mourner ml_L_65 rfl (gM_1 τ am MM) rfl rfl (Nat.le_of_ble_eq_true rfl) ⟨by decide, by decide⟩ ⟨by show 300 + 20 * k + 1 ≤ 601024; omega, by show 6000 + 120 * k + 6 ≤ 7293034; omega⟩ (cells' := 300 + 20 * k + 1) (slots' := 6000 + 120 * k + 6) rfl rfl dL_law_411 (fun z5 MM5 H locs hz5 hMM hv hw => ?_)
    have hw := hw.rot.rot
    refine lv_istore (lv' := [(6, .int (iI z5)), (5, .int (iI 1)), (4, .int (iI (5 * (k : Int)))), (3, .ref ao), (2, .ref (am 1)), (1, .ref (ax 155)), (0, .ref b)]) hx hb dL_law_414 hl (by decide) rfl (fun ls hl => ?_)
    refine lv_aload_n hx hb dL_law_416 rfl (lv_at hl 4 rfl) ?_
    have hw := hw.rot
    refine s_cVi (Wf := WM τ am) (As := []) (rest := []) hx hb hml hC hLS hA hw hl.1 (mX12_thrown l D τ am sA sV _ MM5 hMM _ (show qX12_thrown MM5 (fun z M' => z = MM5 1 0 ∧ M' = MM5) from fun x1 e1 _ => ⟨e1, rfl⟩)) kX12_thrown ml_L_66 rfl (gM_1 τ am MM5) rfl rfl (Nat.le_of_ble_eq_true rfl) ⟨by decide, by decide⟩ ⟨by show 300 + 20 * k + 1 ≤ 601024; omega, by show 6000 + 120 * k + 6 ≤ 7293034; omega⟩ (cells' := 300 + 20 * k + 1) (slots' := 6000 + 120 * k + 6) rfl rfl dL_law_417 (fun z6 MMt H locs hz6 hMMt ht hw => ?_)
    obtain ⟨ez6, et⟩ := ht
    rw [et] at hw
    have hw := hw.rot.rot
    refine lv_iload hx hb dL_law_420 (lv_at hl 1 rfl) ?_
    refine r_icmp_eq (tgt := 427) hx hb dL_law_422 (by decide) hz6 (show iR 1 by decide) (fun _ => ?_) (fun h => absurd (by rw [ez6]; exact hv.1) h)
    refine lv_iload hx hb dL_law_427 (lv_at hl 1 rfl) ?_
    refine r_if_ne (tgt := 444) hx hb dL_law_429 (by decide) (show iR 1 by decide) (fun _ => ?_) (fun h => absurd h (by decide))
    refine lv_goto (tgt := 1276) hx hb dL_law_444 (by decide) ?_
    exact NEXT MX1 MM5 g1 _ _ _ _ _ hv.2 hMX hMM hw (lv_sub hl [2, 3, 4, 5, 6] rfl) (by omega) (by omega)
set_option maxHeartbeats 4000000 in
set_option maxRecDepth 100000 in
theorem law_case9 {p : Program} {e : Env} {s : State} {m : MethodId} {below : List Frame} {meth : Method} {c : Code} (l : Launch) (hst : l.stackTraces = false) {b L : Nat} {xs : Nat → Int32} {D : va_G} {τ : Nat → ClassId} {A : Nat → Prop} {sA sV : Nat → Nat} {ax am : Nat → Nat} {ao : Nat} (hx : p.tables.exec = Jvm.exec) (hb : c.code = code) (hml : c.maxLocals = 8) (hC : cx D τ s m #[Value.ref b] RL) (hLS : LK A s s.heap sA sV) (hXX : XX A s) (hA : ∀ q : Nat, s.heap.size ≤ q → A q) (hX : va_X b L xs s s.heap) (hbl : b < s.heap.size) (hbA : ¬ A b) (k : Nat) (hk : k < 512) (hkL : 5 * (k : Int) + 5 ≤ L) (hL : L ≤ 2560)
  (NEXT : ∀ (MX MM : Mem) (g : Int → Int) (H : Heap) (locs : List Loc) (ls : Array Slot) (cc ss : Nat), Rel (k + 1) MX MM → MR MX → MR MM → wS D A s.heap (WX τ ax MX ++ (WM τ am MM ++ [OC τ ao g])) H locs → lv_has ls 8 [(4, .int (iI (5 * (k : Int)))), (3, .ref ao), (2, .ref (am 1)), (1, .ref (ax 155)), (0, .ref b)] → cc ≤ 300 + 20 * (k + 1) → ss ≤ 6000 + 120 * (k + 1) → W p l e room_1 s m #[Value.ref b] below meth c H locs cc ss (lw_Z below #[Value.ref b] s) (F0 m 1276 ls []))
  (MX MM : Mem) (g : Int → Int) (H : Heap) (locs : List Loc) (ls : Array Slot) (hR : Rel k MX MM) (hMX : MR MX) (hMM : MR MM) (hw : wS D A s.heap (WX τ ax MX ++ (WM τ am MM ++ [OC τ ao g])) H locs) (hl : lv_has ls 8 [(4, .int (iI (5 * (k : Int)))), (3, .ref ao), (2, .ref (am 1)), (1, .ref (ax 155)), (0, .ref b)]) : W p l e room_1 s m #[Value.ref b] below meth c H locs (300 + 20 * k) (6000 + 120 * k) (lw_Z below #[Value.ref b] s) (F0 m 447 ls []) := by
  obtain ⟨y1, hy1, ey1⟩ := iI_of (xs (5 * (k : Int) + 1).toNat)
  obtain ⟨y2, hy2, ey2⟩ := iI_of (xs (5 * (k : Int) + 2).toNat)
  obtain ⟨y3, hy3, ey3⟩ := iI_of (xs (5 * (k : Int) + 3).toNat)
  obtain ⟨y4, hy4, ey4⟩ := iI_of (xs (5 * (k : Int) + 4).toNat)
  have hv := Rl_sheet k MX MM y1 y2 y3 y4 hy1 hy2 hy3 hy4 hk hMX hMM hR
  refine lv_aload_n hx hb dL_law_447 rfl (lv_at hl 3 rfl) ?_
  refine lv_aload_n hx hb dL_law_448 rfl (lv_at hl 4 rfl) ?_
  refine lv_iload hx hb dL_law_449 (lv_at hl 0 rfl) ?_
  refine r_iconst hx hb dL_law_451 ?_
  refine r_iadd (z := 5 * (k : Int) + 1) hx hb dL_law_452 rfl ?_
  refine r_sld hx hb hX hbl hbA hw (by omega) (by omega) (by omega) ey1 dL_law_453 ?_
  refine lv_aload_n hx hb dL_law_454 rfl (lv_at hl 4 rfl) ?_
  refine lv_iload hx hb dL_law_455 (lv_at hl 0 rfl) ?_
  refine r_iconst hx hb dL_law_457 ?_
  refine r_iadd (z := 5 * (k : Int) + 2) hx hb dL_law_458 rfl ?_
  refine r_sld hx hb hX hbl hbA hw (by omega) (by omega) (by omega) ey2 dL_law_459 ?_
  refine lv_aload_n hx hb dL_law_460 rfl (lv_at hl 4 rfl) ?_
  refine lv_iload hx hb dL_law_461 (lv_at hl 0 rfl) ?_
  refine r_iconst hx hb dL_law_463 ?_
  refine r_iadd (z := 5 * (k : Int) + 3) hx hb dL_law_464 rfl ?_
  refine r_sld hx hb hX hbl hbA hw (by omega) (by omega) (by omega) ey3 dL_law_465 ?_
  refine lv_aload_n hx hb dL_law_466 rfl (lv_at hl 4 rfl) ?_
  refine lv_iload hx hb dL_law_467 (lv_at hl 0 rfl) ?_
  refine r_iconst hx hb dL_law_469 ?_
  refine r_iadd (z := 5 * (k : Int) + 4) hx hb dL_law_470 rfl ?_
  refine r_sld hx hb hX hbl hbA hw (by omega) (by omega) (by omega) ey4 dL_law_471 ?_
  refine s_cVi (Wf := WX τ ax) (As := [.int (iI y1), .int (iI y2), .int (iI y3), .int (iI y4)]) (rest := []) hx hb hml hC hLS hA hw hl.1 (mX11_sheet l D τ ax sA sV _ y1 y2 y3 y4 hy1 hy2 hy3 hy4 MX hMX _ hv) kX11_sheet ml_L_69 rfl (gX_155 τ ax MX) rfl rfl (Nat.le_of_ble_eq_true rfl) ⟨by decide, by decide⟩ ⟨by show 300 + 20 * k ≤ 601024; omega, by show 6000 + 120 * k ≤ 7293034; omega⟩ (cells' := 300 + 20 * k) (slots' := 6000 + 120 * k) rfl rfl dL_law_472 (fun z1 MX1 H locs hz1 hMX hv hw => ?_)
  refine lv_pop hx hb dL_law_475 rfl ?_
  refine lv_aload_n hx hb dL_law_476 rfl (lv_at hl 2 rfl) ?_
  refine lv_aload_n hx hb dL_law_477 rfl (lv_at hl 4 rfl) ?_
  refine lv_iload hx hb dL_law_478 (lv_at hl 0 rfl) ?_
  refine r_iconst hx hb dL_law_480 ?_
  refine r_iadd (z := 5 * (k : Int) + 1) hx hb dL_law_481 rfl ?_
  refine r_sld hx hb hX hbl hbA hw (by omega) (by omega) (by omega) ey1 dL_law_482 ?_
  refine lv_aload_n hx hb dL_law_483 rfl (lv_at hl 4 rfl) ?_
  refine lv_iload hx hb dL_law_484 (lv_at hl 0 rfl) ?_
  refine r_iconst hx hb dL_law_486 ?_
  refine r_iadd (z := 5 * (k : Int) + 2) hx hb dL_law_487 rfl ?_
  refine r_sld hx hb hX hbl hbA hw (by omega) (by omega) (by omega) ey2 dL_law_488 ?_
  refine lv_aload_n hx hb dL_law_489 rfl (lv_at hl 4 rfl) ?_
  refine lv_iload hx hb dL_law_490 (lv_at hl 0 rfl) ?_
  refine r_iconst hx hb dL_law_492 ?_
  refine r_iadd (z := 5 * (k : Int) + 3) hx hb dL_law_493 rfl ?_
  refine r_sld hx hb hX hbl hbA hw (by omega) (by omega) (by omega) ey3 dL_law_494 ?_
  refine lv_aload_n hx hb dL_law_495 rfl (lv_at hl 4 rfl) ?_
  refine lv_iload hx hb dL_law_496 (lv_at hl 0 rfl) ?_
  refine r_iconst hx hb dL_law_498 ?_
  refine r_iadd (z := 5 * (k : Int) + 4) hx hb dL_law_499 rfl ?_
  refine r_sld hx hb hX hbl hbA hw (by omega) (by omega) (by omega) ey4 dL_law_500 ?_
  have hw := hw.rot
  refine s_cVi (Wf := WM τ am) (As := [.int (iI y1), .int (iI y2), .int (iI y3), .int (iI y4)]) (rest := []) hx hb hml hC hLS hA hw hl.1 (mX12_sheet l D τ am sA sV _ y1 y2 y3 y4 hy1 hy2 hy3 hy4 MM hMM _ hv) kX12_sheet ml_L_73 rfl (gM_1 τ am MM) rfl rfl (Nat.le_of_ble_eq_true rfl) ⟨by decide, by decide⟩ ⟨by show 300 + 20 * k ≤ 601024; omega, by show 6000 + 120 * k ≤ 7293034; omega⟩ (cells' := 300 + 20 * k) (slots' := 6000 + 120 * k) rfl rfl dL_law_501 (fun z2 MM2 H locs hz2 hMM hv hw => ?_)
  have hw := hw.rot.rot
  refine lv_pop hx hb dL_law_504 rfl ?_
  refine lv_goto (tgt := 1276) hx hb dL_law_505 (by decide) ?_
  exact NEXT MX1 MM2 g _ _ _ _ _ hv hMX hMM hw (lv_sub hl [0, 1, 2, 3, 4] rfl) (by omega) (by omega)
set_option maxHeartbeats 4000000 in
set_option maxRecDepth 100000 in
theorem law_case10 {p : Program} {e : Env} {s : State} {m : MethodId} {below : List Frame} {meth : Method} {c : Code} (l : Launch) (hst : l.stackTraces = false) {b L : Nat} {xs : Nat → Int32} {D : va_G} {τ : Nat → ClassId} {A : Nat → Prop} {sA sV : Nat → Nat} {ax am : Nat → Nat} {ao : Nat} (hx : p.tables.exec = Jvm.exec) (hb : c.code = code) (hml : c.maxLocals = 8) (hC : cx D τ s m #[Value.ref b] RL) (hLS : LK A s s.heap sA sV) (hXX : XX A s) (hA : ∀ q : Nat, s.heap.size ≤ q → A q) (hX : va_X b L xs s s.heap) (hbl : b < s.heap.size) (hbA : ¬ A b) (k : Nat) (hk : k < 512) (hkL : 5 * (k : Int) + 5 ≤ L) (hL : L ≤ 2560)
  (NEXT : ∀ (MX MM : Mem) (g : Int → Int) (H : Heap) (locs : List Loc) (ls : Array Slot) (cc ss : Nat), Rel (k + 1) MX MM → MR MX → MR MM → wS D A s.heap (WX τ ax MX ++ (WM τ am MM ++ [OC τ ao g])) H locs → lv_has ls 8 [(4, .int (iI (5 * (k : Int)))), (3, .ref ao), (2, .ref (am 1)), (1, .ref (ax 155)), (0, .ref b)] → cc ≤ 300 + 20 * (k + 1) → ss ≤ 6000 + 120 * (k + 1) → W p l e room_1 s m #[Value.ref b] below meth c H locs cc ss (lw_Z below #[Value.ref b] s) (F0 m 1276 ls []))
  (MX MM : Mem) (g : Int → Int) (H : Heap) (locs : List Loc) (ls : Array Slot) (hR : Rel k MX MM) (hMX : MR MX) (hMM : MR MM) (hw : wS D A s.heap (WX τ ax MX ++ (WM τ am MM ++ [OC τ ao g])) H locs) (hl : lv_has ls 8 [(4, .int (iI (5 * (k : Int)))), (3, .ref ao), (2, .ref (am 1)), (1, .ref (ax 155)), (0, .ref b)]) : W p l e room_1 s m #[Value.ref b] below meth c H locs (300 + 20 * k) (6000 + 120 * k) (lw_Z below #[Value.ref b] s) (F0 m 508 ls []) := by
  obtain ⟨y1, hy1, ey1⟩ := iI_of (xs (5 * (k : Int) + 1).toNat)
  obtain ⟨y2, hy2, ey2⟩ := iI_of (xs (5 * (k : Int) + 2).toNat)
  obtain ⟨y3, hy3, ey3⟩ := iI_of (xs (5 * (k : Int) + 3).toNat)
  obtain ⟨y4, hy4, ey4⟩ := iI_of (xs (5 * (k : Int) + 4).toNat)
  have hv := Rl_steps k MX MM y1 hy1 hk hMX hMM hR
  refine lv_aload_n hx hb dL_law_508 rfl (lv_at hl 3 rfl) ?_
  refine lv_aload_n hx hb dL_law_509 rfl (lv_at hl 4 rfl) ?_
  refine lv_iload hx hb dL_law_510 (lv_at hl 0 rfl) ?_
  refine r_iconst hx hb dL_law_512 ?_
  refine r_iadd (z := 5 * (k : Int) + 1) hx hb dL_law_513 rfl ?_
  refine r_sld hx hb hX hbl hbA hw (by omega) (by omega) (by omega) ey1 dL_law_514 ?_
  refine s_cVi (Wf := WX τ ax) (As := [.int (iI y1)]) (rest := []) hx hb hml hC hLS hA hw hl.1 (mX11_steps l D τ ax sA sV _ y1 hy1 MX hMX _ hv) kX11_steps ml_L_74 rfl (gX_155 τ ax MX) rfl rfl (Nat.le_of_ble_eq_true rfl) ⟨by decide, by decide⟩ ⟨by show 300 + 20 * k ≤ 601024; omega, by show 6000 + 120 * k ≤ 7293034; omega⟩ (cells' := 300 + 20 * k) (slots' := 6000 + 120 * k) rfl rfl dL_law_515 (fun z1 MX1 H locs hz1 hMX hv hw => ?_)
  refine lv_pop hx hb dL_law_518 rfl ?_
  refine lv_aload_n hx hb dL_law_519 rfl (lv_at hl 2 rfl) ?_
  refine lv_aload_n hx hb dL_law_520 rfl (lv_at hl 4 rfl) ?_
  refine lv_iload hx hb dL_law_521 (lv_at hl 0 rfl) ?_
  refine r_iconst hx hb dL_law_523 ?_
  refine r_iadd (z := 5 * (k : Int) + 1) hx hb dL_law_524 rfl ?_
  refine r_sld hx hb hX hbl hbA hw (by omega) (by omega) (by omega) ey1 dL_law_525 ?_
  have hw := hw.rot
  refine s_cVi (Wf := WM τ am) (As := [.int (iI y1)]) (rest := []) hx hb hml hC hLS hA hw hl.1 (mX12_steps l D τ am sA sV _ y1 hy1 MM hMM _ hv) kX12_steps ml_L_77 rfl (gM_1 τ am MM) rfl rfl (Nat.le_of_ble_eq_true rfl) ⟨by decide, by decide⟩ ⟨by show 300 + 20 * k ≤ 601024; omega, by show 6000 + 120 * k ≤ 7293034; omega⟩ (cells' := 300 + 20 * k) (slots' := 6000 + 120 * k) rfl rfl dL_law_526 (fun z2 MM2 H locs hz2 hMM hv hw => ?_)
  have hw := hw.rot.rot
  refine lv_pop hx hb dL_law_529 rfl ?_
  refine lv_goto (tgt := 1276) hx hb dL_law_530 (by decide) ?_
  exact NEXT MX1 MM2 g _ _ _ _ _ hv hMX hMM hw (lv_sub hl [0, 1, 2, 3, 4] rfl) (by omega) (by omega)
set_option maxHeartbeats 4000000 in
set_option maxRecDepth 100000 in
theorem law_case11 {p : Program} {e : Env} {s : State} {m : MethodId} {below : List Frame} {meth : Method} {c : Code} (l : Launch) (hst : l.stackTraces = false) {b L : Nat} {xs : Nat → Int32} {D : va_G} {τ : Nat → ClassId} {A : Nat → Prop} {sA sV : Nat → Nat} {ax am : Nat → Nat} {ao : Nat} (hx : p.tables.exec = Jvm.exec) (hb : c.code = code) (hml : c.maxLocals = 8) (hC : cx D τ s m #[Value.ref b] RL) (hLS : LK A s s.heap sA sV) (hXX : XX A s) (hA : ∀ q : Nat, s.heap.size ≤ q → A q) (hX : va_X b L xs s s.heap) (hbl : b < s.heap.size) (hbA : ¬ A b) (k : Nat) (hk : k < 512) (hkL : 5 * (k : Int) + 5 ≤ L) (hL : L ≤ 2560)
  (NEXT : ∀ (MX MM : Mem) (g : Int → Int) (H : Heap) (locs : List Loc) (ls : Array Slot) (cc ss : Nat), Rel (k + 1) MX MM → MR MX → MR MM → wS D A s.heap (WX τ ax MX ++ (WM τ am MM ++ [OC τ ao g])) H locs → lv_has ls 8 [(4, .int (iI (5 * (k : Int)))), (3, .ref ao), (2, .ref (am 1)), (1, .ref (ax 155)), (0, .ref b)] → cc ≤ 300 + 20 * (k + 1) → ss ≤ 6000 + 120 * (k + 1) → W p l e room_1 s m #[Value.ref b] below meth c H locs cc ss (lw_Z below #[Value.ref b] s) (F0 m 1276 ls []))
  (MX MM : Mem) (g : Int → Int) (H : Heap) (locs : List Loc) (ls : Array Slot) (hR : Rel k MX MM) (hMX : MR MX) (hMM : MR MM) (hw : wS D A s.heap (WX τ ax MX ++ (WM τ am MM ++ [OC τ ao g])) H locs) (hl : lv_has ls 8 [(4, .int (iI (5 * (k : Int)))), (3, .ref ao), (2, .ref (am 1)), (1, .ref (ax 155)), (0, .ref b)]) : W p l e room_1 s m #[Value.ref b] below meth c H locs (300 + 20 * k) (6000 + 120 * k) (lw_Z below #[Value.ref b] s) (F0 m 533 ls []) := by
  obtain ⟨y1, hy1, ey1⟩ := iI_of (xs (5 * (k : Int) + 1).toNat)
  obtain ⟨y2, hy2, ey2⟩ := iI_of (xs (5 * (k : Int) + 2).toNat)
  obtain ⟨y3, hy3, ey3⟩ := iI_of (xs (5 * (k : Int) + 3).toNat)
  obtain ⟨y4, hy4, ey4⟩ := iI_of (xs (5 * (k : Int) + 4).toNat)
  have hv := Rl_turnsTo k MX MM y1 hy1 hk hMX hMM hR
  refine lv_aload_n hx hb dL_law_533 rfl (lv_at hl 3 rfl) ?_
  refine lv_aload_n hx hb dL_law_534 rfl (lv_at hl 4 rfl) ?_
  refine lv_iload hx hb dL_law_535 (lv_at hl 0 rfl) ?_
  refine r_iconst hx hb dL_law_537 ?_
  refine r_iadd (z := 5 * (k : Int) + 1) hx hb dL_law_538 rfl ?_
  refine r_sld hx hb hX hbl hbA hw (by omega) (by omega) (by omega) ey1 dL_law_539 ?_
  refine s_cVi (Wf := WX τ ax) (As := [.int (iI y1)]) (rest := []) hx hb hml hC hLS hA hw hl.1 (mX11_turnsTo l D τ ax sA sV _ y1 hy1 MX hMX _ hv) kX11_turnsTo ml_L_78 rfl (gX_155 τ ax MX) rfl rfl (Nat.le_of_ble_eq_true rfl) ⟨by decide, by decide⟩ ⟨by show 300 + 20 * k ≤ 601024; omega, by show 6000 + 120 * k ≤ 7293034; omega⟩ (cells' := 300 + 20 * k) (slots' := 6000 + 120 * k) rfl rfl dL_law_540 (fun z1 MX1 H locs hz1 hMX hv hw => ?_)
  refine lv_pop hx hb dL_law_543 rfl ?_
  refine lv_aload_n hx hb dL_law_544 rfl (lv_at hl 2 rfl) ?_
  refine lv_aload_n hx hb dL_law_545 rfl (lv_at hl 4 rfl) ?_
  refine lv_iload hx hb dL_law_546 (lv_at hl 0 rfl) ?_
  refine r_iconst hx hb dL_law_548 ?_
  refine r_iadd (z := 5 * (k : Int) + 1) hx hb dL_law_549 rfl ?_
  refine r_sld hx hb hX hbl hbA hw (by omega) (by omega) (by omega) ey1 dL_law_550 ?_
  have hw := hw.rot
  refine s_cVi (Wf := WM τ am) (As := [.int (iI y1)]) (rest := []) hx hb hml hC hLS hA hw hl.1 (mX12_turnsTo l D τ am sA sV _ y1 hy1 MM hMM _ hv) kX12_turnsTo ml_L_81 rfl (gM_1 τ am MM) rfl rfl (Nat.le_of_ble_eq_true rfl) ⟨by decide, by decide⟩ ⟨by show 300 + 20 * k ≤ 601024; omega, by show 6000 + 120 * k ≤ 7293034; omega⟩ (cells' := 300 + 20 * k) (slots' := 6000 + 120 * k) rfl rfl dL_law_551 (fun z2 MM2 H locs hz2 hMM hv hw => ?_)
  have hw := hw.rot.rot
  refine lv_pop hx hb dL_law_554 rfl ?_
  refine lv_goto (tgt := 1276) hx hb dL_law_555 (by decide) ?_
  exact NEXT MX1 MM2 g _ _ _ _ _ hv hMX hMM hw (lv_sub hl [0, 1, 2, 3, 4] rfl) (by omega) (by omega)
set_option maxHeartbeats 4000000 in
set_option maxRecDepth 100000 in
theorem law_case12 {p : Program} {e : Env} {s : State} {m : MethodId} {below : List Frame} {meth : Method} {c : Code} (l : Launch) (hst : l.stackTraces = false) {b L : Nat} {xs : Nat → Int32} {D : va_G} {τ : Nat → ClassId} {A : Nat → Prop} {sA sV : Nat → Nat} {ax am : Nat → Nat} {ao : Nat} (hx : p.tables.exec = Jvm.exec) (hb : c.code = code) (hml : c.maxLocals = 8) (hC : cx D τ s m #[Value.ref b] RL) (hLS : LK A s s.heap sA sV) (hXX : XX A s) (hA : ∀ q : Nat, s.heap.size ≤ q → A q) (hX : va_X b L xs s s.heap) (hbl : b < s.heap.size) (hbA : ¬ A b) (k : Nat) (hk : k < 512) (hkL : 5 * (k : Int) + 5 ≤ L) (hL : L ≤ 2560)
  (NEXT : ∀ (MX MM : Mem) (g : Int → Int) (H : Heap) (locs : List Loc) (ls : Array Slot) (cc ss : Nat), Rel (k + 1) MX MM → MR MX → MR MM → wS D A s.heap (WX τ ax MX ++ (WM τ am MM ++ [OC τ ao g])) H locs → lv_has ls 8 [(4, .int (iI (5 * (k : Int)))), (3, .ref ao), (2, .ref (am 1)), (1, .ref (ax 155)), (0, .ref b)] → cc ≤ 300 + 20 * (k + 1) → ss ≤ 6000 + 120 * (k + 1) → W p l e room_1 s m #[Value.ref b] below meth c H locs cc ss (lw_Z below #[Value.ref b] s) (F0 m 1276 ls []))
  (MX MM : Mem) (g : Int → Int) (H : Heap) (locs : List Loc) (ls : Array Slot) (hR : Rel k MX MM) (hMX : MR MX) (hMM : MR MM) (hw : wS D A s.heap (WX τ ax MX ++ (WM τ am MM ++ [OC τ ao g])) H locs) (hl : lv_has ls 8 [(4, .int (iI (5 * (k : Int)))), (3, .ref ao), (2, .ref (am 1)), (1, .ref (ax 155)), (0, .ref b)]) : W p l e room_1 s m #[Value.ref b] below meth c H locs (300 + 20 * k) (6000 + 120 * k) (lw_Z below #[Value.ref b] s) (F0 m 558 ls []) := by
  obtain ⟨y1, hy1, ey1⟩ := iI_of (xs (5 * (k : Int) + 1).toNat)
  obtain ⟨y2, hy2, ey2⟩ := iI_of (xs (5 * (k : Int) + 2).toNat)
  obtain ⟨y3, hy3, ey3⟩ := iI_of (xs (5 * (k : Int) + 3).toNat)
  obtain ⟨y4, hy4, ey4⟩ := iI_of (xs (5 * (k : Int) + 4).toNat)
  have hv := Rl_pushes k MX MM y1 y2 hy1 hy2 hk hMX hMM hR
  refine lv_aload_n hx hb dL_law_558 rfl (lv_at hl 3 rfl) ?_
  refine lv_aload_n hx hb dL_law_559 rfl (lv_at hl 4 rfl) ?_
  refine lv_iload hx hb dL_law_560 (lv_at hl 0 rfl) ?_
  refine r_iconst hx hb dL_law_562 ?_
  refine r_iadd (z := 5 * (k : Int) + 1) hx hb dL_law_563 rfl ?_
  refine r_sld hx hb hX hbl hbA hw (by omega) (by omega) (by omega) ey1 dL_law_564 ?_
  refine lv_aload_n hx hb dL_law_565 rfl (lv_at hl 4 rfl) ?_
  refine lv_iload hx hb dL_law_566 (lv_at hl 0 rfl) ?_
  refine r_iconst hx hb dL_law_568 ?_
  refine r_iadd (z := 5 * (k : Int) + 2) hx hb dL_law_569 rfl ?_
  refine r_sld hx hb hX hbl hbA hw (by omega) (by omega) (by omega) ey2 dL_law_570 ?_
  refine s_cVi (Wf := WX τ ax) (As := [.int (iI y1), .int (iI y2)]) (rest := []) hx hb hml hC hLS hA hw hl.1 (mX11_pushes l D τ ax sA sV _ y1 y2 hy1 hy2 MX hMX _ hv) kX11_pushes ml_L_82 rfl (gX_155 τ ax MX) rfl rfl (Nat.le_of_ble_eq_true rfl) ⟨by decide, by decide⟩ ⟨by show 300 + 20 * k ≤ 601024; omega, by show 6000 + 120 * k ≤ 7293034; omega⟩ (cells' := 300 + 20 * k) (slots' := 6000 + 120 * k) rfl rfl dL_law_571 (fun z1 MX1 H locs hz1 hMX hv hw => ?_)
  refine lv_pop hx hb dL_law_574 rfl ?_
  refine lv_aload_n hx hb dL_law_575 rfl (lv_at hl 2 rfl) ?_
  refine lv_aload_n hx hb dL_law_576 rfl (lv_at hl 4 rfl) ?_
  refine lv_iload hx hb dL_law_577 (lv_at hl 0 rfl) ?_
  refine r_iconst hx hb dL_law_579 ?_
  refine r_iadd (z := 5 * (k : Int) + 1) hx hb dL_law_580 rfl ?_
  refine r_sld hx hb hX hbl hbA hw (by omega) (by omega) (by omega) ey1 dL_law_581 ?_
  refine lv_aload_n hx hb dL_law_582 rfl (lv_at hl 4 rfl) ?_
  refine lv_iload hx hb dL_law_583 (lv_at hl 0 rfl) ?_
  refine r_iconst hx hb dL_law_585 ?_
  refine r_iadd (z := 5 * (k : Int) + 2) hx hb dL_law_586 rfl ?_
  refine r_sld hx hb hX hbl hbA hw (by omega) (by omega) (by omega) ey2 dL_law_587 ?_
  have hw := hw.rot
  refine s_cVi (Wf := WM τ am) (As := [.int (iI y1), .int (iI y2)]) (rest := []) hx hb hml hC hLS hA hw hl.1 (mX12_pushes l D τ am sA sV _ y1 y2 hy1 hy2 MM hMM _ hv) kX12_pushes ml_L_85 rfl (gM_1 τ am MM) rfl rfl (Nat.le_of_ble_eq_true rfl) ⟨by decide, by decide⟩ ⟨by show 300 + 20 * k ≤ 601024; omega, by show 6000 + 120 * k ≤ 7293034; omega⟩ (cells' := 300 + 20 * k) (slots' := 6000 + 120 * k) rfl rfl dL_law_588 (fun z2 MM2 H locs hz2 hMM hv hw => ?_)
  have hw := hw.rot.rot
  refine lv_pop hx hb dL_law_591 rfl ?_
  refine lv_goto (tgt := 1276) hx hb dL_law_592 (by decide) ?_
  exact NEXT MX1 MM2 g _ _ _ _ _ hv hMX hMM hw (lv_sub hl [0, 1, 2, 3, 4] rfl) (by omega) (by omega)
set_option maxHeartbeats 4000000 in
set_option maxRecDepth 100000 in
theorem law_case13 {p : Program} {e : Env} {s : State} {m : MethodId} {below : List Frame} {meth : Method} {c : Code} (l : Launch) (hst : l.stackTraces = false) {b L : Nat} {xs : Nat → Int32} {D : va_G} {τ : Nat → ClassId} {A : Nat → Prop} {sA sV : Nat → Nat} {ax am : Nat → Nat} {ao : Nat} (hx : p.tables.exec = Jvm.exec) (hb : c.code = code) (hml : c.maxLocals = 8) (hC : cx D τ s m #[Value.ref b] RL) (hLS : LK A s s.heap sA sV) (hXX : XX A s) (hA : ∀ q : Nat, s.heap.size ≤ q → A q) (hX : va_X b L xs s s.heap) (hbl : b < s.heap.size) (hbA : ¬ A b) (k : Nat) (hk : k < 512) (hkL : 5 * (k : Int) + 5 ≤ L) (hL : L ≤ 2560)
  (NEXT : ∀ (MX MM : Mem) (g : Int → Int) (H : Heap) (locs : List Loc) (ls : Array Slot) (cc ss : Nat), Rel (k + 1) MX MM → MR MX → MR MM → wS D A s.heap (WX τ ax MX ++ (WM τ am MM ++ [OC τ ao g])) H locs → lv_has ls 8 [(4, .int (iI (5 * (k : Int)))), (3, .ref ao), (2, .ref (am 1)), (1, .ref (ax 155)), (0, .ref b)] → cc ≤ 300 + 20 * (k + 1) → ss ≤ 6000 + 120 * (k + 1) → W p l e room_1 s m #[Value.ref b] below meth c H locs cc ss (lw_Z below #[Value.ref b] s) (F0 m 1276 ls []))
  (MX MM : Mem) (g : Int → Int) (H : Heap) (locs : List Loc) (ls : Array Slot) (hR : Rel k MX MM) (hMX : MR MX) (hMM : MR MM) (hw : wS D A s.heap (WX τ ax MX ++ (WM τ am MM ++ [OC τ ao g])) H locs) (hl : lv_has ls 8 [(4, .int (iI (5 * (k : Int)))), (3, .ref ao), (2, .ref (am 1)), (1, .ref (ax 155)), (0, .ref b)]) : W p l e room_1 s m #[Value.ref b] below meth c H locs (300 + 20 * k) (6000 + 120 * k) (lw_Z below #[Value.ref b] s) (F0 m 595 ls []) := by
  obtain ⟨y1, hy1, ey1⟩ := iI_of (xs (5 * (k : Int) + 1).toNat)
  obtain ⟨y2, hy2, ey2⟩ := iI_of (xs (5 * (k : Int) + 2).toNat)
  obtain ⟨y3, hy3, ey3⟩ := iI_of (xs (5 * (k : Int) + 3).toNat)
  obtain ⟨y4, hy4, ey4⟩ := iI_of (xs (5 * (k : Int) + 4).toNat)
  have hv := Rl_swaps k MX MM y1 y2 hy1 hy2 hk hMX hMM hR
  refine lv_aload_n hx hb dL_law_595 rfl (lv_at hl 3 rfl) ?_
  refine lv_aload_n hx hb dL_law_596 rfl (lv_at hl 4 rfl) ?_
  refine lv_iload hx hb dL_law_597 (lv_at hl 0 rfl) ?_
  refine r_iconst hx hb dL_law_599 ?_
  refine r_iadd (z := 5 * (k : Int) + 1) hx hb dL_law_600 rfl ?_
  refine r_sld hx hb hX hbl hbA hw (by omega) (by omega) (by omega) ey1 dL_law_601 ?_
  refine lv_aload_n hx hb dL_law_602 rfl (lv_at hl 4 rfl) ?_
  refine lv_iload hx hb dL_law_603 (lv_at hl 0 rfl) ?_
  refine r_iconst hx hb dL_law_605 ?_
  refine r_iadd (z := 5 * (k : Int) + 2) hx hb dL_law_606 rfl ?_
  refine r_sld hx hb hX hbl hbA hw (by omega) (by omega) (by omega) ey2 dL_law_607 ?_
  refine s_cVi (Wf := WX τ ax) (As := [.int (iI y1), .int (iI y2)]) (rest := []) hx hb hml hC hLS hA hw hl.1 (mX11_swaps l D τ ax sA sV _ y1 y2 hy1 hy2 MX hMX _ hv) kX11_swaps ml_L_86 rfl (gX_155 τ ax MX) rfl rfl (Nat.le_of_ble_eq_true rfl) ⟨by decide, by decide⟩ ⟨by show 300 + 20 * k ≤ 601024; omega, by show 6000 + 120 * k ≤ 7293034; omega⟩ (cells' := 300 + 20 * k) (slots' := 6000 + 120 * k) rfl rfl dL_law_608 (fun z1 MX1 H locs hz1 hMX hv hw => ?_)
  refine lv_pop hx hb dL_law_611 rfl ?_
  refine lv_aload_n hx hb dL_law_612 rfl (lv_at hl 2 rfl) ?_
  refine lv_aload_n hx hb dL_law_613 rfl (lv_at hl 4 rfl) ?_
  refine lv_iload hx hb dL_law_614 (lv_at hl 0 rfl) ?_
  refine r_iconst hx hb dL_law_616 ?_
  refine r_iadd (z := 5 * (k : Int) + 1) hx hb dL_law_617 rfl ?_
  refine r_sld hx hb hX hbl hbA hw (by omega) (by omega) (by omega) ey1 dL_law_618 ?_
  refine lv_aload_n hx hb dL_law_619 rfl (lv_at hl 4 rfl) ?_
  refine lv_iload hx hb dL_law_620 (lv_at hl 0 rfl) ?_
  refine r_iconst hx hb dL_law_622 ?_
  refine r_iadd (z := 5 * (k : Int) + 2) hx hb dL_law_623 rfl ?_
  refine r_sld hx hb hX hbl hbA hw (by omega) (by omega) (by omega) ey2 dL_law_624 ?_
  have hw := hw.rot
  refine s_cVi (Wf := WM τ am) (As := [.int (iI y1), .int (iI y2)]) (rest := []) hx hb hml hC hLS hA hw hl.1 (mX12_swaps l D τ am sA sV _ y1 y2 hy1 hy2 MM hMM _ hv) kX12_swaps ml_L_89 rfl (gM_1 τ am MM) rfl rfl (Nat.le_of_ble_eq_true rfl) ⟨by decide, by decide⟩ ⟨by show 300 + 20 * k ≤ 601024; omega, by show 6000 + 120 * k ≤ 7293034; omega⟩ (cells' := 300 + 20 * k) (slots' := 6000 + 120 * k) rfl rfl dL_law_625 (fun z2 MM2 H locs hz2 hMM hv hw => ?_)
  have hw := hw.rot.rot
  refine lv_pop hx hb dL_law_628 rfl ?_
  refine lv_goto (tgt := 1276) hx hb dL_law_629 (by decide) ?_
  exact NEXT MX1 MM2 g _ _ _ _ _ hv hMX hMM hw (lv_sub hl [0, 1, 2, 3, 4] rfl) (by omega) (by omega)
set_option maxHeartbeats 4000000 in
set_option maxRecDepth 100000 in
theorem law_case14 {p : Program} {e : Env} {s : State} {m : MethodId} {below : List Frame} {meth : Method} {c : Code} (l : Launch) (hst : l.stackTraces = false) {b L : Nat} {xs : Nat → Int32} {D : va_G} {τ : Nat → ClassId} {A : Nat → Prop} {sA sV : Nat → Nat} {ax am : Nat → Nat} {ao : Nat} (hx : p.tables.exec = Jvm.exec) (hb : c.code = code) (hml : c.maxLocals = 8) (hC : cx D τ s m #[Value.ref b] RL) (hLS : LK A s s.heap sA sV) (hXX : XX A s) (hA : ∀ q : Nat, s.heap.size ≤ q → A q) (hX : va_X b L xs s s.heap) (hbl : b < s.heap.size) (hbA : ¬ A b) (k : Nat) (hk : k < 512) (hkL : 5 * (k : Int) + 5 ≤ L) (hL : L ≤ 2560)
  (NEXT : ∀ (MX MM : Mem) (g : Int → Int) (H : Heap) (locs : List Loc) (ls : Array Slot) (cc ss : Nat), Rel (k + 1) MX MM → MR MX → MR MM → wS D A s.heap (WX τ ax MX ++ (WM τ am MM ++ [OC τ ao g])) H locs → lv_has ls 8 [(4, .int (iI (5 * (k : Int)))), (3, .ref ao), (2, .ref (am 1)), (1, .ref (ax 155)), (0, .ref b)] → cc ≤ 300 + 20 * (k + 1) → ss ≤ 6000 + 120 * (k + 1) → W p l e room_1 s m #[Value.ref b] below meth c H locs cc ss (lw_Z below #[Value.ref b] s) (F0 m 1276 ls []))
  (MX MM : Mem) (g : Int → Int) (H : Heap) (locs : List Loc) (ls : Array Slot) (hR : Rel k MX MM) (hMX : MR MX) (hMM : MR MM) (hw : wS D A s.heap (WX τ ax MX ++ (WM τ am MM ++ [OC τ ao g])) H locs) (hl : lv_has ls 8 [(4, .int (iI (5 * (k : Int)))), (3, .ref ao), (2, .ref (am 1)), (1, .ref (ax 155)), (0, .ref b)]) : W p l e room_1 s m #[Value.ref b] below meth c H locs (300 + 20 * k) (6000 + 120 * k) (lw_Z below #[Value.ref b] s) (F0 m 632 ls []) := by
  obtain ⟨y1, hy1, ey1⟩ := iI_of (xs (5 * (k : Int) + 1).toNat)
  obtain ⟨y2, hy2, ey2⟩ := iI_of (xs (5 * (k : Int) + 2).toNat)
  obtain ⟨y3, hy3, ey3⟩ := iI_of (xs (5 * (k : Int) + 3).toNat)
  obtain ⟨y4, hy4, ey4⟩ := iI_of (xs (5 * (k : Int) + 4).toNat)
  have hv := Rl_hour k MX MM   hk hMX hMM hR
  refine lv_aload_n hx hb dL_law_632 rfl (lv_at hl 3 rfl) ?_
  refine s_cVi (Wf := WX τ ax) (As := []) (rest := []) hx hb hml hC hLS hA hw hl.1 (mX11_hour l D τ ax sA sV _   MX hMX _ hv) kX11_hour ml_L_90 rfl (gX_155 τ ax MX) rfl rfl (Nat.le_of_ble_eq_true rfl) ⟨by decide, by decide⟩ ⟨by show 300 + 20 * k ≤ 601024; omega, by show 6000 + 120 * k ≤ 7293034; omega⟩ (cells' := 300 + 20 * k) (slots' := 6000 + 120 * k) rfl rfl dL_law_633 (fun z1 MX1 H locs hz1 hMX hv hw => ?_)
  refine lv_pop hx hb dL_law_636 rfl ?_
  refine lv_aload_n hx hb dL_law_637 rfl (lv_at hl 2 rfl) ?_
  have hw := hw.rot
  refine s_cVi (Wf := WM τ am) (As := []) (rest := []) hx hb hml hC hLS hA hw hl.1 (mX12_hour l D τ am sA sV _   MM hMM _ hv) kX12_hour ml_L_93 rfl (gM_1 τ am MM) rfl rfl (Nat.le_of_ble_eq_true rfl) ⟨by decide, by decide⟩ ⟨by show 300 + 20 * k ≤ 601024; omega, by show 6000 + 120 * k ≤ 7293034; omega⟩ (cells' := 300 + 20 * k) (slots' := 6000 + 120 * k) rfl rfl dL_law_638 (fun z2 MM2 H locs hz2 hMM hv hw => ?_)
  have hw := hw.rot.rot
  refine lv_pop hx hb dL_law_641 rfl ?_
  refine lv_goto (tgt := 1276) hx hb dL_law_642 (by decide) ?_
  exact NEXT MX1 MM2 g _ _ _ _ _ hv hMX hMM hw (lv_sub hl [0, 1, 2, 3, 4] rfl) (by omega) (by omega)
set_option maxHeartbeats 4000000 in
set_option maxRecDepth 100000 in
theorem law_case15 {p : Program} {e : Env} {s : State} {m : MethodId} {below : List Frame} {meth : Method} {c : Code} (l : Launch) (hst : l.stackTraces = false) {b L : Nat} {xs : Nat → Int32} {D : va_G} {τ : Nat → ClassId} {A : Nat → Prop} {sA sV : Nat → Nat} {ax am : Nat → Nat} {ao : Nat} (hx : p.tables.exec = Jvm.exec) (hb : c.code = code) (hml : c.maxLocals = 8) (hC : cx D τ s m #[Value.ref b] RL) (hLS : LK A s s.heap sA sV) (hXX : XX A s) (hA : ∀ q : Nat, s.heap.size ≤ q → A q) (hX : va_X b L xs s s.heap) (hbl : b < s.heap.size) (hbA : ¬ A b) (k : Nat) (hk : k < 512) (hkL : 5 * (k : Int) + 5 ≤ L) (hL : L ≤ 2560)
  (NEXT : ∀ (MX MM : Mem) (g : Int → Int) (H : Heap) (locs : List Loc) (ls : Array Slot) (cc ss : Nat), Rel (k + 1) MX MM → MR MX → MR MM → wS D A s.heap (WX τ ax MX ++ (WM τ am MM ++ [OC τ ao g])) H locs → lv_has ls 8 [(4, .int (iI (5 * (k : Int)))), (3, .ref ao), (2, .ref (am 1)), (1, .ref (ax 155)), (0, .ref b)] → cc ≤ 300 + 20 * (k + 1) → ss ≤ 6000 + 120 * (k + 1) → W p l e room_1 s m #[Value.ref b] below meth c H locs cc ss (lw_Z below #[Value.ref b] s) (F0 m 1276 ls []))
  (MX MM : Mem) (g : Int → Int) (H : Heap) (locs : List Loc) (ls : Array Slot) (hR : Rel k MX MM) (hMX : MR MX) (hMM : MR MM) (hw : wS D A s.heap (WX τ ax MX ++ (WM τ am MM ++ [OC τ ao g])) H locs) (hl : lv_has ls 8 [(4, .int (iI (5 * (k : Int)))), (3, .ref ao), (2, .ref (am 1)), (1, .ref (ax 155)), (0, .ref b)]) : W p l e room_1 s m #[Value.ref b] below meth c H locs (300 + 20 * k) (6000 + 120 * k) (lw_Z below #[Value.ref b] s) (F0 m 645 ls []) := by
  obtain ⟨y1, hy1, ey1⟩ := iI_of (xs (5 * (k : Int) + 1).toNat)
  obtain ⟨y2, hy2, ey2⟩ := iI_of (xs (5 * (k : Int) + 2).toNat)
  obtain ⟨y3, hy3, ey3⟩ := iI_of (xs (5 * (k : Int) + 3).toNat)
  obtain ⟨y4, hy4, ey4⟩ := iI_of (xs (5 * (k : Int) + 4).toNat)
  have hv := Rl_undo k MX MM   hk hMX hMM hR
  refine lv_aload_n hx hb dL_law_645 rfl (lv_at hl 3 rfl) ?_
  refine s_cVi (Wf := WX τ ax) (As := []) (rest := []) hx hb hml hC hLS hA hw hl.1 (mX11_undo l D τ ax sA sV _   MX hMX _ hv) kX11_undo ml_L_94 rfl (gX_155 τ ax MX) rfl rfl (Nat.le_of_ble_eq_true rfl) ⟨by decide, by decide⟩ ⟨by show 300 + 20 * k ≤ 601024; omega, by show 6000 + 120 * k ≤ 7293034; omega⟩ (cells' := 300 + 20 * k) (slots' := 6000 + 120 * k) rfl rfl dL_law_646 (fun z1 MX1 H locs hz1 hMX hv hw => ?_)
  refine lv_pop hx hb dL_law_649 rfl ?_
  refine lv_aload_n hx hb dL_law_650 rfl (lv_at hl 2 rfl) ?_
  have hw := hw.rot
  refine s_cVi (Wf := WM τ am) (As := []) (rest := []) hx hb hml hC hLS hA hw hl.1 (mX12_undo l D τ am sA sV _   MM hMM _ hv) kX12_undo ml_L_97 rfl (gM_1 τ am MM) rfl rfl (Nat.le_of_ble_eq_true rfl) ⟨by decide, by decide⟩ ⟨by show 300 + 20 * k ≤ 601024; omega, by show 6000 + 120 * k ≤ 7293034; omega⟩ (cells' := 300 + 20 * k) (slots' := 6000 + 120 * k) rfl rfl dL_law_651 (fun z2 MM2 H locs hz2 hMM hv hw => ?_)
  have hw := hw.rot.rot
  refine lv_pop hx hb dL_law_654 rfl ?_
  refine lv_goto (tgt := 1276) hx hb dL_law_655 (by decide) ?_
  exact NEXT MX1 MM2 g _ _ _ _ _ hv hMX hMM hw (lv_sub hl [0, 1, 2, 3, 4] rfl) (by omega) (by omega)
set_option maxHeartbeats 4000000 in
set_option maxRecDepth 100000 in
theorem law_case16 {p : Program} {e : Env} {s : State} {m : MethodId} {below : List Frame} {meth : Method} {c : Code} (l : Launch) (hst : l.stackTraces = false) {b L : Nat} {xs : Nat → Int32} {D : va_G} {τ : Nat → ClassId} {A : Nat → Prop} {sA sV : Nat → Nat} {ax am : Nat → Nat} {ao : Nat} (hx : p.tables.exec = Jvm.exec) (hb : c.code = code) (hml : c.maxLocals = 8) (hC : cx D τ s m #[Value.ref b] RL) (hLS : LK A s s.heap sA sV) (hXX : XX A s) (hA : ∀ q : Nat, s.heap.size ≤ q → A q) (hX : va_X b L xs s s.heap) (hbl : b < s.heap.size) (hbA : ¬ A b) (k : Nat) (hk : k < 512) (hkL : 5 * (k : Int) + 5 ≤ L) (hL : L ≤ 2560)
  (NEXT : ∀ (MX MM : Mem) (g : Int → Int) (H : Heap) (locs : List Loc) (ls : Array Slot) (cc ss : Nat), Rel (k + 1) MX MM → MR MX → MR MM → wS D A s.heap (WX τ ax MX ++ (WM τ am MM ++ [OC τ ao g])) H locs → lv_has ls 8 [(4, .int (iI (5 * (k : Int)))), (3, .ref ao), (2, .ref (am 1)), (1, .ref (ax 155)), (0, .ref b)] → cc ≤ 300 + 20 * (k + 1) → ss ≤ 6000 + 120 * (k + 1) → W p l e room_1 s m #[Value.ref b] below meth c H locs cc ss (lw_Z below #[Value.ref b] s) (F0 m 1276 ls []))
  (MX MM : Mem) (g : Int → Int) (H : Heap) (locs : List Loc) (ls : Array Slot) (hR : Rel k MX MM) (hMX : MR MX) (hMM : MR MM) (hw : wS D A s.heap (WX τ ax MX ++ (WM τ am MM ++ [OC τ ao g])) H locs) (hl : lv_has ls 8 [(4, .int (iI (5 * (k : Int)))), (3, .ref ao), (2, .ref (am 1)), (1, .ref (ax 155)), (0, .ref b)]) : W p l e room_1 s m #[Value.ref b] below meth c H locs (300 + 20 * k) (6000 + 120 * k) (lw_Z below #[Value.ref b] s) (F0 m 658 ls []) := by
  obtain ⟨y1, hy1, ey1⟩ := iI_of (xs (5 * (k : Int) + 1).toNat)
  obtain ⟨y2, hy2, ey2⟩ := iI_of (xs (5 * (k : Int) + 2).toNat)
  obtain ⟨y3, hy3, ey3⟩ := iI_of (xs (5 * (k : Int) + 3).toNat)
  obtain ⟨y4, hy4, ey4⟩ := iI_of (xs (5 * (k : Int) + 4).toNat)
  have hv := Rl_line k MX MM   hk hMX hMM hR
  refine lv_aload_n hx hb dL_law_658 rfl (lv_at hl 3 rfl) ?_
  refine s_cVi (Wf := WX τ ax) (As := []) (rest := []) hx hb hml hC hLS hA hw hl.1 (mX11_line l D τ ax sA sV _   MX hMX _ hv) kX11_line ml_L_98 rfl (gX_155 τ ax MX) rfl rfl (Nat.le_of_ble_eq_true rfl) ⟨by decide, by decide⟩ ⟨by show 300 + 20 * k ≤ 601024; omega, by show 6000 + 120 * k ≤ 7293034; omega⟩ (cells' := 300 + 20 * k) (slots' := 6000 + 120 * k) rfl rfl dL_law_659 (fun z1 MX1 H locs hz1 hMX hv hw => ?_)
  refine lv_pop hx hb dL_law_662 rfl ?_
  refine lv_aload_n hx hb dL_law_663 rfl (lv_at hl 2 rfl) ?_
  have hw := hw.rot
  refine s_cVi (Wf := WM τ am) (As := []) (rest := []) hx hb hml hC hLS hA hw hl.1 (mX12_line l D τ am sA sV _   MM hMM _ hv) kX12_line ml_L_101 rfl (gM_1 τ am MM) rfl rfl (Nat.le_of_ble_eq_true rfl) ⟨by decide, by decide⟩ ⟨by show 300 + 20 * k ≤ 601024; omega, by show 6000 + 120 * k ≤ 7293034; omega⟩ (cells' := 300 + 20 * k) (slots' := 6000 + 120 * k) rfl rfl dL_law_664 (fun z2 MM2 H locs hz2 hMM hv hw => ?_)
  have hw := hw.rot.rot
  refine lv_pop hx hb dL_law_667 rfl ?_
  refine lv_goto (tgt := 1276) hx hb dL_law_668 (by decide) ?_
  exact NEXT MX1 MM2 g _ _ _ _ _ hv hMX hMM hw (lv_sub hl [0, 1, 2, 3, 4] rfl) (by omega) (by omega)
set_option maxHeartbeats 4000000 in
set_option maxRecDepth 100000 in
theorem law_case17 {p : Program} {e : Env} {s : State} {m : MethodId} {below : List Frame} {meth : Method} {c : Code} (l : Launch) (hst : l.stackTraces = false) {b L : Nat} {xs : Nat → Int32} {D : va_G} {τ : Nat → ClassId} {A : Nat → Prop} {sA sV : Nat → Nat} {ax am : Nat → Nat} {ao : Nat} (hx : p.tables.exec = Jvm.exec) (hb : c.code = code) (hml : c.maxLocals = 8) (hC : cx D τ s m #[Value.ref b] RL) (hLS : LK A s s.heap sA sV) (hXX : XX A s) (hA : ∀ q : Nat, s.heap.size ≤ q → A q) (hX : va_X b L xs s s.heap) (hbl : b < s.heap.size) (hbA : ¬ A b) (k : Nat) (hk : k < 512) (hkL : 5 * (k : Int) + 5 ≤ L) (hL : L ≤ 2560)
  (NEXT : ∀ (MX MM : Mem) (g : Int → Int) (H : Heap) (locs : List Loc) (ls : Array Slot) (cc ss : Nat), Rel (k + 1) MX MM → MR MX → MR MM → wS D A s.heap (WX τ ax MX ++ (WM τ am MM ++ [OC τ ao g])) H locs → lv_has ls 8 [(4, .int (iI (5 * (k : Int)))), (3, .ref ao), (2, .ref (am 1)), (1, .ref (ax 155)), (0, .ref b)] → cc ≤ 300 + 20 * (k + 1) → ss ≤ 6000 + 120 * (k + 1) → W p l e room_1 s m #[Value.ref b] below meth c H locs cc ss (lw_Z below #[Value.ref b] s) (F0 m 1276 ls []))
  (MX MM : Mem) (g : Int → Int) (H : Heap) (locs : List Loc) (ls : Array Slot) (hR : Rel k MX MM) (hMX : MR MX) (hMM : MR MM) (hw : wS D A s.heap (WX τ ax MX ++ (WM τ am MM ++ [OC τ ao g])) H locs) (hl : lv_has ls 8 [(4, .int (iI (5 * (k : Int)))), (3, .ref ao), (2, .ref (am 1)), (1, .ref (ax 155)), (0, .ref b)]) : W p l e room_1 s m #[Value.ref b] below meth c H locs (300 + 20 * k) (6000 + 120 * k) (lw_Z below #[Value.ref b] s) (F0 m 671 ls []) := by
  obtain ⟨y1, hy1, ey1⟩ := iI_of (xs (5 * (k : Int) + 1).toNat)
  obtain ⟨y2, hy2, ey2⟩ := iI_of (xs (5 * (k : Int) + 2).toNat)
  obtain ⟨y3, hy3, ey3⟩ := iI_of (xs (5 * (k : Int) + 3).toNat)
  obtain ⟨y4, hy4, ey4⟩ := iI_of (xs (5 * (k : Int) + 4).toNat)
  have hv := Rl_ahead k MX MM y1 hy1 hk hMX hMM hR
  refine lv_aload_n hx hb dL_law_671 rfl (lv_at hl 3 rfl) ?_
  refine lv_aload_n hx hb dL_law_672 rfl (lv_at hl 4 rfl) ?_
  refine lv_iload hx hb dL_law_673 (lv_at hl 0 rfl) ?_
  refine r_iconst hx hb dL_law_675 ?_
  refine r_iadd (z := 5 * (k : Int) + 1) hx hb dL_law_676 rfl ?_
  refine r_sld hx hb hX hbl hbA hw (by omega) (by omega) (by omega) ey1 dL_law_677 ?_
  refine s_cVi (Wf := WX τ ax) (As := [.int (iI y1)]) (rest := []) hx hb hml hC hLS hA hw hl.1 (mX11_ahead l D τ ax sA sV _ y1 hy1 MX hMX _ hv) kX11_ahead ml_L_102 rfl (gX_155 τ ax MX) rfl rfl (Nat.le_of_ble_eq_true rfl) ⟨by decide, by decide⟩ ⟨by show 300 + 20 * k ≤ 601024; omega, by show 6000 + 120 * k ≤ 7293034; omega⟩ (cells' := 300 + 20 * k) (slots' := 6000 + 120 * k) rfl rfl dL_law_678 (fun z1 MX1 H locs hz1 hMX hv hw => ?_)
  refine lv_pop hx hb dL_law_681 rfl ?_
  refine lv_aload_n hx hb dL_law_682 rfl (lv_at hl 2 rfl) ?_
  refine lv_aload_n hx hb dL_law_683 rfl (lv_at hl 4 rfl) ?_
  refine lv_iload hx hb dL_law_684 (lv_at hl 0 rfl) ?_
  refine r_iconst hx hb dL_law_686 ?_
  refine r_iadd (z := 5 * (k : Int) + 1) hx hb dL_law_687 rfl ?_
  refine r_sld hx hb hX hbl hbA hw (by omega) (by omega) (by omega) ey1 dL_law_688 ?_
  have hw := hw.rot
  refine s_cVi (Wf := WM τ am) (As := [.int (iI y1)]) (rest := []) hx hb hml hC hLS hA hw hl.1 (mX12_ahead l D τ am sA sV _ y1 hy1 MM hMM _ hv) kX12_ahead ml_L_105 rfl (gM_1 τ am MM) rfl rfl (Nat.le_of_ble_eq_true rfl) ⟨by decide, by decide⟩ ⟨by show 300 + 20 * k ≤ 601024; omega, by show 6000 + 120 * k ≤ 7293034; omega⟩ (cells' := 300 + 20 * k) (slots' := 6000 + 120 * k) rfl rfl dL_law_689 (fun z2 MM2 H locs hz2 hMM hv hw => ?_)
  have hw := hw.rot.rot
  refine lv_pop hx hb dL_law_692 rfl ?_
  refine lv_goto (tgt := 1276) hx hb dL_law_693 (by decide) ?_
  exact NEXT MX1 MM2 g _ _ _ _ _ hv hMX hMM hw (lv_sub hl [0, 1, 2, 3, 4] rfl) (by omega) (by omega)
set_option maxHeartbeats 4000000 in
set_option maxRecDepth 100000 in
theorem law_case18 {p : Program} {e : Env} {s : State} {m : MethodId} {below : List Frame} {meth : Method} {c : Code} (l : Launch) (hst : l.stackTraces = false) {b L : Nat} {xs : Nat → Int32} {D : va_G} {τ : Nat → ClassId} {A : Nat → Prop} {sA sV : Nat → Nat} {ax am : Nat → Nat} {ao : Nat} (hx : p.tables.exec = Jvm.exec) (hb : c.code = code) (hml : c.maxLocals = 8) (hC : cx D τ s m #[Value.ref b] RL) (hLS : LK A s s.heap sA sV) (hXX : XX A s) (hA : ∀ q : Nat, s.heap.size ≤ q → A q) (hX : va_X b L xs s s.heap) (hbl : b < s.heap.size) (hbA : ¬ A b) (k : Nat) (hk : k < 512) (hkL : 5 * (k : Int) + 5 ≤ L) (hL : L ≤ 2560)
  (NEXT : ∀ (MX MM : Mem) (g : Int → Int) (H : Heap) (locs : List Loc) (ls : Array Slot) (cc ss : Nat), Rel (k + 1) MX MM → MR MX → MR MM → wS D A s.heap (WX τ ax MX ++ (WM τ am MM ++ [OC τ ao g])) H locs → lv_has ls 8 [(4, .int (iI (5 * (k : Int)))), (3, .ref ao), (2, .ref (am 1)), (1, .ref (ax 155)), (0, .ref b)] → cc ≤ 300 + 20 * (k + 1) → ss ≤ 6000 + 120 * (k + 1) → W p l e room_1 s m #[Value.ref b] below meth c H locs cc ss (lw_Z below #[Value.ref b] s) (F0 m 1276 ls []))
  (MX MM : Mem) (g : Int → Int) (H : Heap) (locs : List Loc) (ls : Array Slot) (hR : Rel k MX MM) (hMX : MR MX) (hMM : MR MM) (hw : wS D A s.heap (WX τ ax MX ++ (WM τ am MM ++ [OC τ ao g])) H locs) (hl : lv_has ls 8 [(4, .int (iI (5 * (k : Int)))), (3, .ref ao), (2, .ref (am 1)), (1, .ref (ax 155)), (0, .ref b)]) : W p l e room_1 s m #[Value.ref b] below meth c H locs (300 + 20 * k) (6000 + 120 * k) (lw_Z below #[Value.ref b] s) (F0 m 696 ls []) := by
  obtain ⟨y1, hy1, ey1⟩ := iI_of (xs (5 * (k : Int) + 1).toNat)
  obtain ⟨y2, hy2, ey2⟩ := iI_of (xs (5 * (k : Int) + 2).toNat)
  obtain ⟨y3, hy3, ey3⟩ := iI_of (xs (5 * (k : Int) + 3).toNat)
  obtain ⟨y4, hy4, ey4⟩ := iI_of (xs (5 * (k : Int) + 4).toNat)
  have hv := Rl_arrives k MX MM y1 hy1 hk hMX hMM hR
  refine lv_aload_n hx hb dL_law_696 rfl (lv_at hl 3 rfl) ?_
  refine lv_aload_n hx hb dL_law_697 rfl (lv_at hl 4 rfl) ?_
  refine lv_iload hx hb dL_law_698 (lv_at hl 0 rfl) ?_
  refine r_iconst hx hb dL_law_700 ?_
  refine r_iadd (z := 5 * (k : Int) + 1) hx hb dL_law_701 rfl ?_
  refine r_sld hx hb hX hbl hbA hw (by omega) (by omega) (by omega) ey1 dL_law_702 ?_
  refine s_cVi (Wf := WX τ ax) (As := [.int (iI y1)]) (rest := []) hx hb hml hC hLS hA hw hl.1 (mX11_arrives l D τ ax sA sV _ y1 hy1 MX hMX _ hv) kX11_arrives ml_L_106 rfl (gX_155 τ ax MX) rfl rfl (Nat.le_of_ble_eq_true rfl) ⟨by decide, by decide⟩ ⟨by show 300 + 20 * k ≤ 601024; omega, by show 6000 + 120 * k ≤ 7293034; omega⟩ (cells' := 300 + 20 * k) (slots' := 6000 + 120 * k) rfl rfl dL_law_703 (fun z1 MX1 H locs hz1 hMX hv hw => ?_)
  refine lv_pop hx hb dL_law_706 rfl ?_
  refine lv_aload_n hx hb dL_law_707 rfl (lv_at hl 2 rfl) ?_
  refine lv_aload_n hx hb dL_law_708 rfl (lv_at hl 4 rfl) ?_
  refine lv_iload hx hb dL_law_709 (lv_at hl 0 rfl) ?_
  refine r_iconst hx hb dL_law_711 ?_
  refine r_iadd (z := 5 * (k : Int) + 1) hx hb dL_law_712 rfl ?_
  refine r_sld hx hb hX hbl hbA hw (by omega) (by omega) (by omega) ey1 dL_law_713 ?_
  have hw := hw.rot
  refine s_cVi (Wf := WM τ am) (As := [.int (iI y1)]) (rest := []) hx hb hml hC hLS hA hw hl.1 (mX12_arrives l D τ am sA sV _ y1 hy1 MM hMM _ hv) kX12_arrives ml_L_109 rfl (gM_1 τ am MM) rfl rfl (Nat.le_of_ble_eq_true rfl) ⟨by decide, by decide⟩ ⟨by show 300 + 20 * k ≤ 601024; omega, by show 6000 + 120 * k ≤ 7293034; omega⟩ (cells' := 300 + 20 * k) (slots' := 6000 + 120 * k) rfl rfl dL_law_714 (fun z2 MM2 H locs hz2 hMM hv hw => ?_)
  have hw := hw.rot.rot
  refine lv_pop hx hb dL_law_717 rfl ?_
  refine lv_goto (tgt := 1276) hx hb dL_law_718 (by decide) ?_
  exact NEXT MX1 MM2 g _ _ _ _ _ hv hMX hMM hw (lv_sub hl [0, 1, 2, 3, 4] rfl) (by omega) (by omega)
set_option maxHeartbeats 4000000 in
set_option maxRecDepth 100000 in
theorem law_case19 {p : Program} {e : Env} {s : State} {m : MethodId} {below : List Frame} {meth : Method} {c : Code} (l : Launch) (hst : l.stackTraces = false) {b L : Nat} {xs : Nat → Int32} {D : va_G} {τ : Nat → ClassId} {A : Nat → Prop} {sA sV : Nat → Nat} {ax am : Nat → Nat} {ao : Nat} (hx : p.tables.exec = Jvm.exec) (hb : c.code = code) (hml : c.maxLocals = 8) (hC : cx D τ s m #[Value.ref b] RL) (hLS : LK A s s.heap sA sV) (hXX : XX A s) (hA : ∀ q : Nat, s.heap.size ≤ q → A q) (hX : va_X b L xs s s.heap) (hbl : b < s.heap.size) (hbA : ¬ A b) (k : Nat) (hk : k < 512) (hkL : 5 * (k : Int) + 5 ≤ L) (hL : L ≤ 2560)
  (NEXT : ∀ (MX MM : Mem) (g : Int → Int) (H : Heap) (locs : List Loc) (ls : Array Slot) (cc ss : Nat), Rel (k + 1) MX MM → MR MX → MR MM → wS D A s.heap (WX τ ax MX ++ (WM τ am MM ++ [OC τ ao g])) H locs → lv_has ls 8 [(4, .int (iI (5 * (k : Int)))), (3, .ref ao), (2, .ref (am 1)), (1, .ref (ax 155)), (0, .ref b)] → cc ≤ 300 + 20 * (k + 1) → ss ≤ 6000 + 120 * (k + 1) → W p l e room_1 s m #[Value.ref b] below meth c H locs cc ss (lw_Z below #[Value.ref b] s) (F0 m 1276 ls []))
  (MX MM : Mem) (g : Int → Int) (H : Heap) (locs : List Loc) (ls : Array Slot) (hR : Rel k MX MM) (hMX : MR MX) (hMM : MR MM) (hw : wS D A s.heap (WX τ ax MX ++ (WM τ am MM ++ [OC τ ao g])) H locs) (hl : lv_has ls 8 [(4, .int (iI (5 * (k : Int)))), (3, .ref ao), (2, .ref (am 1)), (1, .ref (ax 155)), (0, .ref b)]) : W p l e room_1 s m #[Value.ref b] below meth c H locs (300 + 20 * k) (6000 + 120 * k) (lw_Z below #[Value.ref b] s) (F0 m 721 ls []) := by
  obtain ⟨y1, hy1, ey1⟩ := iI_of (xs (5 * (k : Int) + 1).toNat)
  obtain ⟨y2, hy2, ey2⟩ := iI_of (xs (5 * (k : Int) + 2).toNat)
  obtain ⟨y3, hy3, ey3⟩ := iI_of (xs (5 * (k : Int) + 3).toNat)
  obtain ⟨y4, hy4, ey4⟩ := iI_of (xs (5 * (k : Int) + 4).toNat)
  have hv := Rl_jam k MX MM y1 hy1 hk hMX hMM hR
  refine lv_aload_n hx hb dL_law_721 rfl (lv_at hl 3 rfl) ?_
  refine lv_aload_n hx hb dL_law_722 rfl (lv_at hl 4 rfl) ?_
  refine lv_iload hx hb dL_law_723 (lv_at hl 0 rfl) ?_
  refine r_iconst hx hb dL_law_725 ?_
  refine r_iadd (z := 5 * (k : Int) + 1) hx hb dL_law_726 rfl ?_
  refine r_sld hx hb hX hbl hbA hw (by omega) (by omega) (by omega) ey1 dL_law_727 ?_
  refine s_cVi (Wf := WX τ ax) (As := [.int (iI y1)]) (rest := []) hx hb hml hC hLS hA hw hl.1 (mX11_jam l D τ ax sA sV _ y1 hy1 MX hMX _ hv) kX11_jam ml_L_110 rfl (gX_155 τ ax MX) rfl rfl (Nat.le_of_ble_eq_true rfl) ⟨by decide, by decide⟩ ⟨by show 300 + 20 * k ≤ 601024; omega, by show 6000 + 120 * k ≤ 7293034; omega⟩ (cells' := 300 + 20 * k) (slots' := 6000 + 120 * k) rfl rfl dL_law_728 (fun z1 MX1 H locs hz1 hMX hv hw => ?_)
  refine lv_pop hx hb dL_law_731 rfl ?_
  refine lv_aload_n hx hb dL_law_732 rfl (lv_at hl 2 rfl) ?_
  refine lv_aload_n hx hb dL_law_733 rfl (lv_at hl 4 rfl) ?_
  refine lv_iload hx hb dL_law_734 (lv_at hl 0 rfl) ?_
  refine r_iconst hx hb dL_law_736 ?_
  refine r_iadd (z := 5 * (k : Int) + 1) hx hb dL_law_737 rfl ?_
  refine r_sld hx hb hX hbl hbA hw (by omega) (by omega) (by omega) ey1 dL_law_738 ?_
  have hw := hw.rot
  refine s_cVi (Wf := WM τ am) (As := [.int (iI y1)]) (rest := []) hx hb hml hC hLS hA hw hl.1 (mX12_jam l D τ am sA sV _ y1 hy1 MM hMM _ hv) kX12_jam ml_L_113 rfl (gM_1 τ am MM) rfl rfl (Nat.le_of_ble_eq_true rfl) ⟨by decide, by decide⟩ ⟨by show 300 + 20 * k ≤ 601024; omega, by show 6000 + 120 * k ≤ 7293034; omega⟩ (cells' := 300 + 20 * k) (slots' := 6000 + 120 * k) rfl rfl dL_law_739 (fun z2 MM2 H locs hz2 hMM hv hw => ?_)
  have hw := hw.rot.rot
  refine lv_pop hx hb dL_law_742 rfl ?_
  refine lv_goto (tgt := 1276) hx hb dL_law_743 (by decide) ?_
  exact NEXT MX1 MM2 g _ _ _ _ _ hv hMX hMM hw (lv_sub hl [0, 1, 2, 3, 4] rfl) (by omega) (by omega)
set_option maxHeartbeats 4000000 in
set_option maxRecDepth 100000 in
theorem law_case20 {p : Program} {e : Env} {s : State} {m : MethodId} {below : List Frame} {meth : Method} {c : Code} (l : Launch) (hst : l.stackTraces = false) {b L : Nat} {xs : Nat → Int32} {D : va_G} {τ : Nat → ClassId} {A : Nat → Prop} {sA sV : Nat → Nat} {ax am : Nat → Nat} {ao : Nat} (hx : p.tables.exec = Jvm.exec) (hb : c.code = code) (hml : c.maxLocals = 8) (hC : cx D τ s m #[Value.ref b] RL) (hLS : LK A s s.heap sA sV) (hXX : XX A s) (hA : ∀ q : Nat, s.heap.size ≤ q → A q) (hX : va_X b L xs s s.heap) (hbl : b < s.heap.size) (hbA : ¬ A b) (k : Nat) (hk : k < 512) (hkL : 5 * (k : Int) + 5 ≤ L) (hL : L ≤ 2560)
  (NEXT : ∀ (MX MM : Mem) (g : Int → Int) (H : Heap) (locs : List Loc) (ls : Array Slot) (cc ss : Nat), Rel (k + 1) MX MM → MR MX → MR MM → wS D A s.heap (WX τ ax MX ++ (WM τ am MM ++ [OC τ ao g])) H locs → lv_has ls 8 [(4, .int (iI (5 * (k : Int)))), (3, .ref ao), (2, .ref (am 1)), (1, .ref (ax 155)), (0, .ref b)] → cc ≤ 300 + 20 * (k + 1) → ss ≤ 6000 + 120 * (k + 1) → W p l e room_1 s m #[Value.ref b] below meth c H locs cc ss (lw_Z below #[Value.ref b] s) (F0 m 1276 ls []))
  (MX MM : Mem) (g : Int → Int) (H : Heap) (locs : List Loc) (ls : Array Slot) (hR : Rel k MX MM) (hMX : MR MX) (hMM : MR MM) (hw : wS D A s.heap (WX τ ax MX ++ (WM τ am MM ++ [OC τ ao g])) H locs) (hl : lv_has ls 8 [(4, .int (iI (5 * (k : Int)))), (3, .ref ao), (2, .ref (am 1)), (1, .ref (ax 155)), (0, .ref b)]) : W p l e room_1 s m #[Value.ref b] below meth c H locs (300 + 20 * k) (6000 + 120 * k) (lw_Z below #[Value.ref b] s) (F0 m 746 ls []) := by
  obtain ⟨y1, hy1, ey1⟩ := iI_of (xs (5 * (k : Int) + 1).toNat)
  obtain ⟨y2, hy2, ey2⟩ := iI_of (xs (5 * (k : Int) + 2).toNat)
  obtain ⟨y3, hy3, ey3⟩ := iI_of (xs (5 * (k : Int) + 3).toNat)
  obtain ⟨y4, hy4, ey4⟩ := iI_of (xs (5 * (k : Int) + 4).toNat)
  have hv := Rl_passes k MX MM y1 y2 hy1 hy2 hk hMX hMM hR
  refine lv_aload_n hx hb dL_law_746 rfl (lv_at hl 3 rfl) ?_
  refine lv_aload_n hx hb dL_law_747 rfl (lv_at hl 4 rfl) ?_
  refine lv_iload hx hb dL_law_748 (lv_at hl 0 rfl) ?_
  refine r_iconst hx hb dL_law_750 ?_
  refine r_iadd (z := 5 * (k : Int) + 1) hx hb dL_law_751 rfl ?_
  refine r_sld hx hb hX hbl hbA hw (by omega) (by omega) (by omega) ey1 dL_law_752 ?_
  refine lv_aload_n hx hb dL_law_753 rfl (lv_at hl 4 rfl) ?_
  refine lv_iload hx hb dL_law_754 (lv_at hl 0 rfl) ?_
  refine r_iconst hx hb dL_law_756 ?_
  refine r_iadd (z := 5 * (k : Int) + 2) hx hb dL_law_757 rfl ?_
  refine r_sld hx hb hX hbl hbA hw (by omega) (by omega) (by omega) ey2 dL_law_758 ?_
  refine s_cVi (Wf := WX τ ax) (As := [.int (iI y1), .int (iI y2)]) (rest := []) hx hb hml hC hLS hA hw hl.1 (mX11_passes l D τ ax sA sV _ y1 y2 hy1 hy2 MX hMX _ hv) kX11_passes ml_L_114 rfl (gX_155 τ ax MX) rfl rfl (Nat.le_of_ble_eq_true rfl) ⟨by decide, by decide⟩ ⟨by show 300 + 20 * k ≤ 601024; omega, by show 6000 + 120 * k ≤ 7293034; omega⟩ (cells' := 300 + 20 * k) (slots' := 6000 + 120 * k) rfl rfl dL_law_759 (fun z1 MX1 H locs hz1 hMX hv hw => ?_)
  refine lv_pop hx hb dL_law_762 rfl ?_
  refine lv_aload_n hx hb dL_law_763 rfl (lv_at hl 2 rfl) ?_
  refine lv_aload_n hx hb dL_law_764 rfl (lv_at hl 4 rfl) ?_
  refine lv_iload hx hb dL_law_765 (lv_at hl 0 rfl) ?_
  refine r_iconst hx hb dL_law_767 ?_
  refine r_iadd (z := 5 * (k : Int) + 1) hx hb dL_law_768 rfl ?_
  refine r_sld hx hb hX hbl hbA hw (by omega) (by omega) (by omega) ey1 dL_law_769 ?_
  refine lv_aload_n hx hb dL_law_770 rfl (lv_at hl 4 rfl) ?_
  refine lv_iload hx hb dL_law_771 (lv_at hl 0 rfl) ?_
  refine r_iconst hx hb dL_law_773 ?_
  refine r_iadd (z := 5 * (k : Int) + 2) hx hb dL_law_774 rfl ?_
  refine r_sld hx hb hX hbl hbA hw (by omega) (by omega) (by omega) ey2 dL_law_775 ?_
  have hw := hw.rot
  refine s_cVi (Wf := WM τ am) (As := [.int (iI y1), .int (iI y2)]) (rest := []) hx hb hml hC hLS hA hw hl.1 (mX12_passes l D τ am sA sV _ y1 y2 hy1 hy2 MM hMM _ hv) kX12_passes ml_L_117 rfl (gM_1 τ am MM) rfl rfl (Nat.le_of_ble_eq_true rfl) ⟨by decide, by decide⟩ ⟨by show 300 + 20 * k ≤ 601024; omega, by show 6000 + 120 * k ≤ 7293034; omega⟩ (cells' := 300 + 20 * k) (slots' := 6000 + 120 * k) rfl rfl dL_law_776 (fun z2 MM2 H locs hz2 hMM hv hw => ?_)
  have hw := hw.rot.rot
  refine lv_pop hx hb dL_law_779 rfl ?_
  refine lv_goto (tgt := 1276) hx hb dL_law_780 (by decide) ?_
  exact NEXT MX1 MM2 g _ _ _ _ _ hv hMX hMM hw (lv_sub hl [0, 1, 2, 3, 4] rfl) (by omega) (by omega)
set_option maxHeartbeats 4000000 in
set_option maxRecDepth 100000 in
theorem law_case21 {p : Program} {e : Env} {s : State} {m : MethodId} {below : List Frame} {meth : Method} {c : Code} (l : Launch) (hst : l.stackTraces = false) {b L : Nat} {xs : Nat → Int32} {D : va_G} {τ : Nat → ClassId} {A : Nat → Prop} {sA sV : Nat → Nat} {ax am : Nat → Nat} {ao : Nat} (hx : p.tables.exec = Jvm.exec) (hb : c.code = code) (hml : c.maxLocals = 8) (hC : cx D τ s m #[Value.ref b] RL) (hLS : LK A s s.heap sA sV) (hXX : XX A s) (hA : ∀ q : Nat, s.heap.size ≤ q → A q) (hX : va_X b L xs s s.heap) (hbl : b < s.heap.size) (hbA : ¬ A b) (k : Nat) (hk : k < 512) (hkL : 5 * (k : Int) + 5 ≤ L) (hL : L ≤ 2560)
  (NEXT : ∀ (MX MM : Mem) (g : Int → Int) (H : Heap) (locs : List Loc) (ls : Array Slot) (cc ss : Nat), Rel (k + 1) MX MM → MR MX → MR MM → wS D A s.heap (WX τ ax MX ++ (WM τ am MM ++ [OC τ ao g])) H locs → lv_has ls 8 [(4, .int (iI (5 * (k : Int)))), (3, .ref ao), (2, .ref (am 1)), (1, .ref (ax 155)), (0, .ref b)] → cc ≤ 300 + 20 * (k + 1) → ss ≤ 6000 + 120 * (k + 1) → W p l e room_1 s m #[Value.ref b] below meth c H locs cc ss (lw_Z below #[Value.ref b] s) (F0 m 1276 ls []))
  (MX MM : Mem) (g : Int → Int) (H : Heap) (locs : List Loc) (ls : Array Slot) (hR : Rel k MX MM) (hMX : MR MX) (hMM : MR MM) (hw : wS D A s.heap (WX τ ax MX ++ (WM τ am MM ++ [OC τ ao g])) H locs) (hl : lv_has ls 8 [(4, .int (iI (5 * (k : Int)))), (3, .ref ao), (2, .ref (am 1)), (1, .ref (ax 155)), (0, .ref b)]) : W p l e room_1 s m #[Value.ref b] below meth c H locs (300 + 20 * k) (6000 + 120 * k) (lw_Z below #[Value.ref b] s) (F0 m 783 ls []) := by
  obtain ⟨y1, hy1, ey1⟩ := iI_of (xs (5 * (k : Int) + 1).toNat)
  obtain ⟨y2, hy2, ey2⟩ := iI_of (xs (5 * (k : Int) + 2).toNat)
  obtain ⟨y3, hy3, ey3⟩ := iI_of (xs (5 * (k : Int) + 3).toNat)
  obtain ⟨y4, hy4, ey4⟩ := iI_of (xs (5 * (k : Int) + 4).toNat)
  have hv := Rl_ends k MX MM y1 hy1 hk hMX hMM hR
  refine lv_aload_n hx hb dL_law_783 rfl (lv_at hl 3 rfl) ?_
  refine lv_aload_n hx hb dL_law_784 rfl (lv_at hl 4 rfl) ?_
  refine lv_iload hx hb dL_law_785 (lv_at hl 0 rfl) ?_
  refine r_iconst hx hb dL_law_787 ?_
  refine r_iadd (z := 5 * (k : Int) + 1) hx hb dL_law_788 rfl ?_
  refine r_sld hx hb hX hbl hbA hw (by omega) (by omega) (by omega) ey1 dL_law_789 ?_
  refine s_cVi (Wf := WX τ ax) (As := [.int (iI y1)]) (rest := []) hx hb hml hC hLS hA hw hl.1 (mX11_ends l D τ ax sA sV _ y1 hy1 MX hMX _ hv) kX11_ends ml_L_118 rfl (gX_155 τ ax MX) rfl rfl (Nat.le_of_ble_eq_true rfl) ⟨by decide, by decide⟩ ⟨by show 300 + 20 * k ≤ 601024; omega, by show 6000 + 120 * k ≤ 7293034; omega⟩ (cells' := 300 + 20 * k) (slots' := 6000 + 120 * k) rfl rfl dL_law_790 (fun z1 MX1 H locs hz1 hMX hv hw => ?_)
  refine lv_pop hx hb dL_law_793 rfl ?_
  refine lv_aload_n hx hb dL_law_794 rfl (lv_at hl 2 rfl) ?_
  refine lv_aload_n hx hb dL_law_795 rfl (lv_at hl 4 rfl) ?_
  refine lv_iload hx hb dL_law_796 (lv_at hl 0 rfl) ?_
  refine r_iconst hx hb dL_law_798 ?_
  refine r_iadd (z := 5 * (k : Int) + 1) hx hb dL_law_799 rfl ?_
  refine r_sld hx hb hX hbl hbA hw (by omega) (by omega) (by omega) ey1 dL_law_800 ?_
  have hw := hw.rot
  refine s_cVi (Wf := WM τ am) (As := [.int (iI y1)]) (rest := []) hx hb hml hC hLS hA hw hl.1 (mX12_ends l D τ am sA sV _ y1 hy1 MM hMM _ hv) kX12_ends ml_L_121 rfl (gM_1 τ am MM) rfl rfl (Nat.le_of_ble_eq_true rfl) ⟨by decide, by decide⟩ ⟨by show 300 + 20 * k ≤ 601024; omega, by show 6000 + 120 * k ≤ 7293034; omega⟩ (cells' := 300 + 20 * k) (slots' := 6000 + 120 * k) rfl rfl dL_law_801 (fun z2 MM2 H locs hz2 hMM hv hw => ?_)
  have hw := hw.rot.rot
  refine lv_pop hx hb dL_law_804 rfl ?_
  refine lv_goto (tgt := 1276) hx hb dL_law_805 (by decide) ?_
  exact NEXT MX1 MM2 g _ _ _ _ _ hv hMX hMM hw (lv_sub hl [0, 1, 2, 3, 4] rfl) (by omega) (by omega)
set_option maxHeartbeats 4000000 in
set_option maxRecDepth 100000 in
theorem law_case22 {p : Program} {e : Env} {s : State} {m : MethodId} {below : List Frame} {meth : Method} {c : Code} (l : Launch) (hst : l.stackTraces = false) {b L : Nat} {xs : Nat → Int32} {D : va_G} {τ : Nat → ClassId} {A : Nat → Prop} {sA sV : Nat → Nat} {ax am : Nat → Nat} {ao : Nat} (hx : p.tables.exec = Jvm.exec) (hb : c.code = code) (hml : c.maxLocals = 8) (hC : cx D τ s m #[Value.ref b] RL) (hLS : LK A s s.heap sA sV) (hXX : XX A s) (hA : ∀ q : Nat, s.heap.size ≤ q → A q) (hX : va_X b L xs s s.heap) (hbl : b < s.heap.size) (hbA : ¬ A b) (k : Nat) (hk : k < 512) (hkL : 5 * (k : Int) + 5 ≤ L) (hL : L ≤ 2560)
  (NEXT : ∀ (MX MM : Mem) (g : Int → Int) (H : Heap) (locs : List Loc) (ls : Array Slot) (cc ss : Nat), Rel (k + 1) MX MM → MR MX → MR MM → wS D A s.heap (WX τ ax MX ++ (WM τ am MM ++ [OC τ ao g])) H locs → lv_has ls 8 [(4, .int (iI (5 * (k : Int)))), (3, .ref ao), (2, .ref (am 1)), (1, .ref (ax 155)), (0, .ref b)] → cc ≤ 300 + 20 * (k + 1) → ss ≤ 6000 + 120 * (k + 1) → W p l e room_1 s m #[Value.ref b] below meth c H locs cc ss (lw_Z below #[Value.ref b] s) (F0 m 1276 ls []))
  (MX MM : Mem) (g : Int → Int) (H : Heap) (locs : List Loc) (ls : Array Slot) (hR : Rel k MX MM) (hMX : MR MX) (hMM : MR MM) (hw : wS D A s.heap (WX τ ax MX ++ (WM τ am MM ++ [OC τ ao g])) H locs) (hl : lv_has ls 8 [(4, .int (iI (5 * (k : Int)))), (3, .ref ao), (2, .ref (am 1)), (1, .ref (ax 155)), (0, .ref b)]) : W p l e room_1 s m #[Value.ref b] below meth c H locs (300 + 20 * k) (6000 + 120 * k) (lw_Z below #[Value.ref b] s) (F0 m 808 ls []) := by
  obtain ⟨y1, hy1, ey1⟩ := iI_of (xs (5 * (k : Int) + 1).toNat)
  obtain ⟨y2, hy2, ey2⟩ := iI_of (xs (5 * (k : Int) + 2).toNat)
  obtain ⟨y3, hy3, ey3⟩ := iI_of (xs (5 * (k : Int) + 3).toNat)
  obtain ⟨y4, hy4, ey4⟩ := iI_of (xs (5 * (k : Int) + 4).toNat)
  have hv := Rl_right k MX MM   hk hMX hMM hR
  refine lv_aload_n hx hb dL_law_808 rfl (lv_at hl 3 rfl) ?_
  refine s_cVi (Wf := WX τ ax) (As := []) (rest := []) hx hb hml hC hLS hA hw hl.1 (mX11_right l D τ ax sA sV _   MX hMX _ hv) kX11_right ml_L_122 rfl (gX_155 τ ax MX) rfl rfl (Nat.le_of_ble_eq_true rfl) ⟨by decide, by decide⟩ ⟨by show 300 + 20 * k ≤ 601024; omega, by show 6000 + 120 * k ≤ 7293034; omega⟩ (cells' := 300 + 20 * k) (slots' := 6000 + 120 * k) rfl rfl dL_law_809 (fun z1 MX1 H locs hz1 hMX hv hw => ?_)
  refine lv_pop hx hb dL_law_812 rfl ?_
  refine lv_aload_n hx hb dL_law_813 rfl (lv_at hl 2 rfl) ?_
  have hw := hw.rot
  refine s_cVi (Wf := WM τ am) (As := []) (rest := []) hx hb hml hC hLS hA hw hl.1 (mX12_right l D τ am sA sV _   MM hMM _ hv) kX12_right ml_L_125 rfl (gM_1 τ am MM) rfl rfl (Nat.le_of_ble_eq_true rfl) ⟨by decide, by decide⟩ ⟨by show 300 + 20 * k ≤ 601024; omega, by show 6000 + 120 * k ≤ 7293034; omega⟩ (cells' := 300 + 20 * k) (slots' := 6000 + 120 * k) rfl rfl dL_law_814 (fun z2 MM2 H locs hz2 hMM hv hw => ?_)
  have hw := hw.rot.rot
  refine lv_pop hx hb dL_law_817 rfl ?_
  refine lv_goto (tgt := 1276) hx hb dL_law_818 (by decide) ?_
  exact NEXT MX1 MM2 g _ _ _ _ _ hv hMX hMM hw (lv_sub hl [0, 1, 2, 3, 4] rfl) (by omega) (by omega)
set_option maxHeartbeats 4000000 in
set_option maxRecDepth 100000 in
theorem law_case23 {p : Program} {e : Env} {s : State} {m : MethodId} {below : List Frame} {meth : Method} {c : Code} (l : Launch) (hst : l.stackTraces = false) {b L : Nat} {xs : Nat → Int32} {D : va_G} {τ : Nat → ClassId} {A : Nat → Prop} {sA sV : Nat → Nat} {ax am : Nat → Nat} {ao : Nat} (hx : p.tables.exec = Jvm.exec) (hb : c.code = code) (hml : c.maxLocals = 8) (hC : cx D τ s m #[Value.ref b] RL) (hLS : LK A s s.heap sA sV) (hXX : XX A s) (hA : ∀ q : Nat, s.heap.size ≤ q → A q) (hX : va_X b L xs s s.heap) (hbl : b < s.heap.size) (hbA : ¬ A b) (k : Nat) (hk : k < 512) (hkL : 5 * (k : Int) + 5 ≤ L) (hL : L ≤ 2560)
  (NEXT : ∀ (MX MM : Mem) (g : Int → Int) (H : Heap) (locs : List Loc) (ls : Array Slot) (cc ss : Nat), Rel (k + 1) MX MM → MR MX → MR MM → wS D A s.heap (WX τ ax MX ++ (WM τ am MM ++ [OC τ ao g])) H locs → lv_has ls 8 [(4, .int (iI (5 * (k : Int)))), (3, .ref ao), (2, .ref (am 1)), (1, .ref (ax 155)), (0, .ref b)] → cc ≤ 300 + 20 * (k + 1) → ss ≤ 6000 + 120 * (k + 1) → W p l e room_1 s m #[Value.ref b] below meth c H locs cc ss (lw_Z below #[Value.ref b] s) (F0 m 1276 ls []))
  (MX MM : Mem) (g : Int → Int) (H : Heap) (locs : List Loc) (ls : Array Slot) (hR : Rel k MX MM) (hMX : MR MX) (hMM : MR MM) (hw : wS D A s.heap (WX τ ax MX ++ (WM τ am MM ++ [OC τ ao g])) H locs) (hl : lv_has ls 8 [(4, .int (iI (5 * (k : Int)))), (3, .ref ao), (2, .ref (am 1)), (1, .ref (ax 155)), (0, .ref b)]) : W p l e room_1 s m #[Value.ref b] below meth c H locs (300 + 20 * k) (6000 + 120 * k) (lw_Z below #[Value.ref b] s) (F0 m 821 ls []) := by
  obtain ⟨y1, hy1, ey1⟩ := iI_of (xs (5 * (k : Int) + 1).toNat)
  obtain ⟨y2, hy2, ey2⟩ := iI_of (xs (5 * (k : Int) + 2).toNat)
  obtain ⟨y3, hy3, ey3⟩ := iI_of (xs (5 * (k : Int) + 3).toNat)
  obtain ⟨y4, hy4, ey4⟩ := iI_of (xs (5 * (k : Int) + 4).toNat)
  have hv := Rl_order k MX MM   hk hMX hMM hR
  refine lv_aload_n hx hb dL_law_821 rfl (lv_at hl 3 rfl) ?_
  refine s_cVi (Wf := WX τ ax) (As := []) (rest := []) hx hb hml hC hLS hA hw hl.1 (mX11_order l D τ ax sA sV _   MX hMX _ hv) kX11_order ml_L_126 rfl (gX_155 τ ax MX) rfl rfl (Nat.le_of_ble_eq_true rfl) ⟨by decide, by decide⟩ ⟨by show 300 + 20 * k ≤ 601024; omega, by show 6000 + 120 * k ≤ 7293034; omega⟩ (cells' := 300 + 20 * k) (slots' := 6000 + 120 * k) rfl rfl dL_law_822 (fun z1 MX1 H locs hz1 hMX hv hw => ?_)
  refine lv_pop hx hb dL_law_825 rfl ?_
  refine lv_aload_n hx hb dL_law_826 rfl (lv_at hl 2 rfl) ?_
  have hw := hw.rot
  refine s_cVi (Wf := WM τ am) (As := []) (rest := []) hx hb hml hC hLS hA hw hl.1 (mX12_order l D τ am sA sV _   MM hMM _ hv) kX12_order ml_L_129 rfl (gM_1 τ am MM) rfl rfl (Nat.le_of_ble_eq_true rfl) ⟨by decide, by decide⟩ ⟨by show 300 + 20 * k ≤ 601024; omega, by show 6000 + 120 * k ≤ 7293034; omega⟩ (cells' := 300 + 20 * k) (slots' := 6000 + 120 * k) rfl rfl dL_law_827 (fun z2 MM2 H locs hz2 hMM hv hw => ?_)
  have hw := hw.rot.rot
  refine lv_pop hx hb dL_law_830 rfl ?_
  refine lv_goto (tgt := 1276) hx hb dL_law_831 (by decide) ?_
  exact NEXT MX1 MM2 g _ _ _ _ _ hv hMX hMM hw (lv_sub hl [0, 1, 2, 3, 4] rfl) (by omega) (by omega)
set_option maxHeartbeats 4000000 in
set_option maxRecDepth 100000 in
theorem law_case24 {p : Program} {e : Env} {s : State} {m : MethodId} {below : List Frame} {meth : Method} {c : Code} (l : Launch) (hst : l.stackTraces = false) {b L : Nat} {xs : Nat → Int32} {D : va_G} {τ : Nat → ClassId} {A : Nat → Prop} {sA sV : Nat → Nat} {ax am : Nat → Nat} {ao : Nat} (hx : p.tables.exec = Jvm.exec) (hb : c.code = code) (hml : c.maxLocals = 8) (hC : cx D τ s m #[Value.ref b] RL) (hLS : LK A s s.heap sA sV) (hXX : XX A s) (hA : ∀ q : Nat, s.heap.size ≤ q → A q) (hX : va_X b L xs s s.heap) (hbl : b < s.heap.size) (hbA : ¬ A b) (k : Nat) (hk : k < 512) (hkL : 5 * (k : Int) + 5 ≤ L) (hL : L ≤ 2560)
  (NEXT : ∀ (MX MM : Mem) (g : Int → Int) (H : Heap) (locs : List Loc) (ls : Array Slot) (cc ss : Nat), Rel (k + 1) MX MM → MR MX → MR MM → wS D A s.heap (WX τ ax MX ++ (WM τ am MM ++ [OC τ ao g])) H locs → lv_has ls 8 [(4, .int (iI (5 * (k : Int)))), (3, .ref ao), (2, .ref (am 1)), (1, .ref (ax 155)), (0, .ref b)] → cc ≤ 300 + 20 * (k + 1) → ss ≤ 6000 + 120 * (k + 1) → W p l e room_1 s m #[Value.ref b] below meth c H locs cc ss (lw_Z below #[Value.ref b] s) (F0 m 1276 ls []))
  (MX MM : Mem) (g : Int → Int) (H : Heap) (locs : List Loc) (ls : Array Slot) (hR : Rel k MX MM) (hMX : MR MX) (hMM : MR MM) (hw : wS D A s.heap (WX τ ax MX ++ (WM τ am MM ++ [OC τ ao g])) H locs) (hl : lv_has ls 8 [(4, .int (iI (5 * (k : Int)))), (3, .ref ao), (2, .ref (am 1)), (1, .ref (ax 155)), (0, .ref b)]) : W p l e room_1 s m #[Value.ref b] below meth c H locs (300 + 20 * k) (6000 + 120 * k) (lw_Z below #[Value.ref b] s) (F0 m 834 ls []) := by
  obtain ⟨y1, hy1, ey1⟩ := iI_of (xs (5 * (k : Int) + 1).toNat)
  obtain ⟨y2, hy2, ey2⟩ := iI_of (xs (5 * (k : Int) + 2).toNat)
  obtain ⟨y3, hy3, ey3⟩ := iI_of (xs (5 * (k : Int) + 3).toNat)
  obtain ⟨y4, hy4, ey4⟩ := iI_of (xs (5 * (k : Int) + 4).toNat)
  have hv := Rl_stands k MX MM y1 hy1 hk hMX hMM hR
  refine lv_aload_n hx hb dL_law_834 rfl (lv_at hl 3 rfl) ?_
  refine lv_aload_n hx hb dL_law_835 rfl (lv_at hl 4 rfl) ?_
  refine lv_iload hx hb dL_law_836 (lv_at hl 0 rfl) ?_
  refine r_iconst hx hb dL_law_838 ?_
  refine r_iadd (z := 5 * (k : Int) + 1) hx hb dL_law_839 rfl ?_
  refine r_sld hx hb hX hbl hbA hw (by omega) (by omega) (by omega) ey1 dL_law_840 ?_
  refine s_cVi (Wf := WX τ ax) (As := [.int (iI y1)]) (rest := []) hx hb hml hC hLS hA hw hl.1 (mX11_stands l D τ ax sA sV _ y1 hy1 MX hMX _ hv) kX11_stands ml_L_130 rfl (gX_155 τ ax MX) rfl rfl (Nat.le_of_ble_eq_true rfl) ⟨by decide, by decide⟩ ⟨by show 300 + 20 * k ≤ 601024; omega, by show 6000 + 120 * k ≤ 7293034; omega⟩ (cells' := 300 + 20 * k) (slots' := 6000 + 120 * k) rfl rfl dL_law_841 (fun z1 MX1 H locs hz1 hMX hv hw => ?_)
  refine lv_pop hx hb dL_law_844 rfl ?_
  refine lv_aload_n hx hb dL_law_845 rfl (lv_at hl 2 rfl) ?_
  refine lv_aload_n hx hb dL_law_846 rfl (lv_at hl 4 rfl) ?_
  refine lv_iload hx hb dL_law_847 (lv_at hl 0 rfl) ?_
  refine r_iconst hx hb dL_law_849 ?_
  refine r_iadd (z := 5 * (k : Int) + 1) hx hb dL_law_850 rfl ?_
  refine r_sld hx hb hX hbl hbA hw (by omega) (by omega) (by omega) ey1 dL_law_851 ?_
  have hw := hw.rot
  refine s_cVi (Wf := WM τ am) (As := [.int (iI y1)]) (rest := []) hx hb hml hC hLS hA hw hl.1 (mX12_stands l D τ am sA sV _ y1 hy1 MM hMM _ hv) kX12_stands ml_L_133 rfl (gM_1 τ am MM) rfl rfl (Nat.le_of_ble_eq_true rfl) ⟨by decide, by decide⟩ ⟨by show 300 + 20 * k ≤ 601024; omega, by show 6000 + 120 * k ≤ 7293034; omega⟩ (cells' := 300 + 20 * k) (slots' := 6000 + 120 * k) rfl rfl dL_law_852 (fun z2 MM2 H locs hz2 hMM hv hw => ?_)
  have hw := hw.rot.rot
  refine lv_pop hx hb dL_law_855 rfl ?_
  refine lv_goto (tgt := 1276) hx hb dL_law_856 (by decide) ?_
  exact NEXT MX1 MM2 g _ _ _ _ _ hv hMX hMM hw (lv_sub hl [0, 1, 2, 3, 4] rfl) (by omega) (by omega)
set_option maxHeartbeats 4000000 in
set_option maxRecDepth 100000 in
theorem law_case25 {p : Program} {e : Env} {s : State} {m : MethodId} {below : List Frame} {meth : Method} {c : Code} (l : Launch) (hst : l.stackTraces = false) {b L : Nat} {xs : Nat → Int32} {D : va_G} {τ : Nat → ClassId} {A : Nat → Prop} {sA sV : Nat → Nat} {ax am : Nat → Nat} {ao : Nat} (hx : p.tables.exec = Jvm.exec) (hb : c.code = code) (hml : c.maxLocals = 8) (hC : cx D τ s m #[Value.ref b] RL) (hLS : LK A s s.heap sA sV) (hXX : XX A s) (hA : ∀ q : Nat, s.heap.size ≤ q → A q) (hX : va_X b L xs s s.heap) (hbl : b < s.heap.size) (hbA : ¬ A b) (k : Nat) (hk : k < 512) (hkL : 5 * (k : Int) + 5 ≤ L) (hL : L ≤ 2560)
  (NEXT : ∀ (MX MM : Mem) (g : Int → Int) (H : Heap) (locs : List Loc) (ls : Array Slot) (cc ss : Nat), Rel (k + 1) MX MM → MR MX → MR MM → wS D A s.heap (WX τ ax MX ++ (WM τ am MM ++ [OC τ ao g])) H locs → lv_has ls 8 [(4, .int (iI (5 * (k : Int)))), (3, .ref ao), (2, .ref (am 1)), (1, .ref (ax 155)), (0, .ref b)] → cc ≤ 300 + 20 * (k + 1) → ss ≤ 6000 + 120 * (k + 1) → W p l e room_1 s m #[Value.ref b] below meth c H locs cc ss (lw_Z below #[Value.ref b] s) (F0 m 1276 ls []))
  (MX MM : Mem) (g : Int → Int) (H : Heap) (locs : List Loc) (ls : Array Slot) (hR : Rel k MX MM) (hMX : MR MX) (hMM : MR MM) (hw : wS D A s.heap (WX τ ax MX ++ (WM τ am MM ++ [OC τ ao g])) H locs) (hl : lv_has ls 8 [(4, .int (iI (5 * (k : Int)))), (3, .ref ao), (2, .ref (am 1)), (1, .ref (ax 155)), (0, .ref b)]) : W p l e room_1 s m #[Value.ref b] below meth c H locs (300 + 20 * k) (6000 + 120 * k) (lw_Z below #[Value.ref b] s) (F0 m 859 ls []) := by
  obtain ⟨y1, hy1, ey1⟩ := iI_of (xs (5 * (k : Int) + 1).toNat)
  obtain ⟨y2, hy2, ey2⟩ := iI_of (xs (5 * (k : Int) + 2).toNat)
  obtain ⟨y3, hy3, ey3⟩ := iI_of (xs (5 * (k : Int) + 3).toNat)
  obtain ⟨y4, hy4, ey4⟩ := iI_of (xs (5 * (k : Int) + 4).toNat)
  have hv := Rl_when k MX MM y1 hy1 hk hMX hMM hR
  refine lv_aload_n hx hb dL_law_859 rfl (lv_at hl 3 rfl) ?_
  refine lv_aload_n hx hb dL_law_860 rfl (lv_at hl 4 rfl) ?_
  refine lv_iload hx hb dL_law_861 (lv_at hl 0 rfl) ?_
  refine r_iconst hx hb dL_law_863 ?_
  refine r_iadd (z := 5 * (k : Int) + 1) hx hb dL_law_864 rfl ?_
  refine r_sld hx hb hX hbl hbA hw (by omega) (by omega) (by omega) ey1 dL_law_865 ?_
  refine s_cVi (Wf := WX τ ax) (As := [.int (iI y1)]) (rest := []) hx hb hml hC hLS hA hw hl.1 (mX11_when l D τ ax sA sV _ y1 hy1 MX hMX _ hv) kX11_when ml_L_134 rfl (gX_155 τ ax MX) rfl rfl (Nat.le_of_ble_eq_true rfl) ⟨by decide, by decide⟩ ⟨by show 300 + 20 * k ≤ 601024; omega, by show 6000 + 120 * k ≤ 7293034; omega⟩ (cells' := 300 + 20 * k) (slots' := 6000 + 120 * k) rfl rfl dL_law_866 (fun z1 MX1 H locs hz1 hMX hv hw => ?_)
  refine lv_pop hx hb dL_law_869 rfl ?_
  refine lv_aload_n hx hb dL_law_870 rfl (lv_at hl 2 rfl) ?_
  refine lv_aload_n hx hb dL_law_871 rfl (lv_at hl 4 rfl) ?_
  refine lv_iload hx hb dL_law_872 (lv_at hl 0 rfl) ?_
  refine r_iconst hx hb dL_law_874 ?_
  refine r_iadd (z := 5 * (k : Int) + 1) hx hb dL_law_875 rfl ?_
  refine r_sld hx hb hX hbl hbA hw (by omega) (by omega) (by omega) ey1 dL_law_876 ?_
  have hw := hw.rot
  refine s_cVi (Wf := WM τ am) (As := [.int (iI y1)]) (rest := []) hx hb hml hC hLS hA hw hl.1 (mX12_when l D τ am sA sV _ y1 hy1 MM hMM _ hv) kX12_when ml_L_137 rfl (gM_1 τ am MM) rfl rfl (Nat.le_of_ble_eq_true rfl) ⟨by decide, by decide⟩ ⟨by show 300 + 20 * k ≤ 601024; omega, by show 6000 + 120 * k ≤ 7293034; omega⟩ (cells' := 300 + 20 * k) (slots' := 6000 + 120 * k) rfl rfl dL_law_877 (fun z2 MM2 H locs hz2 hMM hv hw => ?_)
  have hw := hw.rot.rot
  refine lv_pop hx hb dL_law_880 rfl ?_
  refine lv_goto (tgt := 1276) hx hb dL_law_881 (by decide) ?_
  exact NEXT MX1 MM2 g _ _ _ _ _ hv hMX hMM hw (lv_sub hl [0, 1, 2, 3, 4] rfl) (by omega) (by omega)
set_option maxHeartbeats 4000000 in
set_option maxRecDepth 100000 in
theorem law_case26 {p : Program} {e : Env} {s : State} {m : MethodId} {below : List Frame} {meth : Method} {c : Code} (l : Launch) (hst : l.stackTraces = false) {b L : Nat} {xs : Nat → Int32} {D : va_G} {τ : Nat → ClassId} {A : Nat → Prop} {sA sV : Nat → Nat} {ax am : Nat → Nat} {ao : Nat} (hx : p.tables.exec = Jvm.exec) (hb : c.code = code) (hml : c.maxLocals = 8) (hC : cx D τ s m #[Value.ref b] RL) (hLS : LK A s s.heap sA sV) (hXX : XX A s) (hA : ∀ q : Nat, s.heap.size ≤ q → A q) (hX : va_X b L xs s s.heap) (hbl : b < s.heap.size) (hbA : ¬ A b) (k : Nat) (hk : k < 512) (hkL : 5 * (k : Int) + 5 ≤ L) (hL : L ≤ 2560)
  (NEXT : ∀ (MX MM : Mem) (g : Int → Int) (H : Heap) (locs : List Loc) (ls : Array Slot) (cc ss : Nat), Rel (k + 1) MX MM → MR MX → MR MM → wS D A s.heap (WX τ ax MX ++ (WM τ am MM ++ [OC τ ao g])) H locs → lv_has ls 8 [(4, .int (iI (5 * (k : Int)))), (3, .ref ao), (2, .ref (am 1)), (1, .ref (ax 155)), (0, .ref b)] → cc ≤ 300 + 20 * (k + 1) → ss ≤ 6000 + 120 * (k + 1) → W p l e room_1 s m #[Value.ref b] below meth c H locs cc ss (lw_Z below #[Value.ref b] s) (F0 m 1276 ls []))
  (MX MM : Mem) (g : Int → Int) (H : Heap) (locs : List Loc) (ls : Array Slot) (hR : Rel k MX MM) (hMX : MR MX) (hMM : MR MM) (hw : wS D A s.heap (WX τ ax MX ++ (WM τ am MM ++ [OC τ ao g])) H locs) (hl : lv_has ls 8 [(4, .int (iI (5 * (k : Int)))), (3, .ref ao), (2, .ref (am 1)), (1, .ref (ax 155)), (0, .ref b)]) : W p l e room_1 s m #[Value.ref b] below meth c H locs (300 + 20 * k) (6000 + 120 * k) (lw_Z below #[Value.ref b] s) (F0 m 884 ls []) := by
  obtain ⟨y1, hy1, ey1⟩ := iI_of (xs (5 * (k : Int) + 1).toNat)
  obtain ⟨y2, hy2, ey2⟩ := iI_of (xs (5 * (k : Int) + 2).toNat)
  obtain ⟨y3, hy3, ey3⟩ := iI_of (xs (5 * (k : Int) + 3).toNat)
  obtain ⟨y4, hy4, ey4⟩ := iI_of (xs (5 * (k : Int) + 4).toNat)
  have hv := Rl_mends k MX MM y1 hy1 hk hMX hMM hR
  refine lv_aload_n hx hb dL_law_884 rfl (lv_at hl 3 rfl) ?_
  refine lv_aload_n hx hb dL_law_885 rfl (lv_at hl 4 rfl) ?_
  refine lv_iload hx hb dL_law_886 (lv_at hl 0 rfl) ?_
  refine r_iconst hx hb dL_law_888 ?_
  refine r_iadd (z := 5 * (k : Int) + 1) hx hb dL_law_889 rfl ?_
  refine r_sld hx hb hX hbl hbA hw (by omega) (by omega) (by omega) ey1 dL_law_890 ?_
  refine s_cVi (Wf := WX τ ax) (As := [.int (iI y1)]) (rest := []) hx hb hml hC hLS hA hw hl.1 (mX11_mends l D τ ax sA sV _ y1 hy1 MX hMX _ hv) kX11_mends ml_L_138 rfl (gX_155 τ ax MX) rfl rfl (Nat.le_of_ble_eq_true rfl) ⟨by decide, by decide⟩ ⟨by show 300 + 20 * k ≤ 601024; omega, by show 6000 + 120 * k ≤ 7293034; omega⟩ (cells' := 300 + 20 * k) (slots' := 6000 + 120 * k) rfl rfl dL_law_891 (fun z1 MX1 H locs hz1 hMX hv hw => ?_)
  refine lv_pop hx hb dL_law_894 rfl ?_
  refine lv_aload_n hx hb dL_law_895 rfl (lv_at hl 2 rfl) ?_
  refine lv_aload_n hx hb dL_law_896 rfl (lv_at hl 4 rfl) ?_
  refine lv_iload hx hb dL_law_897 (lv_at hl 0 rfl) ?_
  refine r_iconst hx hb dL_law_899 ?_
  refine r_iadd (z := 5 * (k : Int) + 1) hx hb dL_law_900 rfl ?_
  refine r_sld hx hb hX hbl hbA hw (by omega) (by omega) (by omega) ey1 dL_law_901 ?_
  have hw := hw.rot
  refine s_cVi (Wf := WM τ am) (As := [.int (iI y1)]) (rest := []) hx hb hml hC hLS hA hw hl.1 (mX12_mends l D τ am sA sV _ y1 hy1 MM hMM _ hv) kX12_mends ml_L_141 rfl (gM_1 τ am MM) rfl rfl (Nat.le_of_ble_eq_true rfl) ⟨by decide, by decide⟩ ⟨by show 300 + 20 * k ≤ 601024; omega, by show 6000 + 120 * k ≤ 7293034; omega⟩ (cells' := 300 + 20 * k) (slots' := 6000 + 120 * k) rfl rfl dL_law_902 (fun z2 MM2 H locs hz2 hMM hv hw => ?_)
  have hw := hw.rot.rot
  refine lv_pop hx hb dL_law_905 rfl ?_
  refine lv_goto (tgt := 1276) hx hb dL_law_906 (by decide) ?_
  exact NEXT MX1 MM2 g _ _ _ _ _ hv hMX hMM hw (lv_sub hl [0, 1, 2, 3, 4] rfl) (by omega) (by omega)
set_option maxHeartbeats 4000000 in
set_option maxRecDepth 100000 in
theorem law_case27 {p : Program} {e : Env} {s : State} {m : MethodId} {below : List Frame} {meth : Method} {c : Code} (l : Launch) (hst : l.stackTraces = false) {b L : Nat} {xs : Nat → Int32} {D : va_G} {τ : Nat → ClassId} {A : Nat → Prop} {sA sV : Nat → Nat} {ax am : Nat → Nat} {ao : Nat} (hx : p.tables.exec = Jvm.exec) (hb : c.code = code) (hml : c.maxLocals = 8) (hC : cx D τ s m #[Value.ref b] RL) (hLS : LK A s s.heap sA sV) (hXX : XX A s) (hA : ∀ q : Nat, s.heap.size ≤ q → A q) (hX : va_X b L xs s s.heap) (hbl : b < s.heap.size) (hbA : ¬ A b) (k : Nat) (hk : k < 512) (hkL : 5 * (k : Int) + 5 ≤ L) (hL : L ≤ 2560)
  (NEXT : ∀ (MX MM : Mem) (g : Int → Int) (H : Heap) (locs : List Loc) (ls : Array Slot) (cc ss : Nat), Rel (k + 1) MX MM → MR MX → MR MM → wS D A s.heap (WX τ ax MX ++ (WM τ am MM ++ [OC τ ao g])) H locs → lv_has ls 8 [(4, .int (iI (5 * (k : Int)))), (3, .ref ao), (2, .ref (am 1)), (1, .ref (ax 155)), (0, .ref b)] → cc ≤ 300 + 20 * (k + 1) → ss ≤ 6000 + 120 * (k + 1) → W p l e room_1 s m #[Value.ref b] below meth c H locs cc ss (lw_Z below #[Value.ref b] s) (F0 m 1276 ls []))
  (MX MM : Mem) (g : Int → Int) (H : Heap) (locs : List Loc) (ls : Array Slot) (hR : Rel k MX MM) (hMX : MR MX) (hMM : MR MM) (hw : wS D A s.heap (WX τ ax MX ++ (WM τ am MM ++ [OC τ ao g])) H locs) (hl : lv_has ls 8 [(4, .int (iI (5 * (k : Int)))), (3, .ref ao), (2, .ref (am 1)), (1, .ref (ax 155)), (0, .ref b)]) : W p l e room_1 s m #[Value.ref b] below meth c H locs (300 + 20 * k) (6000 + 120 * k) (lw_Z below #[Value.ref b] s) (F0 m 909 ls []) := by
  obtain ⟨y1, hy1, ey1⟩ := iI_of (xs (5 * (k : Int) + 1).toNat)
  obtain ⟨y2, hy2, ey2⟩ := iI_of (xs (5 * (k : Int) + 2).toNat)
  obtain ⟨y3, hy3, ey3⟩ := iI_of (xs (5 * (k : Int) + 3).toNat)
  obtain ⟨y4, hy4, ey4⟩ := iI_of (xs (5 * (k : Int) + 4).toNat)
  have hv := Rl_misleads k MX MM   hk hMX hMM hR
  refine lv_aload_n hx hb dL_law_909 rfl (lv_at hl 3 rfl) ?_
  refine s_cVi (Wf := WX τ ax) (As := []) (rest := []) hx hb hml hC hLS hA hw hl.1 (mX11_misleads l D τ ax sA sV _   MX hMX _ hv) kX11_misleads ml_L_142 rfl (gX_155 τ ax MX) rfl rfl (Nat.le_of_ble_eq_true rfl) ⟨by decide, by decide⟩ ⟨by show 300 + 20 * k ≤ 601024; omega, by show 6000 + 120 * k ≤ 7293034; omega⟩ (cells' := 300 + 20 * k) (slots' := 6000 + 120 * k) rfl rfl dL_law_910 (fun z1 MX1 H locs hz1 hMX hv hw => ?_)
  refine lv_pop hx hb dL_law_913 rfl ?_
  refine lv_aload_n hx hb dL_law_914 rfl (lv_at hl 2 rfl) ?_
  have hw := hw.rot
  refine s_cVi (Wf := WM τ am) (As := []) (rest := []) hx hb hml hC hLS hA hw hl.1 (mX12_misleads l D τ am sA sV _   MM hMM _ hv) kX12_misleads ml_L_145 rfl (gM_1 τ am MM) rfl rfl (Nat.le_of_ble_eq_true rfl) ⟨by decide, by decide⟩ ⟨by show 300 + 20 * k ≤ 601024; omega, by show 6000 + 120 * k ≤ 7293034; omega⟩ (cells' := 300 + 20 * k) (slots' := 6000 + 120 * k) rfl rfl dL_law_915 (fun z2 MM2 H locs hz2 hMM hv hw => ?_)
  have hw := hw.rot.rot
  refine lv_pop hx hb dL_law_918 rfl ?_
  refine lv_goto (tgt := 1276) hx hb dL_law_919 (by decide) ?_
  exact NEXT MX1 MM2 g _ _ _ _ _ hv hMX hMM hw (lv_sub hl [0, 1, 2, 3, 4] rfl) (by omega) (by omega)
set_option maxHeartbeats 4000000 in
set_option maxRecDepth 100000 in
theorem law_case28 {p : Program} {e : Env} {s : State} {m : MethodId} {below : List Frame} {meth : Method} {c : Code} (l : Launch) (hst : l.stackTraces = false) {b L : Nat} {xs : Nat → Int32} {D : va_G} {τ : Nat → ClassId} {A : Nat → Prop} {sA sV : Nat → Nat} {ax am : Nat → Nat} {ao : Nat} (hx : p.tables.exec = Jvm.exec) (hb : c.code = code) (hml : c.maxLocals = 8) (hC : cx D τ s m #[Value.ref b] RL) (hLS : LK A s s.heap sA sV) (hXX : XX A s) (hA : ∀ q : Nat, s.heap.size ≤ q → A q) (hX : va_X b L xs s s.heap) (hbl : b < s.heap.size) (hbA : ¬ A b) (k : Nat) (hk : k < 512) (hkL : 5 * (k : Int) + 5 ≤ L) (hL : L ≤ 2560)
  (NEXT : ∀ (MX MM : Mem) (g : Int → Int) (H : Heap) (locs : List Loc) (ls : Array Slot) (cc ss : Nat), Rel (k + 1) MX MM → MR MX → MR MM → wS D A s.heap (WX τ ax MX ++ (WM τ am MM ++ [OC τ ao g])) H locs → lv_has ls 8 [(4, .int (iI (5 * (k : Int)))), (3, .ref ao), (2, .ref (am 1)), (1, .ref (ax 155)), (0, .ref b)] → cc ≤ 300 + 20 * (k + 1) → ss ≤ 6000 + 120 * (k + 1) → W p l e room_1 s m #[Value.ref b] below meth c H locs cc ss (lw_Z below #[Value.ref b] s) (F0 m 1276 ls []))
  (MX MM : Mem) (g : Int → Int) (H : Heap) (locs : List Loc) (ls : Array Slot) (hR : Rel k MX MM) (hMX : MR MX) (hMM : MR MM) (hw : wS D A s.heap (WX τ ax MX ++ (WM τ am MM ++ [OC τ ao g])) H locs) (hl : lv_has ls 8 [(4, .int (iI (5 * (k : Int)))), (3, .ref ao), (2, .ref (am 1)), (1, .ref (ax 155)), (0, .ref b)]) : W p l e room_1 s m #[Value.ref b] below meth c H locs (300 + 20 * k) (6000 + 120 * k) (lw_Z below #[Value.ref b] s) (F0 m 922 ls []) := by
  obtain ⟨y1, hy1, ey1⟩ := iI_of (xs (5 * (k : Int) + 1).toNat)
  obtain ⟨y2, hy2, ey2⟩ := iI_of (xs (5 * (k : Int) + 2).toNat)
  obtain ⟨y3, hy3, ey3⟩ := iI_of (xs (5 * (k : Int) + 3).toNat)
  obtain ⟨y4, hy4, ey4⟩ := iI_of (xs (5 * (k : Int) + 4).toNat)
  have hv := Rl_crowd k MX MM   hk hMX hMM hR
  refine lv_aload_n hx hb dL_law_922 rfl (lv_at hl 3 rfl) ?_
  refine s_cVi (Wf := WX τ ax) (As := []) (rest := []) hx hb hml hC hLS hA hw hl.1 (mX11_crowd l D τ ax sA sV _   MX hMX _ hv) kX11_crowd ml_L_146 rfl (gX_155 τ ax MX) rfl rfl (Nat.le_of_ble_eq_true rfl) ⟨by decide, by decide⟩ ⟨by show 300 + 20 * k ≤ 601024; omega, by show 6000 + 120 * k ≤ 7293034; omega⟩ (cells' := 300 + 20 * k) (slots' := 6000 + 120 * k) rfl rfl dL_law_923 (fun z1 MX1 H locs hz1 hMX hv hw => ?_)
  refine lv_pop hx hb dL_law_926 rfl ?_
  refine lv_aload_n hx hb dL_law_927 rfl (lv_at hl 2 rfl) ?_
  have hw := hw.rot
  refine s_cVi (Wf := WM τ am) (As := []) (rest := []) hx hb hml hC hLS hA hw hl.1 (mX12_crowd l D τ am sA sV _   MM hMM _ hv) kX12_crowd ml_L_149 rfl (gM_1 τ am MM) rfl rfl (Nat.le_of_ble_eq_true rfl) ⟨by decide, by decide⟩ ⟨by show 300 + 20 * k ≤ 601024; omega, by show 6000 + 120 * k ≤ 7293034; omega⟩ (cells' := 300 + 20 * k) (slots' := 6000 + 120 * k) rfl rfl dL_law_928 (fun z2 MM2 H locs hz2 hMM hv hw => ?_)
  have hw := hw.rot.rot
  refine lv_pop hx hb dL_law_931 rfl ?_
  refine lv_goto (tgt := 1276) hx hb dL_law_932 (by decide) ?_
  exact NEXT MX1 MM2 g _ _ _ _ _ hv hMX hMM hw (lv_sub hl [0, 1, 2, 3, 4] rfl) (by omega) (by omega)
set_option maxHeartbeats 4000000 in
set_option maxRecDepth 100000 in
theorem law_case29 {p : Program} {e : Env} {s : State} {m : MethodId} {below : List Frame} {meth : Method} {c : Code} (l : Launch) (hst : l.stackTraces = false) {b L : Nat} {xs : Nat → Int32} {D : va_G} {τ : Nat → ClassId} {A : Nat → Prop} {sA sV : Nat → Nat} {ax am : Nat → Nat} {ao : Nat} (hx : p.tables.exec = Jvm.exec) (hb : c.code = code) (hml : c.maxLocals = 8) (hC : cx D τ s m #[Value.ref b] RL) (hLS : LK A s s.heap sA sV) (hXX : XX A s) (hA : ∀ q : Nat, s.heap.size ≤ q → A q) (hX : va_X b L xs s s.heap) (hbl : b < s.heap.size) (hbA : ¬ A b) (k : Nat) (hk : k < 512) (hkL : 5 * (k : Int) + 5 ≤ L) (hL : L ≤ 2560)
  (NEXT : ∀ (MX MM : Mem) (g : Int → Int) (H : Heap) (locs : List Loc) (ls : Array Slot) (cc ss : Nat), Rel (k + 1) MX MM → MR MX → MR MM → wS D A s.heap (WX τ ax MX ++ (WM τ am MM ++ [OC τ ao g])) H locs → lv_has ls 8 [(4, .int (iI (5 * (k : Int)))), (3, .ref ao), (2, .ref (am 1)), (1, .ref (ax 155)), (0, .ref b)] → cc ≤ 300 + 20 * (k + 1) → ss ≤ 6000 + 120 * (k + 1) → W p l e room_1 s m #[Value.ref b] below meth c H locs cc ss (lw_Z below #[Value.ref b] s) (F0 m 1276 ls []))
  (MX MM : Mem) (g : Int → Int) (H : Heap) (locs : List Loc) (ls : Array Slot) (hR : Rel k MX MM) (hMX : MR MX) (hMM : MR MM) (hw : wS D A s.heap (WX τ ax MX ++ (WM τ am MM ++ [OC τ ao g])) H locs) (hl : lv_has ls 8 [(4, .int (iI (5 * (k : Int)))), (3, .ref ao), (2, .ref (am 1)), (1, .ref (ax 155)), (0, .ref b)]) : W p l e room_1 s m #[Value.ref b] below meth c H locs (300 + 20 * k) (6000 + 120 * k) (lw_Z below #[Value.ref b] s) (F0 m 935 ls []) := by
  obtain ⟨y1, hy1, ey1⟩ := iI_of (xs (5 * (k : Int) + 1).toNat)
  obtain ⟨y2, hy2, ey2⟩ := iI_of (xs (5 * (k : Int) + 2).toNat)
  obtain ⟨y3, hy3, ey3⟩ := iI_of (xs (5 * (k : Int) + 3).toNat)
  obtain ⟨y4, hy4, ey4⟩ := iI_of (xs (5 * (k : Int) + 4).toNat)
  have hv := Rl_shares k MX MM y1 hy1 hk hMX hMM hR
  refine lv_aload_n hx hb dL_law_935 rfl (lv_at hl 3 rfl) ?_
  refine lv_aload_n hx hb dL_law_936 rfl (lv_at hl 4 rfl) ?_
  refine lv_iload hx hb dL_law_937 (lv_at hl 0 rfl) ?_
  refine r_iconst hx hb dL_law_939 ?_
  refine r_iadd (z := 5 * (k : Int) + 1) hx hb dL_law_940 rfl ?_
  refine r_sld hx hb hX hbl hbA hw (by omega) (by omega) (by omega) ey1 dL_law_941 ?_
  refine s_cVi (Wf := WX τ ax) (As := [.int (iI y1)]) (rest := []) hx hb hml hC hLS hA hw hl.1 (mX11_shares l D τ ax sA sV _ y1 hy1 MX hMX _ hv) kX11_shares ml_L_150 rfl (gX_155 τ ax MX) rfl rfl (Nat.le_of_ble_eq_true rfl) ⟨by decide, by decide⟩ ⟨by show 300 + 20 * k ≤ 601024; omega, by show 6000 + 120 * k ≤ 7293034; omega⟩ (cells' := 300 + 20 * k) (slots' := 6000 + 120 * k) rfl rfl dL_law_942 (fun z1 MX1 H locs hz1 hMX hv hw => ?_)
  refine lv_pop hx hb dL_law_945 rfl ?_
  refine lv_aload_n hx hb dL_law_946 rfl (lv_at hl 2 rfl) ?_
  refine lv_aload_n hx hb dL_law_947 rfl (lv_at hl 4 rfl) ?_
  refine lv_iload hx hb dL_law_948 (lv_at hl 0 rfl) ?_
  refine r_iconst hx hb dL_law_950 ?_
  refine r_iadd (z := 5 * (k : Int) + 1) hx hb dL_law_951 rfl ?_
  refine r_sld hx hb hX hbl hbA hw (by omega) (by omega) (by omega) ey1 dL_law_952 ?_
  have hw := hw.rot
  refine s_cVi (Wf := WM τ am) (As := [.int (iI y1)]) (rest := []) hx hb hml hC hLS hA hw hl.1 (mX12_shares l D τ am sA sV _ y1 hy1 MM hMM _ hv) kX12_shares ml_L_153 rfl (gM_1 τ am MM) rfl rfl (Nat.le_of_ble_eq_true rfl) ⟨by decide, by decide⟩ ⟨by show 300 + 20 * k ≤ 601024; omega, by show 6000 + 120 * k ≤ 7293034; omega⟩ (cells' := 300 + 20 * k) (slots' := 6000 + 120 * k) rfl rfl dL_law_953 (fun z2 MM2 H locs hz2 hMM hv hw => ?_)
  have hw := hw.rot.rot
  refine lv_pop hx hb dL_law_956 rfl ?_
  refine lv_goto (tgt := 1276) hx hb dL_law_957 (by decide) ?_
  exact NEXT MX1 MM2 g _ _ _ _ _ hv hMX hMM hw (lv_sub hl [0, 1, 2, 3, 4] rfl) (by omega) (by omega)
set_option maxHeartbeats 4000000 in
set_option maxRecDepth 100000 in
theorem law_case30 {p : Program} {e : Env} {s : State} {m : MethodId} {below : List Frame} {meth : Method} {c : Code} (l : Launch) (hst : l.stackTraces = false) {b L : Nat} {xs : Nat → Int32} {D : va_G} {τ : Nat → ClassId} {A : Nat → Prop} {sA sV : Nat → Nat} {ax am : Nat → Nat} {ao : Nat} (hx : p.tables.exec = Jvm.exec) (hb : c.code = code) (hml : c.maxLocals = 8) (hC : cx D τ s m #[Value.ref b] RL) (hLS : LK A s s.heap sA sV) (hXX : XX A s) (hA : ∀ q : Nat, s.heap.size ≤ q → A q) (hX : va_X b L xs s s.heap) (hbl : b < s.heap.size) (hbA : ¬ A b) (k : Nat) (hk : k < 512) (hkL : 5 * (k : Int) + 5 ≤ L) (hL : L ≤ 2560)
  (NEXT : ∀ (MX MM : Mem) (g : Int → Int) (H : Heap) (locs : List Loc) (ls : Array Slot) (cc ss : Nat), Rel (k + 1) MX MM → MR MX → MR MM → wS D A s.heap (WX τ ax MX ++ (WM τ am MM ++ [OC τ ao g])) H locs → lv_has ls 8 [(4, .int (iI (5 * (k : Int)))), (3, .ref ao), (2, .ref (am 1)), (1, .ref (ax 155)), (0, .ref b)] → cc ≤ 300 + 20 * (k + 1) → ss ≤ 6000 + 120 * (k + 1) → W p l e room_1 s m #[Value.ref b] below meth c H locs cc ss (lw_Z below #[Value.ref b] s) (F0 m 1276 ls []))
  (MX MM : Mem) (g : Int → Int) (H : Heap) (locs : List Loc) (ls : Array Slot) (hR : Rel k MX MM) (hMX : MR MX) (hMM : MR MM) (hw : wS D A s.heap (WX τ ax MX ++ (WM τ am MM ++ [OC τ ao g])) H locs) (hl : lv_has ls 8 [(4, .int (iI (5 * (k : Int)))), (3, .ref ao), (2, .ref (am 1)), (1, .ref (ax 155)), (0, .ref b)]) : W p l e room_1 s m #[Value.ref b] below meth c H locs (300 + 20 * k) (6000 + 120 * k) (lw_Z below #[Value.ref b] s) (F0 m 960 ls []) := by
  obtain ⟨y1, hy1, ey1⟩ := iI_of (xs (5 * (k : Int) + 1).toNat)
  obtain ⟨y2, hy2, ey2⟩ := iI_of (xs (5 * (k : Int) + 2).toNat)
  obtain ⟨y3, hy3, ey3⟩ := iI_of (xs (5 * (k : Int) + 3).toNat)
  obtain ⟨y4, hy4, ey4⟩ := iI_of (xs (5 * (k : Int) + 4).toNat)
  have hv := Rl_strangers k MX MM   hk hMX hMM hR
  refine lv_aload_n hx hb dL_law_960 rfl (lv_at hl 3 rfl) ?_
  refine s_cVi (Wf := WX τ ax) (As := []) (rest := []) hx hb hml hC hLS hA hw hl.1 (mX11_strangers l D τ ax sA sV _   MX hMX _ hv) kX11_strangers ml_L_154 rfl (gX_155 τ ax MX) rfl rfl (Nat.le_of_ble_eq_true rfl) ⟨by decide, by decide⟩ ⟨by show 300 + 20 * k ≤ 601024; omega, by show 6000 + 120 * k ≤ 7293034; omega⟩ (cells' := 300 + 20 * k) (slots' := 6000 + 120 * k) rfl rfl dL_law_961 (fun z1 MX1 H locs hz1 hMX hv hw => ?_)
  refine lv_pop hx hb dL_law_964 rfl ?_
  refine lv_aload_n hx hb dL_law_965 rfl (lv_at hl 2 rfl) ?_
  have hw := hw.rot
  refine s_cVi (Wf := WM τ am) (As := []) (rest := []) hx hb hml hC hLS hA hw hl.1 (mX12_strangers l D τ am sA sV _   MM hMM _ hv) kX12_strangers ml_L_157 rfl (gM_1 τ am MM) rfl rfl (Nat.le_of_ble_eq_true rfl) ⟨by decide, by decide⟩ ⟨by show 300 + 20 * k ≤ 601024; omega, by show 6000 + 120 * k ≤ 7293034; omega⟩ (cells' := 300 + 20 * k) (slots' := 6000 + 120 * k) rfl rfl dL_law_966 (fun z2 MM2 H locs hz2 hMM hv hw => ?_)
  have hw := hw.rot.rot
  refine lv_pop hx hb dL_law_969 rfl ?_
  refine lv_goto (tgt := 1276) hx hb dL_law_970 (by decide) ?_
  exact NEXT MX1 MM2 g _ _ _ _ _ hv hMX hMM hw (lv_sub hl [0, 1, 2, 3, 4] rfl) (by omega) (by omega)
set_option maxHeartbeats 4000000 in
set_option maxRecDepth 100000 in
theorem law_case31 {p : Program} {e : Env} {s : State} {m : MethodId} {below : List Frame} {meth : Method} {c : Code} (l : Launch) (hst : l.stackTraces = false) {b L : Nat} {xs : Nat → Int32} {D : va_G} {τ : Nat → ClassId} {A : Nat → Prop} {sA sV : Nat → Nat} {ax am : Nat → Nat} {ao : Nat} (hx : p.tables.exec = Jvm.exec) (hb : c.code = code) (hml : c.maxLocals = 8) (hC : cx D τ s m #[Value.ref b] RL) (hLS : LK A s s.heap sA sV) (hXX : XX A s) (hA : ∀ q : Nat, s.heap.size ≤ q → A q) (hX : va_X b L xs s s.heap) (hbl : b < s.heap.size) (hbA : ¬ A b) (k : Nat) (hk : k < 512) (hkL : 5 * (k : Int) + 5 ≤ L) (hL : L ≤ 2560)
  (NEXT : ∀ (MX MM : Mem) (g : Int → Int) (H : Heap) (locs : List Loc) (ls : Array Slot) (cc ss : Nat), Rel (k + 1) MX MM → MR MX → MR MM → wS D A s.heap (WX τ ax MX ++ (WM τ am MM ++ [OC τ ao g])) H locs → lv_has ls 8 [(4, .int (iI (5 * (k : Int)))), (3, .ref ao), (2, .ref (am 1)), (1, .ref (ax 155)), (0, .ref b)] → cc ≤ 300 + 20 * (k + 1) → ss ≤ 6000 + 120 * (k + 1) → W p l e room_1 s m #[Value.ref b] below meth c H locs cc ss (lw_Z below #[Value.ref b] s) (F0 m 1276 ls []))
  (MX MM : Mem) (g : Int → Int) (H : Heap) (locs : List Loc) (ls : Array Slot) (hR : Rel k MX MM) (hMX : MR MX) (hMM : MR MM) (hw : wS D A s.heap (WX τ ax MX ++ (WM τ am MM ++ [OC τ ao g])) H locs) (hl : lv_has ls 8 [(4, .int (iI (5 * (k : Int)))), (3, .ref ao), (2, .ref (am 1)), (1, .ref (ax 155)), (0, .ref b)]) : W p l e room_1 s m #[Value.ref b] below meth c H locs (300 + 20 * k) (6000 + 120 * k) (lw_Z below #[Value.ref b] s) (F0 m 973 ls []) := by
  obtain ⟨y1, hy1, ey1⟩ := iI_of (xs (5 * (k : Int) + 1).toNat)
  obtain ⟨y2, hy2, ey2⟩ := iI_of (xs (5 * (k : Int) + 2).toNat)
  obtain ⟨y3, hy3, ey3⟩ := iI_of (xs (5 * (k : Int) + 3).toNat)
  obtain ⟨y4, hy4, ey4⟩ := iI_of (xs (5 * (k : Int) + 4).toNat)
  have hv := Rl_doubts k MX MM   hk hMX hMM hR
  refine lv_aload_n hx hb dL_law_973 rfl (lv_at hl 3 rfl) ?_
  refine s_cVi (Wf := WX τ ax) (As := []) (rest := []) hx hb hml hC hLS hA hw hl.1 (mX11_doubts l D τ ax sA sV _   MX hMX _ hv) kX11_doubts ml_L_158 rfl (gX_155 τ ax MX) rfl rfl (Nat.le_of_ble_eq_true rfl) ⟨by decide, by decide⟩ ⟨by show 300 + 20 * k ≤ 601024; omega, by show 6000 + 120 * k ≤ 7293034; omega⟩ (cells' := 300 + 20 * k) (slots' := 6000 + 120 * k) rfl rfl dL_law_974 (fun z1 MX1 H locs hz1 hMX hv hw => ?_)
  refine lv_pop hx hb dL_law_977 rfl ?_
  refine lv_aload_n hx hb dL_law_978 rfl (lv_at hl 2 rfl) ?_
  have hw := hw.rot
  refine s_cVi (Wf := WM τ am) (As := []) (rest := []) hx hb hml hC hLS hA hw hl.1 (mX12_doubts l D τ am sA sV _   MM hMM _ hv) kX12_doubts ml_L_161 rfl (gM_1 τ am MM) rfl rfl (Nat.le_of_ble_eq_true rfl) ⟨by decide, by decide⟩ ⟨by show 300 + 20 * k ≤ 601024; omega, by show 6000 + 120 * k ≤ 7293034; omega⟩ (cells' := 300 + 20 * k) (slots' := 6000 + 120 * k) rfl rfl dL_law_979 (fun z2 MM2 H locs hz2 hMM hv hw => ?_)
  have hw := hw.rot.rot
  refine lv_pop hx hb dL_law_982 rfl ?_
  refine lv_goto (tgt := 1276) hx hb dL_law_983 (by decide) ?_
  exact NEXT MX1 MM2 g _ _ _ _ _ hv hMX hMM hw (lv_sub hl [0, 1, 2, 3, 4] rfl) (by omega) (by omega)
set_option maxHeartbeats 4000000 in
set_option maxRecDepth 100000 in
theorem law_case32 {p : Program} {e : Env} {s : State} {m : MethodId} {below : List Frame} {meth : Method} {c : Code} (l : Launch) (hst : l.stackTraces = false) {b L : Nat} {xs : Nat → Int32} {D : va_G} {τ : Nat → ClassId} {A : Nat → Prop} {sA sV : Nat → Nat} {ax am : Nat → Nat} {ao : Nat} (hx : p.tables.exec = Jvm.exec) (hb : c.code = code) (hml : c.maxLocals = 8) (hC : cx D τ s m #[Value.ref b] RL) (hLS : LK A s s.heap sA sV) (hXX : XX A s) (hA : ∀ q : Nat, s.heap.size ≤ q → A q) (hX : va_X b L xs s s.heap) (hbl : b < s.heap.size) (hbA : ¬ A b) (k : Nat) (hk : k < 512) (hkL : 5 * (k : Int) + 5 ≤ L) (hL : L ≤ 2560)
  (NEXT : ∀ (MX MM : Mem) (g : Int → Int) (H : Heap) (locs : List Loc) (ls : Array Slot) (cc ss : Nat), Rel (k + 1) MX MM → MR MX → MR MM → wS D A s.heap (WX τ ax MX ++ (WM τ am MM ++ [OC τ ao g])) H locs → lv_has ls 8 [(4, .int (iI (5 * (k : Int)))), (3, .ref ao), (2, .ref (am 1)), (1, .ref (ax 155)), (0, .ref b)] → cc ≤ 300 + 20 * (k + 1) → ss ≤ 6000 + 120 * (k + 1) → W p l e room_1 s m #[Value.ref b] below meth c H locs cc ss (lw_Z below #[Value.ref b] s) (F0 m 1276 ls []))
  (MX MM : Mem) (g : Int → Int) (H : Heap) (locs : List Loc) (ls : Array Slot) (hR : Rel k MX MM) (hMX : MR MX) (hMM : MR MM) (hw : wS D A s.heap (WX τ ax MX ++ (WM τ am MM ++ [OC τ ao g])) H locs) (hl : lv_has ls 8 [(4, .int (iI (5 * (k : Int)))), (3, .ref ao), (2, .ref (am 1)), (1, .ref (ax 155)), (0, .ref b)]) : W p l e room_1 s m #[Value.ref b] below meth c H locs (300 + 20 * k) (6000 + 120 * k) (lw_Z below #[Value.ref b] s) (F0 m 986 ls []) := by
  obtain ⟨y1, hy1, ey1⟩ := iI_of (xs (5 * (k : Int) + 1).toNat)
  obtain ⟨y2, hy2, ey2⟩ := iI_of (xs (5 * (k : Int) + 2).toNat)
  obtain ⟨y3, hy3, ey3⟩ := iI_of (xs (5 * (k : Int) + 3).toNat)
  obtain ⟨y4, hy4, ey4⟩ := iI_of (xs (5 * (k : Int) + 4).toNat)
  have hv := Rl_heard k MX MM y1 y2 hy1 hy2 hk hMX hMM hR
  refine lv_aload_n hx hb dL_law_986 rfl (lv_at hl 3 rfl) ?_
  refine lv_aload_n hx hb dL_law_987 rfl (lv_at hl 4 rfl) ?_
  refine lv_iload hx hb dL_law_988 (lv_at hl 0 rfl) ?_
  refine r_iconst hx hb dL_law_990 ?_
  refine r_iadd (z := 5 * (k : Int) + 1) hx hb dL_law_991 rfl ?_
  refine r_sld hx hb hX hbl hbA hw (by omega) (by omega) (by omega) ey1 dL_law_992 ?_
  refine lv_aload_n hx hb dL_law_993 rfl (lv_at hl 4 rfl) ?_
  refine lv_iload hx hb dL_law_994 (lv_at hl 0 rfl) ?_
  refine r_iconst hx hb dL_law_996 ?_
  refine r_iadd (z := 5 * (k : Int) + 2) hx hb dL_law_997 rfl ?_
  refine r_sld hx hb hX hbl hbA hw (by omega) (by omega) (by omega) ey2 dL_law_998 ?_
  refine s_cVi (Wf := WX τ ax) (As := [.int (iI y1), .int (iI y2)]) (rest := []) hx hb hml hC hLS hA hw hl.1 (mX11_heard l D τ ax sA sV _ y1 y2 hy1 hy2 MX hMX _ hv) kX11_heard ml_L_162 rfl (gX_155 τ ax MX) rfl rfl (Nat.le_of_ble_eq_true rfl) ⟨by decide, by decide⟩ ⟨by show 300 + 20 * k ≤ 601024; omega, by show 6000 + 120 * k ≤ 7293034; omega⟩ (cells' := 300 + 20 * k) (slots' := 6000 + 120 * k) rfl rfl dL_law_999 (fun z1 MX1 H locs hz1 hMX hv hw => ?_)
  refine lv_pop hx hb dL_law_1002 rfl ?_
  refine lv_aload_n hx hb dL_law_1003 rfl (lv_at hl 2 rfl) ?_
  refine lv_aload_n hx hb dL_law_1004 rfl (lv_at hl 4 rfl) ?_
  refine lv_iload hx hb dL_law_1005 (lv_at hl 0 rfl) ?_
  refine r_iconst hx hb dL_law_1007 ?_
  refine r_iadd (z := 5 * (k : Int) + 1) hx hb dL_law_1008 rfl ?_
  refine r_sld hx hb hX hbl hbA hw (by omega) (by omega) (by omega) ey1 dL_law_1009 ?_
  refine lv_aload_n hx hb dL_law_1010 rfl (lv_at hl 4 rfl) ?_
  refine lv_iload hx hb dL_law_1011 (lv_at hl 0 rfl) ?_
  refine r_iconst hx hb dL_law_1013 ?_
  refine r_iadd (z := 5 * (k : Int) + 2) hx hb dL_law_1014 rfl ?_
  refine r_sld hx hb hX hbl hbA hw (by omega) (by omega) (by omega) ey2 dL_law_1015 ?_
  have hw := hw.rot
  refine s_cVi (Wf := WM τ am) (As := [.int (iI y1), .int (iI y2)]) (rest := []) hx hb hml hC hLS hA hw hl.1 (mX12_heard l D τ am sA sV _ y1 y2 hy1 hy2 MM hMM _ hv) kX12_heard ml_L_165 rfl (gM_1 τ am MM) rfl rfl (Nat.le_of_ble_eq_true rfl) ⟨by decide, by decide⟩ ⟨by show 300 + 20 * k ≤ 601024; omega, by show 6000 + 120 * k ≤ 7293034; omega⟩ (cells' := 300 + 20 * k) (slots' := 6000 + 120 * k) rfl rfl dL_law_1016 (fun z2 MM2 H locs hz2 hMM hv hw => ?_)
  have hw := hw.rot.rot
  refine lv_pop hx hb dL_law_1019 rfl ?_
  refine lv_goto (tgt := 1276) hx hb dL_law_1020 (by decide) ?_
  exact NEXT MX1 MM2 g _ _ _ _ _ hv hMX hMM hw (lv_sub hl [0, 1, 2, 3, 4] rfl) (by omega) (by omega)
set_option maxHeartbeats 4000000 in
set_option maxRecDepth 100000 in
theorem law_case33 {p : Program} {e : Env} {s : State} {m : MethodId} {below : List Frame} {meth : Method} {c : Code} (l : Launch) (hst : l.stackTraces = false) {b L : Nat} {xs : Nat → Int32} {D : va_G} {τ : Nat → ClassId} {A : Nat → Prop} {sA sV : Nat → Nat} {ax am : Nat → Nat} {ao : Nat} (hx : p.tables.exec = Jvm.exec) (hb : c.code = code) (hml : c.maxLocals = 8) (hC : cx D τ s m #[Value.ref b] RL) (hLS : LK A s s.heap sA sV) (hXX : XX A s) (hA : ∀ q : Nat, s.heap.size ≤ q → A q) (hX : va_X b L xs s s.heap) (hbl : b < s.heap.size) (hbA : ¬ A b) (k : Nat) (hk : k < 512) (hkL : 5 * (k : Int) + 5 ≤ L) (hL : L ≤ 2560)
  (NEXT : ∀ (MX MM : Mem) (g : Int → Int) (H : Heap) (locs : List Loc) (ls : Array Slot) (cc ss : Nat), Rel (k + 1) MX MM → MR MX → MR MM → wS D A s.heap (WX τ ax MX ++ (WM τ am MM ++ [OC τ ao g])) H locs → lv_has ls 8 [(4, .int (iI (5 * (k : Int)))), (3, .ref ao), (2, .ref (am 1)), (1, .ref (ax 155)), (0, .ref b)] → cc ≤ 300 + 20 * (k + 1) → ss ≤ 6000 + 120 * (k + 1) → W p l e room_1 s m #[Value.ref b] below meth c H locs cc ss (lw_Z below #[Value.ref b] s) (F0 m 1276 ls []))
  (MX MM : Mem) (g : Int → Int) (H : Heap) (locs : List Loc) (ls : Array Slot) (hR : Rel k MX MM) (hMX : MR MX) (hMM : MR MM) (hw : wS D A s.heap (WX τ ax MX ++ (WM τ am MM ++ [OC τ ao g])) H locs) (hl : lv_has ls 8 [(4, .int (iI (5 * (k : Int)))), (3, .ref ao), (2, .ref (am 1)), (1, .ref (ax 155)), (0, .ref b)]) : W p l e room_1 s m #[Value.ref b] below meth c H locs (300 + 20 * k) (6000 + 120 * k) (lw_Z below #[Value.ref b] s) (F0 m 1023 ls []) := by
  obtain ⟨y1, hy1, ey1⟩ := iI_of (xs (5 * (k : Int) + 1).toNat)
  obtain ⟨y2, hy2, ey2⟩ := iI_of (xs (5 * (k : Int) + 2).toNat)
  obtain ⟨y3, hy3, ey3⟩ := iI_of (xs (5 * (k : Int) + 3).toNat)
  obtain ⟨y4, hy4, ey4⟩ := iI_of (xs (5 * (k : Int) + 4).toNat)
  have hv := Rl_forget k MX MM   hk hMX hMM hR
  refine lv_aload_n hx hb dL_law_1023 rfl (lv_at hl 3 rfl) ?_
  refine s_cVi (Wf := WX τ ax) (As := []) (rest := []) hx hb hml hC hLS hA hw hl.1 (mX11_forget l D τ ax sA sV _   MX hMX _ hv) kX11_forget ml_L_166 rfl (gX_155 τ ax MX) rfl rfl (Nat.le_of_ble_eq_true rfl) ⟨by decide, by decide⟩ ⟨by show 300 + 20 * k ≤ 601024; omega, by show 6000 + 120 * k ≤ 7293034; omega⟩ (cells' := 300 + 20 * k) (slots' := 6000 + 120 * k) rfl rfl dL_law_1024 (fun z1 MX1 H locs hz1 hMX hv hw => ?_)
  refine lv_pop hx hb dL_law_1027 rfl ?_
  refine lv_aload_n hx hb dL_law_1028 rfl (lv_at hl 2 rfl) ?_
  have hw := hw.rot
  refine s_cVi (Wf := WM τ am) (As := []) (rest := []) hx hb hml hC hLS hA hw hl.1 (mX12_forget l D τ am sA sV _   MM hMM _ hv) kX12_forget ml_L_169 rfl (gM_1 τ am MM) rfl rfl (Nat.le_of_ble_eq_true rfl) ⟨by decide, by decide⟩ ⟨by show 300 + 20 * k ≤ 601024; omega, by show 6000 + 120 * k ≤ 7293034; omega⟩ (cells' := 300 + 20 * k) (slots' := 6000 + 120 * k) rfl rfl dL_law_1029 (fun z2 MM2 H locs hz2 hMM hv hw => ?_)
  have hw := hw.rot.rot
  refine lv_pop hx hb dL_law_1032 rfl ?_
  refine lv_goto (tgt := 1276) hx hb dL_law_1033 (by decide) ?_
  exact NEXT MX1 MM2 g _ _ _ _ _ hv hMX hMM hw (lv_sub hl [0, 1, 2, 3, 4] rfl) (by omega) (by omega)
set_option maxHeartbeats 4000000 in
set_option maxRecDepth 100000 in
theorem law_case34 {p : Program} {e : Env} {s : State} {m : MethodId} {below : List Frame} {meth : Method} {c : Code} (l : Launch) (hst : l.stackTraces = false) {b L : Nat} {xs : Nat → Int32} {D : va_G} {τ : Nat → ClassId} {A : Nat → Prop} {sA sV : Nat → Nat} {ax am : Nat → Nat} {ao : Nat} (hx : p.tables.exec = Jvm.exec) (hb : c.code = code) (hml : c.maxLocals = 8) (hC : cx D τ s m #[Value.ref b] RL) (hLS : LK A s s.heap sA sV) (hXX : XX A s) (hA : ∀ q : Nat, s.heap.size ≤ q → A q) (hX : va_X b L xs s s.heap) (hbl : b < s.heap.size) (hbA : ¬ A b) (k : Nat) (hk : k < 512) (hkL : 5 * (k : Int) + 5 ≤ L) (hL : L ≤ 2560)
  (NEXT : ∀ (MX MM : Mem) (g : Int → Int) (H : Heap) (locs : List Loc) (ls : Array Slot) (cc ss : Nat), Rel (k + 1) MX MM → MR MX → MR MM → wS D A s.heap (WX τ ax MX ++ (WM τ am MM ++ [OC τ ao g])) H locs → lv_has ls 8 [(4, .int (iI (5 * (k : Int)))), (3, .ref ao), (2, .ref (am 1)), (1, .ref (ax 155)), (0, .ref b)] → cc ≤ 300 + 20 * (k + 1) → ss ≤ 6000 + 120 * (k + 1) → W p l e room_1 s m #[Value.ref b] below meth c H locs cc ss (lw_Z below #[Value.ref b] s) (F0 m 1276 ls []))
  (MX MM : Mem) (g : Int → Int) (H : Heap) (locs : List Loc) (ls : Array Slot) (hR : Rel k MX MM) (hMX : MR MX) (hMM : MR MM) (hw : wS D A s.heap (WX τ ax MX ++ (WM τ am MM ++ [OC τ ao g])) H locs) (hl : lv_has ls 8 [(4, .int (iI (5 * (k : Int)))), (3, .ref ao), (2, .ref (am 1)), (1, .ref (ax 155)), (0, .ref b)]) : W p l e room_1 s m #[Value.ref b] below meth c H locs (300 + 20 * k) (6000 + 120 * k) (lw_Z below #[Value.ref b] s) (F0 m 1036 ls []) := by
  obtain ⟨y1, hy1, ey1⟩ := iI_of (xs (5 * (k : Int) + 1).toNat)
  obtain ⟨y2, hy2, ey2⟩ := iI_of (xs (5 * (k : Int) + 2).toNat)
  obtain ⟨y3, hy3, ey3⟩ := iI_of (xs (5 * (k : Int) + 3).toNat)
  obtain ⟨y4, hy4, ey4⟩ := iI_of (xs (5 * (k : Int) + 4).toNat)
  have hv := Rl_fits k MX MM   hk hMX hMM hR
  refine lv_aload_n hx hb dL_law_1036 rfl (lv_at hl 3 rfl) ?_
  refine s_cVi (Wf := WX τ ax) (As := []) (rest := []) hx hb hml hC hLS hA hw hl.1 (mX11_fits l D τ ax sA sV _   MX hMX _ hv) kX11_fits ml_L_170 rfl (gX_155 τ ax MX) rfl rfl (Nat.le_of_ble_eq_true rfl) ⟨by decide, by decide⟩ ⟨by show 300 + 20 * k ≤ 601024; omega, by show 6000 + 120 * k ≤ 7293034; omega⟩ (cells' := 300 + 20 * k) (slots' := 6000 + 120 * k) rfl rfl dL_law_1037 (fun z1 MX1 H locs hz1 hMX hv hw => ?_)
  refine lv_pop hx hb dL_law_1040 rfl ?_
  refine lv_aload_n hx hb dL_law_1041 rfl (lv_at hl 2 rfl) ?_
  have hw := hw.rot
  refine s_cVi (Wf := WM τ am) (As := []) (rest := []) hx hb hml hC hLS hA hw hl.1 (mX12_fits l D τ am sA sV _   MM hMM _ hv) kX12_fits ml_L_173 rfl (gM_1 τ am MM) rfl rfl (Nat.le_of_ble_eq_true rfl) ⟨by decide, by decide⟩ ⟨by show 300 + 20 * k ≤ 601024; omega, by show 6000 + 120 * k ≤ 7293034; omega⟩ (cells' := 300 + 20 * k) (slots' := 6000 + 120 * k) rfl rfl dL_law_1042 (fun z2 MM2 H locs hz2 hMM hv hw => ?_)
  have hw := hw.rot.rot
  refine lv_pop hx hb dL_law_1045 rfl ?_
  refine lv_goto (tgt := 1276) hx hb dL_law_1046 (by decide) ?_
  exact NEXT MX1 MM2 g _ _ _ _ _ hv hMX hMM hw (lv_sub hl [0, 1, 2, 3, 4] rfl) (by omega) (by omega)
set_option maxHeartbeats 4000000 in
set_option maxRecDepth 100000 in
theorem law_case35 {p : Program} {e : Env} {s : State} {m : MethodId} {below : List Frame} {meth : Method} {c : Code} (l : Launch) (hst : l.stackTraces = false) {b L : Nat} {xs : Nat → Int32} {D : va_G} {τ : Nat → ClassId} {A : Nat → Prop} {sA sV : Nat → Nat} {ax am : Nat → Nat} {ao : Nat} (hx : p.tables.exec = Jvm.exec) (hb : c.code = code) (hml : c.maxLocals = 8) (hC : cx D τ s m #[Value.ref b] RL) (hLS : LK A s s.heap sA sV) (hXX : XX A s) (hA : ∀ q : Nat, s.heap.size ≤ q → A q) (hX : va_X b L xs s s.heap) (hbl : b < s.heap.size) (hbA : ¬ A b) (k : Nat) (hk : k < 512) (hkL : 5 * (k : Int) + 5 ≤ L) (hL : L ≤ 2560)
  (NEXT : ∀ (MX MM : Mem) (g : Int → Int) (H : Heap) (locs : List Loc) (ls : Array Slot) (cc ss : Nat), Rel (k + 1) MX MM → MR MX → MR MM → wS D A s.heap (WX τ ax MX ++ (WM τ am MM ++ [OC τ ao g])) H locs → lv_has ls 8 [(4, .int (iI (5 * (k : Int)))), (3, .ref ao), (2, .ref (am 1)), (1, .ref (ax 155)), (0, .ref b)] → cc ≤ 300 + 20 * (k + 1) → ss ≤ 6000 + 120 * (k + 1) → W p l e room_1 s m #[Value.ref b] below meth c H locs cc ss (lw_Z below #[Value.ref b] s) (F0 m 1276 ls []))
  (MX MM : Mem) (g : Int → Int) (H : Heap) (locs : List Loc) (ls : Array Slot) (hR : Rel k MX MM) (hMX : MR MX) (hMM : MR MM) (hw : wS D A s.heap (WX τ ax MX ++ (WM τ am MM ++ [OC τ ao g])) H locs) (hl : lv_has ls 8 [(4, .int (iI (5 * (k : Int)))), (3, .ref ao), (2, .ref (am 1)), (1, .ref (ax 155)), (0, .ref b)]) : W p l e room_1 s m #[Value.ref b] below meth c H locs (300 + 20 * k) (6000 + 120 * k) (lw_Z below #[Value.ref b] s) (F0 m 1049 ls []) := by
  obtain ⟨y1, hy1, ey1⟩ := iI_of (xs (5 * (k : Int) + 1).toNat)
  obtain ⟨y2, hy2, ey2⟩ := iI_of (xs (5 * (k : Int) + 2).toNat)
  obtain ⟨y3, hy3, ey3⟩ := iI_of (xs (5 * (k : Int) + 3).toNat)
  obtain ⟨y4, hy4, ey4⟩ := iI_of (xs (5 * (k : Int) + 4).toNat)
  have hv := Rl_rains k MX MM y1 y2 y3 hy1 hy2 hy3 hk hMX hMM hR
  refine lv_aload_n hx hb dL_law_1049 rfl (lv_at hl 3 rfl) ?_
  refine lv_aload_n hx hb dL_law_1050 rfl (lv_at hl 4 rfl) ?_
  refine lv_iload hx hb dL_law_1051 (lv_at hl 0 rfl) ?_
  refine r_iconst hx hb dL_law_1053 ?_
  refine r_iadd (z := 5 * (k : Int) + 1) hx hb dL_law_1054 rfl ?_
  refine r_sld hx hb hX hbl hbA hw (by omega) (by omega) (by omega) ey1 dL_law_1055 ?_
  refine lv_aload_n hx hb dL_law_1056 rfl (lv_at hl 4 rfl) ?_
  refine lv_iload hx hb dL_law_1057 (lv_at hl 0 rfl) ?_
  refine r_iconst hx hb dL_law_1059 ?_
  refine r_iadd (z := 5 * (k : Int) + 2) hx hb dL_law_1060 rfl ?_
  refine r_sld hx hb hX hbl hbA hw (by omega) (by omega) (by omega) ey2 dL_law_1061 ?_
  refine lv_aload_n hx hb dL_law_1062 rfl (lv_at hl 4 rfl) ?_
  refine lv_iload hx hb dL_law_1063 (lv_at hl 0 rfl) ?_
  refine r_iconst hx hb dL_law_1065 ?_
  refine r_iadd (z := 5 * (k : Int) + 3) hx hb dL_law_1066 rfl ?_
  refine r_sld hx hb hX hbl hbA hw (by omega) (by omega) (by omega) ey3 dL_law_1067 ?_
  refine s_cVi (Wf := WX τ ax) (As := [.int (iI y1), .int (iI y2), .int (iI y3)]) (rest := []) hx hb hml hC hLS hA hw hl.1 (mX11_rains l D τ ax sA sV _ y1 y2 y3 hy1 hy2 hy3 MX hMX _ hv) kX11_rains ml_L_174 rfl (gX_155 τ ax MX) rfl rfl (Nat.le_of_ble_eq_true rfl) ⟨by decide, by decide⟩ ⟨by show 300 + 20 * k ≤ 601024; omega, by show 6000 + 120 * k ≤ 7293034; omega⟩ (cells' := 300 + 20 * k) (slots' := 6000 + 120 * k) rfl rfl dL_law_1068 (fun z1 MX1 H locs hz1 hMX hv hw => ?_)
  refine lv_pop hx hb dL_law_1071 rfl ?_
  refine lv_aload_n hx hb dL_law_1072 rfl (lv_at hl 2 rfl) ?_
  refine lv_aload_n hx hb dL_law_1073 rfl (lv_at hl 4 rfl) ?_
  refine lv_iload hx hb dL_law_1074 (lv_at hl 0 rfl) ?_
  refine r_iconst hx hb dL_law_1076 ?_
  refine r_iadd (z := 5 * (k : Int) + 1) hx hb dL_law_1077 rfl ?_
  refine r_sld hx hb hX hbl hbA hw (by omega) (by omega) (by omega) ey1 dL_law_1078 ?_
  refine lv_aload_n hx hb dL_law_1079 rfl (lv_at hl 4 rfl) ?_
  refine lv_iload hx hb dL_law_1080 (lv_at hl 0 rfl) ?_
  refine r_iconst hx hb dL_law_1082 ?_
  refine r_iadd (z := 5 * (k : Int) + 2) hx hb dL_law_1083 rfl ?_
  refine r_sld hx hb hX hbl hbA hw (by omega) (by omega) (by omega) ey2 dL_law_1084 ?_
  refine lv_aload_n hx hb dL_law_1085 rfl (lv_at hl 4 rfl) ?_
  refine lv_iload hx hb dL_law_1086 (lv_at hl 0 rfl) ?_
  refine r_iconst hx hb dL_law_1088 ?_
  refine r_iadd (z := 5 * (k : Int) + 3) hx hb dL_law_1089 rfl ?_
  refine r_sld hx hb hX hbl hbA hw (by omega) (by omega) (by omega) ey3 dL_law_1090 ?_
  have hw := hw.rot
  refine s_cVi (Wf := WM τ am) (As := [.int (iI y1), .int (iI y2), .int (iI y3)]) (rest := []) hx hb hml hC hLS hA hw hl.1 (mX12_rains l D τ am sA sV _ y1 y2 y3 hy1 hy2 hy3 MM hMM _ hv) kX12_rains ml_L_178 rfl (gM_1 τ am MM) rfl rfl (Nat.le_of_ble_eq_true rfl) ⟨by decide, by decide⟩ ⟨by show 300 + 20 * k ≤ 601024; omega, by show 6000 + 120 * k ≤ 7293034; omega⟩ (cells' := 300 + 20 * k) (slots' := 6000 + 120 * k) rfl rfl dL_law_1091 (fun z2 MM2 H locs hz2 hMM hv hw => ?_)
  have hw := hw.rot.rot
  refine lv_pop hx hb dL_law_1094 rfl ?_
  refine lv_goto (tgt := 1276) hx hb dL_law_1095 (by decide) ?_
  exact NEXT MX1 MM2 g _ _ _ _ _ hv hMX hMM hw (lv_sub hl [0, 1, 2, 3, 4] rfl) (by omega) (by omega)
set_option maxHeartbeats 4000000 in
set_option maxRecDepth 100000 in
theorem law_case36 {p : Program} {e : Env} {s : State} {m : MethodId} {below : List Frame} {meth : Method} {c : Code} (l : Launch) (hst : l.stackTraces = false) {b L : Nat} {xs : Nat → Int32} {D : va_G} {τ : Nat → ClassId} {A : Nat → Prop} {sA sV : Nat → Nat} {ax am : Nat → Nat} {ao : Nat} (hx : p.tables.exec = Jvm.exec) (hb : c.code = code) (hml : c.maxLocals = 8) (hC : cx D τ s m #[Value.ref b] RL) (hLS : LK A s s.heap sA sV) (hXX : XX A s) (hA : ∀ q : Nat, s.heap.size ≤ q → A q) (hX : va_X b L xs s s.heap) (hbl : b < s.heap.size) (hbA : ¬ A b) (k : Nat) (hk : k < 512) (hkL : 5 * (k : Int) + 5 ≤ L) (hL : L ≤ 2560)
  (NEXT : ∀ (MX MM : Mem) (g : Int → Int) (H : Heap) (locs : List Loc) (ls : Array Slot) (cc ss : Nat), Rel (k + 1) MX MM → MR MX → MR MM → wS D A s.heap (WX τ ax MX ++ (WM τ am MM ++ [OC τ ao g])) H locs → lv_has ls 8 [(4, .int (iI (5 * (k : Int)))), (3, .ref ao), (2, .ref (am 1)), (1, .ref (ax 155)), (0, .ref b)] → cc ≤ 300 + 20 * (k + 1) → ss ≤ 6000 + 120 * (k + 1) → W p l e room_1 s m #[Value.ref b] below meth c H locs cc ss (lw_Z below #[Value.ref b] s) (F0 m 1276 ls []))
  (MX MM : Mem) (g : Int → Int) (H : Heap) (locs : List Loc) (ls : Array Slot) (hR : Rel k MX MM) (hMX : MR MX) (hMM : MR MM) (hw : wS D A s.heap (WX τ ax MX ++ (WM τ am MM ++ [OC τ ao g])) H locs) (hl : lv_has ls 8 [(4, .int (iI (5 * (k : Int)))), (3, .ref ao), (2, .ref (am 1)), (1, .ref (ax 155)), (0, .ref b)]) : W p l e room_1 s m #[Value.ref b] below meth c H locs (300 + 20 * k) (6000 + 120 * k) (lw_Z below #[Value.ref b] s) (F0 m 1098 ls []) := by
  obtain ⟨y1, hy1, ey1⟩ := iI_of (xs (5 * (k : Int) + 1).toNat)
  obtain ⟨y2, hy2, ey2⟩ := iI_of (xs (5 * (k : Int) + 2).toNat)
  obtain ⟨y3, hy3, ey3⟩ := iI_of (xs (5 * (k : Int) + 3).toNat)
  obtain ⟨y4, hy4, ey4⟩ := iI_of (xs (5 * (k : Int) + 4).toNat)
  have hv := Rl_law k MX MM   hk hMX hMM hR
  refine lv_aload_n hx hb dL_law_1098 rfl (lv_at hl 3 rfl) ?_
  refine s_cVi (Wf := WX τ ax) (As := []) (rest := []) hx hb hml hC hLS hA hw hl.1 (mX11_law l D τ ax sA sV _   MX hMX _ hv) kX11_law ml_L_179 rfl (gX_155 τ ax MX) rfl rfl (Nat.le_of_ble_eq_true rfl) ⟨by decide, by decide⟩ ⟨by show 300 + 20 * k ≤ 601024; omega, by show 6000 + 120 * k ≤ 7293034; omega⟩ (cells' := 300 + 20 * k) (slots' := 6000 + 120 * k) rfl rfl dL_law_1099 (fun z1 MX1 H locs hz1 hMX hv hw => ?_)
  refine lv_pop hx hb dL_law_1102 rfl ?_
  refine lv_aload_n hx hb dL_law_1103 rfl (lv_at hl 2 rfl) ?_
  have hw := hw.rot
  refine s_cVi (Wf := WM τ am) (As := []) (rest := []) hx hb hml hC hLS hA hw hl.1 (mX12_law l D τ am sA sV _   MM hMM _ hv) kX12_law ml_L_182 rfl (gM_1 τ am MM) rfl rfl (Nat.le_of_ble_eq_true rfl) ⟨by decide, by decide⟩ ⟨by show 300 + 20 * k ≤ 601024; omega, by show 6000 + 120 * k ≤ 7293034; omega⟩ (cells' := 300 + 20 * k) (slots' := 6000 + 120 * k) rfl rfl dL_law_1104 (fun z2 MM2 H locs hz2 hMM hv hw => ?_)
  have hw := hw.rot.rot
  refine lv_pop hx hb dL_law_1107 rfl ?_
  refine lv_goto (tgt := 1276) hx hb dL_law_1108 (by decide) ?_
  exact NEXT MX1 MM2 g _ _ _ _ _ hv hMX hMM hw (lv_sub hl [0, 1, 2, 3, 4] rfl) (by omega) (by omega)
set_option maxHeartbeats 4000000 in
set_option maxRecDepth 100000 in
theorem law_case37 {p : Program} {e : Env} {s : State} {m : MethodId} {below : List Frame} {meth : Method} {c : Code} (l : Launch) (hst : l.stackTraces = false) {b L : Nat} {xs : Nat → Int32} {D : va_G} {τ : Nat → ClassId} {A : Nat → Prop} {sA sV : Nat → Nat} {ax am : Nat → Nat} {ao : Nat} (hx : p.tables.exec = Jvm.exec) (hb : c.code = code) (hml : c.maxLocals = 8) (hC : cx D τ s m #[Value.ref b] RL) (hLS : LK A s s.heap sA sV) (hXX : XX A s) (hA : ∀ q : Nat, s.heap.size ≤ q → A q) (hX : va_X b L xs s s.heap) (hbl : b < s.heap.size) (hbA : ¬ A b) (k : Nat) (hk : k < 512) (hkL : 5 * (k : Int) + 5 ≤ L) (hL : L ≤ 2560)
  (NEXT : ∀ (MX MM : Mem) (g : Int → Int) (H : Heap) (locs : List Loc) (ls : Array Slot) (cc ss : Nat), Rel (k + 1) MX MM → MR MX → MR MM → wS D A s.heap (WX τ ax MX ++ (WM τ am MM ++ [OC τ ao g])) H locs → lv_has ls 8 [(4, .int (iI (5 * (k : Int)))), (3, .ref ao), (2, .ref (am 1)), (1, .ref (ax 155)), (0, .ref b)] → cc ≤ 300 + 20 * (k + 1) → ss ≤ 6000 + 120 * (k + 1) → W p l e room_1 s m #[Value.ref b] below meth c H locs cc ss (lw_Z below #[Value.ref b] s) (F0 m 1276 ls []))
  (MX MM : Mem) (g : Int → Int) (H : Heap) (locs : List Loc) (ls : Array Slot) (hR : Rel k MX MM) (hMX : MR MX) (hMM : MR MM) (hw : wS D A s.heap (WX τ ax MX ++ (WM τ am MM ++ [OC τ ao g])) H locs) (hl : lv_has ls 8 [(4, .int (iI (5 * (k : Int)))), (3, .ref ao), (2, .ref (am 1)), (1, .ref (ax 155)), (0, .ref b)]) : W p l e room_1 s m #[Value.ref b] below meth c H locs (300 + 20 * k) (6000 + 120 * k) (lw_Z below #[Value.ref b] s) (F0 m 1111 ls []) := by
  obtain ⟨y1, hy1, ey1⟩ := iI_of (xs (5 * (k : Int) + 1).toNat)
  obtain ⟨y2, hy2, ey2⟩ := iI_of (xs (5 * (k : Int) + 2).toNat)
  obtain ⟨y3, hy3, ey3⟩ := iI_of (xs (5 * (k : Int) + 3).toNat)
  obtain ⟨y4, hy4, ey4⟩ := iI_of (xs (5 * (k : Int) + 4).toNat)
  have hv := Rl_rests k MX MM y1 hy1 hk hMX hMM hR
  refine lv_aload_n hx hb dL_law_1111 rfl (lv_at hl 3 rfl) ?_
  refine lv_aload_n hx hb dL_law_1112 rfl (lv_at hl 4 rfl) ?_
  refine lv_iload hx hb dL_law_1113 (lv_at hl 0 rfl) ?_
  refine r_iconst hx hb dL_law_1115 ?_
  refine r_iadd (z := 5 * (k : Int) + 1) hx hb dL_law_1116 rfl ?_
  refine r_sld hx hb hX hbl hbA hw (by omega) (by omega) (by omega) ey1 dL_law_1117 ?_
  refine s_cVi (Wf := WX τ ax) (As := [.int (iI y1)]) (rest := []) hx hb hml hC hLS hA hw hl.1 (mX11_rests l D τ ax sA sV _ y1 hy1 MX hMX _ hv) kX11_rests ml_L_183 rfl (gX_155 τ ax MX) rfl rfl (Nat.le_of_ble_eq_true rfl) ⟨by decide, by decide⟩ ⟨by show 300 + 20 * k ≤ 601024; omega, by show 6000 + 120 * k ≤ 7293034; omega⟩ (cells' := 300 + 20 * k) (slots' := 6000 + 120 * k) rfl rfl dL_law_1118 (fun z1 MX1 H locs hz1 hMX hv hw => ?_)
  refine lv_pop hx hb dL_law_1121 rfl ?_
  refine lv_aload_n hx hb dL_law_1122 rfl (lv_at hl 2 rfl) ?_
  refine lv_aload_n hx hb dL_law_1123 rfl (lv_at hl 4 rfl) ?_
  refine lv_iload hx hb dL_law_1124 (lv_at hl 0 rfl) ?_
  refine r_iconst hx hb dL_law_1126 ?_
  refine r_iadd (z := 5 * (k : Int) + 1) hx hb dL_law_1127 rfl ?_
  refine r_sld hx hb hX hbl hbA hw (by omega) (by omega) (by omega) ey1 dL_law_1128 ?_
  have hw := hw.rot
  refine s_cVi (Wf := WM τ am) (As := [.int (iI y1)]) (rest := []) hx hb hml hC hLS hA hw hl.1 (mX12_rests l D τ am sA sV _ y1 hy1 MM hMM _ hv) kX12_rests ml_L_186 rfl (gM_1 τ am MM) rfl rfl (Nat.le_of_ble_eq_true rfl) ⟨by decide, by decide⟩ ⟨by show 300 + 20 * k ≤ 601024; omega, by show 6000 + 120 * k ≤ 7293034; omega⟩ (cells' := 300 + 20 * k) (slots' := 6000 + 120 * k) rfl rfl dL_law_1129 (fun z2 MM2 H locs hz2 hMM hv hw => ?_)
  have hw := hw.rot.rot
  refine lv_pop hx hb dL_law_1132 rfl ?_
  refine lv_goto (tgt := 1276) hx hb dL_law_1133 (by decide) ?_
  exact NEXT MX1 MM2 g _ _ _ _ _ hv hMX hMM hw (lv_sub hl [0, 1, 2, 3, 4] rfl) (by omega) (by omega)
set_option maxHeartbeats 4000000 in
set_option maxRecDepth 100000 in
theorem law_case38 {p : Program} {e : Env} {s : State} {m : MethodId} {below : List Frame} {meth : Method} {c : Code} (l : Launch) (hst : l.stackTraces = false) {b L : Nat} {xs : Nat → Int32} {D : va_G} {τ : Nat → ClassId} {A : Nat → Prop} {sA sV : Nat → Nat} {ax am : Nat → Nat} {ao : Nat} (hx : p.tables.exec = Jvm.exec) (hb : c.code = code) (hml : c.maxLocals = 8) (hC : cx D τ s m #[Value.ref b] RL) (hLS : LK A s s.heap sA sV) (hXX : XX A s) (hA : ∀ q : Nat, s.heap.size ≤ q → A q) (hX : va_X b L xs s s.heap) (hbl : b < s.heap.size) (hbA : ¬ A b) (k : Nat) (hk : k < 512) (hkL : 5 * (k : Int) + 5 ≤ L) (hL : L ≤ 2560)
  (NEXT : ∀ (MX MM : Mem) (g : Int → Int) (H : Heap) (locs : List Loc) (ls : Array Slot) (cc ss : Nat), Rel (k + 1) MX MM → MR MX → MR MM → wS D A s.heap (WX τ ax MX ++ (WM τ am MM ++ [OC τ ao g])) H locs → lv_has ls 8 [(4, .int (iI (5 * (k : Int)))), (3, .ref ao), (2, .ref (am 1)), (1, .ref (ax 155)), (0, .ref b)] → cc ≤ 300 + 20 * (k + 1) → ss ≤ 6000 + 120 * (k + 1) → W p l e room_1 s m #[Value.ref b] below meth c H locs cc ss (lw_Z below #[Value.ref b] s) (F0 m 1276 ls []))
  (MX MM : Mem) (g : Int → Int) (H : Heap) (locs : List Loc) (ls : Array Slot) (hR : Rel k MX MM) (hMX : MR MX) (hMM : MR MM) (hw : wS D A s.heap (WX τ ax MX ++ (WM τ am MM ++ [OC τ ao g])) H locs) (hl : lv_has ls 8 [(4, .int (iI (5 * (k : Int)))), (3, .ref ao), (2, .ref (am 1)), (1, .ref (ax 155)), (0, .ref b)]) : W p l e room_1 s m #[Value.ref b] below meth c H locs (300 + 20 * k) (6000 + 120 * k) (lw_Z below #[Value.ref b] s) (F0 m 1136 ls []) := by
  obtain ⟨y1, hy1, ey1⟩ := iI_of (xs (5 * (k : Int) + 1).toNat)
  obtain ⟨y2, hy2, ey2⟩ := iI_of (xs (5 * (k : Int) + 2).toNat)
  obtain ⟨y3, hy3, ey3⟩ := iI_of (xs (5 * (k : Int) + 3).toNat)
  obtain ⟨y4, hy4, ey4⟩ := iI_of (xs (5 * (k : Int) + 4).toNat)
  have hv := Rl_years k MX MM y1 y2 hy1 hy2 hk hMX hMM hR
  refine lv_aload_n hx hb dL_law_1136 rfl (lv_at hl 3 rfl) ?_
  refine lv_aload_n hx hb dL_law_1137 rfl (lv_at hl 4 rfl) ?_
  refine lv_iload hx hb dL_law_1138 (lv_at hl 0 rfl) ?_
  refine r_iconst hx hb dL_law_1140 ?_
  refine r_iadd (z := 5 * (k : Int) + 1) hx hb dL_law_1141 rfl ?_
  refine r_sld hx hb hX hbl hbA hw (by omega) (by omega) (by omega) ey1 dL_law_1142 ?_
  refine lv_aload_n hx hb dL_law_1143 rfl (lv_at hl 4 rfl) ?_
  refine lv_iload hx hb dL_law_1144 (lv_at hl 0 rfl) ?_
  refine r_iconst hx hb dL_law_1146 ?_
  refine r_iadd (z := 5 * (k : Int) + 2) hx hb dL_law_1147 rfl ?_
  refine r_sld hx hb hX hbl hbA hw (by omega) (by omega) (by omega) ey2 dL_law_1148 ?_
  refine s_cVi (Wf := WX τ ax) (As := [.int (iI y1), .int (iI y2)]) (rest := []) hx hb hml hC hLS hA hw hl.1 (mX11_years l D τ ax sA sV _ y1 y2 hy1 hy2 MX hMX _ hv) kX11_years ml_L_187 rfl (gX_155 τ ax MX) rfl rfl (Nat.le_of_ble_eq_true rfl) ⟨by decide, by decide⟩ ⟨by show 300 + 20 * k ≤ 601024; omega, by show 6000 + 120 * k ≤ 7293034; omega⟩ (cells' := 300 + 20 * k) (slots' := 6000 + 120 * k) rfl rfl dL_law_1149 (fun z1 MX1 H locs hz1 hMX hv hw => ?_)
  refine lv_pop hx hb dL_law_1152 rfl ?_
  refine lv_aload_n hx hb dL_law_1153 rfl (lv_at hl 2 rfl) ?_
  refine lv_aload_n hx hb dL_law_1154 rfl (lv_at hl 4 rfl) ?_
  refine lv_iload hx hb dL_law_1155 (lv_at hl 0 rfl) ?_
  refine r_iconst hx hb dL_law_1157 ?_
  refine r_iadd (z := 5 * (k : Int) + 1) hx hb dL_law_1158 rfl ?_
  refine r_sld hx hb hX hbl hbA hw (by omega) (by omega) (by omega) ey1 dL_law_1159 ?_
  refine lv_aload_n hx hb dL_law_1160 rfl (lv_at hl 4 rfl) ?_
  refine lv_iload hx hb dL_law_1161 (lv_at hl 0 rfl) ?_
  refine r_iconst hx hb dL_law_1163 ?_
  refine r_iadd (z := 5 * (k : Int) + 2) hx hb dL_law_1164 rfl ?_
  refine r_sld hx hb hX hbl hbA hw (by omega) (by omega) (by omega) ey2 dL_law_1165 ?_
  have hw := hw.rot
  refine s_cVi (Wf := WM τ am) (As := [.int (iI y1), .int (iI y2)]) (rest := []) hx hb hml hC hLS hA hw hl.1 (mX12_years l D τ am sA sV _ y1 y2 hy1 hy2 MM hMM _ hv) kX12_years ml_L_190 rfl (gM_1 τ am MM) rfl rfl (Nat.le_of_ble_eq_true rfl) ⟨by decide, by decide⟩ ⟨by show 300 + 20 * k ≤ 601024; omega, by show 6000 + 120 * k ≤ 7293034; omega⟩ (cells' := 300 + 20 * k) (slots' := 6000 + 120 * k) rfl rfl dL_law_1166 (fun z2 MM2 H locs hz2 hMM hv hw => ?_)
  have hw := hw.rot.rot
  refine lv_pop hx hb dL_law_1169 rfl ?_
  refine lv_goto (tgt := 1276) hx hb dL_law_1170 (by decide) ?_
  exact NEXT MX1 MM2 g _ _ _ _ _ hv hMX hMM hw (lv_sub hl [0, 1, 2, 3, 4] rfl) (by omega) (by omega)
set_option maxHeartbeats 4000000 in
set_option maxRecDepth 100000 in
theorem law_case39 {p : Program} {e : Env} {s : State} {m : MethodId} {below : List Frame} {meth : Method} {c : Code} (l : Launch) (hst : l.stackTraces = false) {b L : Nat} {xs : Nat → Int32} {D : va_G} {τ : Nat → ClassId} {A : Nat → Prop} {sA sV : Nat → Nat} {ax am : Nat → Nat} {ao : Nat} (hx : p.tables.exec = Jvm.exec) (hb : c.code = code) (hml : c.maxLocals = 8) (hC : cx D τ s m #[Value.ref b] RL) (hLS : LK A s s.heap sA sV) (hXX : XX A s) (hA : ∀ q : Nat, s.heap.size ≤ q → A q) (hX : va_X b L xs s s.heap) (hbl : b < s.heap.size) (hbA : ¬ A b) (k : Nat) (hk : k < 512) (hkL : 5 * (k : Int) + 5 ≤ L) (hL : L ≤ 2560)
  (NEXT : ∀ (MX MM : Mem) (g : Int → Int) (H : Heap) (locs : List Loc) (ls : Array Slot) (cc ss : Nat), Rel (k + 1) MX MM → MR MX → MR MM → wS D A s.heap (WX τ ax MX ++ (WM τ am MM ++ [OC τ ao g])) H locs → lv_has ls 8 [(4, .int (iI (5 * (k : Int)))), (3, .ref ao), (2, .ref (am 1)), (1, .ref (ax 155)), (0, .ref b)] → cc ≤ 300 + 20 * (k + 1) → ss ≤ 6000 + 120 * (k + 1) → W p l e room_1 s m #[Value.ref b] below meth c H locs cc ss (lw_Z below #[Value.ref b] s) (F0 m 1276 ls []))
  (MX MM : Mem) (g : Int → Int) (H : Heap) (locs : List Loc) (ls : Array Slot) (hR : Rel k MX MM) (hMX : MR MX) (hMM : MR MM) (hw : wS D A s.heap (WX τ ax MX ++ (WM τ am MM ++ [OC τ ao g])) H locs) (hl : lv_has ls 8 [(4, .int (iI (5 * (k : Int)))), (3, .ref ao), (2, .ref (am 1)), (1, .ref (ax 155)), (0, .ref b)]) : W p l e room_1 s m #[Value.ref b] below meth c H locs (300 + 20 * k) (6000 + 120 * k) (lw_Z below #[Value.ref b] s) (F0 m 1173 ls []) := by
  obtain ⟨y1, hy1, ey1⟩ := iI_of (xs (5 * (k : Int) + 1).toNat)
  obtain ⟨y2, hy2, ey2⟩ := iI_of (xs (5 * (k : Int) + 2).toNat)
  obtain ⟨y3, hy3, ey3⟩ := iI_of (xs (5 * (k : Int) + 3).toNat)
  obtain ⟨y4, hy4, ey4⟩ := iI_of (xs (5 * (k : Int) + 4).toNat)
  have hv := Rl_keep k MX MM y1 hy1 hk hMX hMM hR
  refine lv_aload_n hx hb dL_law_1173 rfl (lv_at hl 3 rfl) ?_
  refine lv_aload_n hx hb dL_law_1174 rfl (lv_at hl 4 rfl) ?_
  refine lv_iload hx hb dL_law_1175 (lv_at hl 0 rfl) ?_
  refine r_iconst hx hb dL_law_1177 ?_
  refine r_iadd (z := 5 * (k : Int) + 1) hx hb dL_law_1178 rfl ?_
  refine r_sld hx hb hX hbl hbA hw (by omega) (by omega) (by omega) ey1 dL_law_1179 ?_
  refine s_cVz (Wf := WX τ ax) (As := [.int (iI y1)]) (rest := []) hx hb hml hC hLS hA hw hl.1 (mX11_keep l D τ ax sA sV _ y1 hy1 MX hMX _ hv) kX11_keep ml_L_191 rfl (gX_155 τ ax MX) rfl rfl (Nat.le_of_ble_eq_true rfl) ⟨by decide, by decide⟩ ⟨by show 300 + 20 * k ≤ 601024; omega, by show 6000 + 120 * k ≤ 7293034; omega⟩ (cells' := 300 + 20 * k) (slots' := 6000 + 120 * k) rfl rfl dL_law_1180 (fun z1 MX1 H locs hz1 h01 hMX hv hw => ?_)
  refine lv_pop hx hb dL_law_1183 rfl ?_
  refine lv_aload_n hx hb dL_law_1184 rfl (lv_at hl 2 rfl) ?_
  refine lv_aload_n hx hb dL_law_1185 rfl (lv_at hl 4 rfl) ?_
  refine lv_iload hx hb dL_law_1186 (lv_at hl 0 rfl) ?_
  refine r_iconst hx hb dL_law_1188 ?_
  refine r_iadd (z := 5 * (k : Int) + 1) hx hb dL_law_1189 rfl ?_
  refine r_sld hx hb hX hbl hbA hw (by omega) (by omega) (by omega) ey1 dL_law_1190 ?_
  have hw := hw.rot
  refine s_cVz (Wf := WM τ am) (As := [.int (iI y1)]) (rest := []) hx hb hml hC hLS hA hw hl.1 (mX12_keep l D τ am sA sV _ y1 hy1 MM hMM _ hv) kX12_keep ml_L_194 rfl (gM_1 τ am MM) rfl rfl (Nat.le_of_ble_eq_true rfl) ⟨by decide, by decide⟩ ⟨by show 300 + 20 * k ≤ 601024; omega, by show 6000 + 120 * k ≤ 7293034; omega⟩ (cells' := 300 + 20 * k) (slots' := 6000 + 120 * k) rfl rfl dL_law_1191 (fun z2 MM2 H locs hz2 h01 hMM hv hw => ?_)
  have hw := hw.rot.rot
  refine lv_pop hx hb dL_law_1194 rfl ?_
  refine lv_goto (tgt := 1276) hx hb dL_law_1195 (by decide) ?_
  exact NEXT MX1 MM2 g _ _ _ _ _ hv hMX hMM hw (lv_sub hl [0, 1, 2, 3, 4] rfl) (by omega) (by omega)
set_option maxHeartbeats 4000000 in
set_option maxRecDepth 100000 in
theorem law_case40 {p : Program} {e : Env} {s : State} {m : MethodId} {below : List Frame} {meth : Method} {c : Code} (l : Launch) (hst : l.stackTraces = false) {b L : Nat} {xs : Nat → Int32} {D : va_G} {τ : Nat → ClassId} {A : Nat → Prop} {sA sV : Nat → Nat} {ax am : Nat → Nat} {ao : Nat} (hx : p.tables.exec = Jvm.exec) (hb : c.code = code) (hml : c.maxLocals = 8) (hC : cx D τ s m #[Value.ref b] RL) (hLS : LK A s s.heap sA sV) (hXX : XX A s) (hA : ∀ q : Nat, s.heap.size ≤ q → A q) (hX : va_X b L xs s s.heap) (hbl : b < s.heap.size) (hbA : ¬ A b) (k : Nat) (hk : k < 512) (hkL : 5 * (k : Int) + 5 ≤ L) (hL : L ≤ 2560)
  (NEXT : ∀ (MX MM : Mem) (g : Int → Int) (H : Heap) (locs : List Loc) (ls : Array Slot) (cc ss : Nat), Rel (k + 1) MX MM → MR MX → MR MM → wS D A s.heap (WX τ ax MX ++ (WM τ am MM ++ [OC τ ao g])) H locs → lv_has ls 8 [(4, .int (iI (5 * (k : Int)))), (3, .ref ao), (2, .ref (am 1)), (1, .ref (ax 155)), (0, .ref b)] → cc ≤ 300 + 20 * (k + 1) → ss ≤ 6000 + 120 * (k + 1) → W p l e room_1 s m #[Value.ref b] below meth c H locs cc ss (lw_Z below #[Value.ref b] s) (F0 m 1276 ls []))
  (MX MM : Mem) (g : Int → Int) (H : Heap) (locs : List Loc) (ls : Array Slot) (hR : Rel k MX MM) (hMX : MR MX) (hMM : MR MM) (hw : wS D A s.heap (WX τ ax MX ++ (WM τ am MM ++ [OC τ ao g])) H locs) (hl : lv_has ls 8 [(4, .int (iI (5 * (k : Int)))), (3, .ref ao), (2, .ref (am 1)), (1, .ref (ax 155)), (0, .ref b)]) : W p l e room_1 s m #[Value.ref b] below meth c H locs (300 + 20 * k) (6000 + 120 * k) (lw_Z below #[Value.ref b] s) (F0 m 1198 ls []) := by
  obtain ⟨y1, hy1, ey1⟩ := iI_of (xs (5 * (k : Int) + 1).toNat)
  obtain ⟨y2, hy2, ey2⟩ := iI_of (xs (5 * (k : Int) + 2).toNat)
  obtain ⟨y3, hy3, ey3⟩ := iI_of (xs (5 * (k : Int) + 3).toNat)
  obtain ⟨y4, hy4, ey4⟩ := iI_of (xs (5 * (k : Int) + 4).toNat)
  have hv := Rl_again k MX MM y1 hy1 hk hMX hMM hR
  refine lv_aload_n hx hb dL_law_1198 rfl (lv_at hl 3 rfl) ?_
  refine lv_aload_n hx hb dL_law_1199 rfl (lv_at hl 4 rfl) ?_
  refine lv_iload hx hb dL_law_1200 (lv_at hl 0 rfl) ?_
  refine r_iconst hx hb dL_law_1202 ?_
  refine r_iadd (z := 5 * (k : Int) + 1) hx hb dL_law_1203 rfl ?_
  refine r_sld hx hb hX hbl hbA hw (by omega) (by omega) (by omega) ey1 dL_law_1204 ?_
  refine s_cVz (Wf := WX τ ax) (As := [.int (iI y1)]) (rest := []) hx hb hml hC hLS hA hw hl.1 (mX11_again l D τ ax sA sV _ y1 hy1 MX hMX _ hv) kX11_again ml_L_195 rfl (gX_155 τ ax MX) rfl rfl (Nat.le_of_ble_eq_true rfl) ⟨by decide, by decide⟩ ⟨by show 300 + 20 * k ≤ 601024; omega, by show 6000 + 120 * k ≤ 7293034; omega⟩ (cells' := 300 + 20 * k) (slots' := 6000 + 120 * k) rfl rfl dL_law_1205 (fun z1 MX1 H locs hz1 h01 hMX hv hw => ?_)
  refine lv_pop hx hb dL_law_1208 rfl ?_
  refine lv_aload_n hx hb dL_law_1209 rfl (lv_at hl 2 rfl) ?_
  refine lv_aload_n hx hb dL_law_1210 rfl (lv_at hl 4 rfl) ?_
  refine lv_iload hx hb dL_law_1211 (lv_at hl 0 rfl) ?_
  refine r_iconst hx hb dL_law_1213 ?_
  refine r_iadd (z := 5 * (k : Int) + 1) hx hb dL_law_1214 rfl ?_
  refine r_sld hx hb hX hbl hbA hw (by omega) (by omega) (by omega) ey1 dL_law_1215 ?_
  have hw := hw.rot
  refine s_cVz (Wf := WM τ am) (As := [.int (iI y1)]) (rest := []) hx hb hml hC hLS hA hw hl.1 (mX12_again l D τ am sA sV _ y1 hy1 MM hMM _ hv) kX12_again ml_L_198 rfl (gM_1 τ am MM) rfl rfl (Nat.le_of_ble_eq_true rfl) ⟨by decide, by decide⟩ ⟨by show 300 + 20 * k ≤ 601024; omega, by show 6000 + 120 * k ≤ 7293034; omega⟩ (cells' := 300 + 20 * k) (slots' := 6000 + 120 * k) rfl rfl dL_law_1216 (fun z2 MM2 H locs hz2 h01 hMM hv hw => ?_)
  have hw := hw.rot.rot
  refine lv_pop hx hb dL_law_1219 rfl ?_
  refine lv_goto (tgt := 1276) hx hb dL_law_1220 (by decide) ?_
  exact NEXT MX1 MM2 g _ _ _ _ _ hv hMX hMM hw (lv_sub hl [0, 1, 2, 3, 4] rfl) (by omega) (by omega)
set_option maxHeartbeats 4000000 in
set_option maxRecDepth 100000 in
theorem law_case41 {p : Program} {e : Env} {s : State} {m : MethodId} {below : List Frame} {meth : Method} {c : Code} (l : Launch) (hst : l.stackTraces = false) {b L : Nat} {xs : Nat → Int32} {D : va_G} {τ : Nat → ClassId} {A : Nat → Prop} {sA sV : Nat → Nat} {ax am : Nat → Nat} {ao : Nat} (hx : p.tables.exec = Jvm.exec) (hb : c.code = code) (hml : c.maxLocals = 8) (hC : cx D τ s m #[Value.ref b] RL) (hLS : LK A s s.heap sA sV) (hXX : XX A s) (hA : ∀ q : Nat, s.heap.size ≤ q → A q) (hX : va_X b L xs s s.heap) (hbl : b < s.heap.size) (hbA : ¬ A b) (k : Nat) (hk : k < 512) (hkL : 5 * (k : Int) + 5 ≤ L) (hL : L ≤ 2560)
  (NEXT : ∀ (MX MM : Mem) (g : Int → Int) (H : Heap) (locs : List Loc) (ls : Array Slot) (cc ss : Nat), Rel (k + 1) MX MM → MR MX → MR MM → wS D A s.heap (WX τ ax MX ++ (WM τ am MM ++ [OC τ ao g])) H locs → lv_has ls 8 [(4, .int (iI (5 * (k : Int)))), (3, .ref ao), (2, .ref (am 1)), (1, .ref (ax 155)), (0, .ref b)] → cc ≤ 300 + 20 * (k + 1) → ss ≤ 6000 + 120 * (k + 1) → W p l e room_1 s m #[Value.ref b] below meth c H locs cc ss (lw_Z below #[Value.ref b] s) (F0 m 1276 ls []))
  (MX MM : Mem) (g : Int → Int) (H : Heap) (locs : List Loc) (ls : Array Slot) (hR : Rel k MX MM) (hMX : MR MX) (hMM : MR MM) (hw : wS D A s.heap (WX τ ax MX ++ (WM τ am MM ++ [OC τ ao g])) H locs) (hl : lv_has ls 8 [(4, .int (iI (5 * (k : Int)))), (3, .ref ao), (2, .ref (am 1)), (1, .ref (ax 155)), (0, .ref b)]) : W p l e room_1 s m #[Value.ref b] below meth c H locs (300 + 20 * k) (6000 + 120 * k) (lw_Z below #[Value.ref b] s) (F0 m 1223 ls []) := by
  obtain ⟨y1, hy1, ey1⟩ := iI_of (xs (5 * (k : Int) + 1).toNat)
  obtain ⟨y2, hy2, ey2⟩ := iI_of (xs (5 * (k : Int) + 2).toNat)
  obtain ⟨y3, hy3, ey3⟩ := iI_of (xs (5 * (k : Int) + 3).toNat)
  obtain ⟨y4, hy4, ey4⟩ := iI_of (xs (5 * (k : Int) + 4).toNat)
  have hv := Rl_count k MX MM y1 hy1 hk hMX hMM hR
  refine lv_aload_n hx hb dL_law_1223 rfl (lv_at hl 3 rfl) ?_
  refine lv_aload_n hx hb dL_law_1224 rfl (lv_at hl 4 rfl) ?_
  refine lv_iload hx hb dL_law_1225 (lv_at hl 0 rfl) ?_
  refine r_iconst hx hb dL_law_1227 ?_
  refine r_iadd (z := 5 * (k : Int) + 1) hx hb dL_law_1228 rfl ?_
  refine r_sld hx hb hX hbl hbA hw (by omega) (by omega) (by omega) ey1 dL_law_1229 ?_
  refine s_cVi (Wf := WX τ ax) (As := [.int (iI y1)]) (rest := []) hx hb hml hC hLS hA hw hl.1 (mX11_count l D τ ax sA sV _ y1 hy1 MX hMX _ hv) kX11_count ml_L_199 rfl (gX_155 τ ax MX) rfl rfl (Nat.le_of_ble_eq_true rfl) ⟨by decide, by decide⟩ ⟨by show 300 + 20 * k ≤ 601024; omega, by show 6000 + 120 * k ≤ 7293034; omega⟩ (cells' := 300 + 20 * k) (slots' := 6000 + 120 * k) rfl rfl dL_law_1230 (fun z1 MX1 H locs hz1 hMX hv hw => ?_)
  refine lv_pop hx hb dL_law_1233 rfl ?_
  refine lv_aload_n hx hb dL_law_1234 rfl (lv_at hl 2 rfl) ?_
  refine lv_aload_n hx hb dL_law_1235 rfl (lv_at hl 4 rfl) ?_
  refine lv_iload hx hb dL_law_1236 (lv_at hl 0 rfl) ?_
  refine r_iconst hx hb dL_law_1238 ?_
  refine r_iadd (z := 5 * (k : Int) + 1) hx hb dL_law_1239 rfl ?_
  refine r_sld hx hb hX hbl hbA hw (by omega) (by omega) (by omega) ey1 dL_law_1240 ?_
  have hw := hw.rot
  refine s_cVi (Wf := WM τ am) (As := [.int (iI y1)]) (rest := []) hx hb hml hC hLS hA hw hl.1 (mX12_count l D τ am sA sV _ y1 hy1 MM hMM _ hv) kX12_count ml_L_202 rfl (gM_1 τ am MM) rfl rfl (Nat.le_of_ble_eq_true rfl) ⟨by decide, by decide⟩ ⟨by show 300 + 20 * k ≤ 601024; omega, by show 6000 + 120 * k ≤ 7293034; omega⟩ (cells' := 300 + 20 * k) (slots' := 6000 + 120 * k) rfl rfl dL_law_1241 (fun z2 MM2 H locs hz2 hMM hv hw => ?_)
  have hw := hw.rot.rot
  refine lv_pop hx hb dL_law_1244 rfl ?_
  refine lv_goto (tgt := 1276) hx hb dL_law_1245 (by decide) ?_
  exact NEXT MX1 MM2 g _ _ _ _ _ hv hMX hMM hw (lv_sub hl [0, 1, 2, 3, 4] rfl) (by omega) (by omega)
set_option maxHeartbeats 4000000 in
set_option maxRecDepth 100000 in
theorem law_case42 {p : Program} {e : Env} {s : State} {m : MethodId} {below : List Frame} {meth : Method} {c : Code} (l : Launch) (hst : l.stackTraces = false) {b L : Nat} {xs : Nat → Int32} {D : va_G} {τ : Nat → ClassId} {A : Nat → Prop} {sA sV : Nat → Nat} {ax am : Nat → Nat} {ao : Nat} (hx : p.tables.exec = Jvm.exec) (hb : c.code = code) (hml : c.maxLocals = 8) (hC : cx D τ s m #[Value.ref b] RL) (hLS : LK A s s.heap sA sV) (hXX : XX A s) (hA : ∀ q : Nat, s.heap.size ≤ q → A q) (hX : va_X b L xs s s.heap) (hbl : b < s.heap.size) (hbA : ¬ A b) (k : Nat) (hk : k < 512) (hkL : 5 * (k : Int) + 5 ≤ L) (hL : L ≤ 2560)
  (NEXT : ∀ (MX MM : Mem) (g : Int → Int) (H : Heap) (locs : List Loc) (ls : Array Slot) (cc ss : Nat), Rel (k + 1) MX MM → MR MX → MR MM → wS D A s.heap (WX τ ax MX ++ (WM τ am MM ++ [OC τ ao g])) H locs → lv_has ls 8 [(4, .int (iI (5 * (k : Int)))), (3, .ref ao), (2, .ref (am 1)), (1, .ref (ax 155)), (0, .ref b)] → cc ≤ 300 + 20 * (k + 1) → ss ≤ 6000 + 120 * (k + 1) → W p l e room_1 s m #[Value.ref b] below meth c H locs cc ss (lw_Z below #[Value.ref b] s) (F0 m 1276 ls []))
  (MX MM : Mem) (g : Int → Int) (H : Heap) (locs : List Loc) (ls : Array Slot) (hR : Rel k MX MM) (hMX : MR MX) (hMM : MR MM) (hw : wS D A s.heap (WX τ ax MX ++ (WM τ am MM ++ [OC τ ao g])) H locs) (hl : lv_has ls 8 [(4, .int (iI (5 * (k : Int)))), (3, .ref ao), (2, .ref (am 1)), (1, .ref (ax 155)), (0, .ref b)]) : W p l e room_1 s m #[Value.ref b] below meth c H locs (300 + 20 * k) (6000 + 120 * k) (lw_Z below #[Value.ref b] s) (F0 m 1248 ls []) := by
  obtain ⟨y1, hy1, ey1⟩ := iI_of (xs (5 * (k : Int) + 1).toNat)
  obtain ⟨y2, hy2, ey2⟩ := iI_of (xs (5 * (k : Int) + 2).toNat)
  obtain ⟨y3, hy3, ey3⟩ := iI_of (xs (5 * (k : Int) + 3).toNat)
  obtain ⟨y4, hy4, ey4⟩ := iI_of (xs (5 * (k : Int) + 4).toNat)
  have hv := Rl_row k MX MM y1 hy1 hk hMX hMM hR
  refine lv_aload_n hx hb dL_law_1248 rfl (lv_at hl 3 rfl) ?_
  refine lv_aload_n hx hb dL_law_1249 rfl (lv_at hl 4 rfl) ?_
  refine lv_iload hx hb dL_law_1250 (lv_at hl 0 rfl) ?_
  refine r_iconst hx hb dL_law_1252 ?_
  refine r_iadd (z := 5 * (k : Int) + 1) hx hb dL_law_1253 rfl ?_
  refine r_sld hx hb hX hbl hbA hw (by omega) (by omega) (by omega) ey1 dL_law_1254 ?_
  refine lv_aload_n hx hb dL_law_1255 rfl (lv_at hl 1 rfl) ?_
  have hw := hw.rot.swap
  refine g_cW (n := 3) (wc := OC τ ao g :: WX τ ax MX) (wr := WM τ am MM) (As := [.ref (ax 155), .int (iI y1), .ref ao]) (rest := []) hx hb hml hC hA hLS hXX hw hl.1 (lw_row l hst D τ ax sA sV _ ao g y1 hy1 MX hMX _ _ hv) g_law_row ⟨by decide +kernel, by decide +kernel, by decide +kernel⟩ (List.range (OC τ ao g :: WX τ ax MX).length) ((List.range (WM τ am MM).length).map (fun i => i + (OC τ ao g :: WX τ ax MX).length)) (pick_l _ _) (pick_r _ _) (va_nd_range _) (nd_of (nodup_shift _ _)) (fun i hi h => by obtain ⟨j, _, rfl⟩ := List.mem_map.mp hi; have := List.mem_range.mp h; omega) rfl rfl (Nat.le_of_ble_eq_true rfl) ⟨by decide, by decide⟩ ⟨by show 300 + 20 * k + 1 ≤ 601024; omega, by show 6000 + 120 * k + 6 ≤ 7293034; omega⟩ (cells' := 300 + 20 * k + 1) (slots' := 6000 + 120 * k + 6) rfl rfl dL_law_1256 (fun z1 w1 H locs hz1 hE hw => ?_)
  obtain ⟨MX1, g1, hMX, hE, rfl⟩ := hE
  have hw : wS D A s.heap (WM τ am MM ++ ([OC τ ao g1] ++ WX τ ax MX1)) H locs := hw
  have hw := hw.rot.rot
  rcases hE with ⟨rfl, v1, hv1, hv, hg1⟩ | ⟨rfl, hv, hg1⟩
  · skip
    refine lv_istore (lv' := [(5, .int (iI 0)), (4, .int (iI (5 * (k : Int)))), (3, .ref ao), (2, .ref (am 1)), (1, .ref (ax 155)), (0, .ref b)]) hx hb dL_law_1259 hl (by decide) rfl (fun ls hl => ?_)
    refine lv_aload_n hx hb dL_law_1261 rfl (lv_at hl 3 rfl) ?_
    refine lv_aload_n hx hb dL_law_1262 rfl (lv_at hl 5 rfl) ?_
    refine lv_iload hx hb dL_law_1263 (lv_at hl 1 rfl) ?_
    refine r_iconst hx hb dL_law_1265 ?_
    refine r_iadd (z := 5 * (k : Int) + 1) hx hb dL_law_1266 rfl ?_
    refine r_sld hx hb hX hbl hbA hw (by omega) (by omega) (by omega) ey1 dL_law_1267 ?_
    have hw := hw.rot
    refine s_cVl (Wf := WM τ am) (As := [.int (iI y1)]) (rest := []) hx hb hml hC hLS hA hw hl.1 (mX12_row l D τ am sA sV _ y1 hy1 MM hMM _ hv) kX12_row ml_L_206 rfl (gM_1 τ am MM) rfl rfl (Nat.le_of_ble_eq_true rfl) ⟨by decide, by decide⟩ ⟨by show 300 + 20 * k + 1 ≤ 601024; omega, by show 6000 + 120 * k + 6 ≤ 7293034; omega⟩ (cells' := 300 + 20 * k + 1) (slots' := 6000 + 120 * k + 6) rfl rfl dL_law_1268 (fun z2 MM2 H locs hz2 hMM hv hw => ?_)
    have hw := hw.rot.rot
    refine lv_lstore (lv' := [(6, .long (lI z2)), (5, .int (iI 0)), (4, .int (iI (5 * (k : Int)))), (3, .ref ao), (2, .ref (am 1)), (1, .ref (ax 155)), (0, .ref b)]) hx hb dL_law_1271 hl (by decide) rfl (fun ls hl => ?_)
    refine lv_goto (tgt := 1276) hx hb dL_law_1273 (by decide) ?_
    exact NEXT MX1 MM2 g1 _ _ _ _ _ hv hMX hMM hw (lv_sub hl [2, 3, 4, 5, 6] rfl) (by omega) (by omega)
  · skip
    refine lv_istore (lv' := [(5, .int (iI 1)), (4, .int (iI (5 * (k : Int)))), (3, .ref ao), (2, .ref (am 1)), (1, .ref (ax 155)), (0, .ref b)]) hx hb dL_law_1259 hl (by decide) rfl (fun ls hl => ?_)
    refine lv_aload_n hx hb dL_law_1261 rfl (lv_at hl 3 rfl) ?_
    refine lv_aload_n hx hb dL_law_1262 rfl (lv_at hl 5 rfl) ?_
    refine lv_iload hx hb dL_law_1263 (lv_at hl 1 rfl) ?_
    refine r_iconst hx hb dL_law_1265 ?_
    refine r_iadd (z := 5 * (k : Int) + 1) hx hb dL_law_1266 rfl ?_
    refine r_sld hx hb hX hbl hbA hw (by omega) (by omega) (by omega) ey1 dL_law_1267 ?_
    have hw := hw.rot
    refine s_cVl (Wf := WM τ am) (As := [.int (iI y1)]) (rest := []) hx hb hml hC hLS hA hw hl.1 (mX12_row l D τ am sA sV _ y1 hy1 MM hMM _ hv) kX12_row ml_L_206 rfl (gM_1 τ am MM) rfl rfl (Nat.le_of_ble_eq_true rfl) ⟨by decide, by decide⟩ ⟨by show 300 + 20 * k + 1 ≤ 601024; omega, by show 6000 + 120 * k + 6 ≤ 7293034; omega⟩ (cells' := 300 + 20 * k + 1) (slots' := 6000 + 120 * k + 6) rfl rfl dL_law_1268 (fun z3 MM3 H locs hz3 hMM hv hw => ?_)
    have hw := hw.rot.rot
    refine lv_lstore (lv' := [(6, .long (lI z3)), (5, .int (iI 1)), (4, .int (iI (5 * (k : Int)))), (3, .ref ao), (2, .ref (am 1)), (1, .ref (ax 155)), (0, .ref b)]) hx hb dL_law_1271 hl (by decide) rfl (fun ls hl => ?_)
    refine lv_goto (tgt := 1276) hx hb dL_law_1273 (by decide) ?_
    exact NEXT MX1 MM3 g1 _ _ _ _ _ hv hMX hMM hw (lv_sub hl [2, 3, 4, 5, 6] rfl) (by omega) (by omega)
