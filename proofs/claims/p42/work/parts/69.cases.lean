section
set_option maxHeartbeats 4000000 in
set_option maxRecDepth 100000 in
theorem law_case0 {p : Program} {e : Env} {s : State} {m : MethodId} {below : List Frame} {meth : Method} {c : Code} (l : Launch) (hst : l.stackTraces = false) {b L : Nat} {xs : Nat → Int32} {D : va_G} {τ : Nat → ClassId} {A : Nat → Prop} {sA sV : Nat → Nat} {ax am : Nat → Nat} {ao : Nat} (hx : p.tables.exec = Jvm.exec) (hb : c.code = code) (hml : c.maxLocals = 8) (hC : cx D τ s m #[Value.ref b] RL) (hLS : LK A s s.heap sA sV) (hXX : XX A s) (hA : ∀ q : Nat, s.heap.size ≤ q → A q) (hX : va_X b L xs s s.heap) (hbl : b < s.heap.size) (hbA : ¬ A b) (k : Nat) (hk : k < 512) (hkL : 5 * (k : Int) + 5 ≤ L) (hL : L ≤ 2560)
  (NEXT : ∀ (MX MM : Mem) (g : Int → Int) (H : Heap) (locs : List Loc) (ls : Array Slot) (cc ss : Nat), Rel (k + 1) MX MM → MR MX → MR MM → wS D A s.heap (WX τ ax MX ++ (WM τ am MM ++ [OC τ ao g])) H locs → lv_has ls 8 [(4, .int (iI (5 * (k : Int)))), (3, .ref ao), (2, .ref (am 1)), (1, .ref (ax 155)), (0, .ref b)] → cc ≤ 300 + 20 * (k + 1) → ss ≤ 6000 + 120 * (k + 1) → W p l e room_1 s m #[Value.ref b] below meth c H locs cc ss (lw_Z below #[Value.ref b] s) (F0 m 1248 ls []))
  (MX MM : Mem) (g : Int → Int) (H : Heap) (locs : List Loc) (ls : Array Slot) (hR : Rel k MX MM) (hMX : MR MX) (hMM : MR MM) (hw : wS D A s.heap (WX τ ax MX ++ (WM τ am MM ++ [OC τ ao g])) H locs) (hl : lv_has ls 8 [(4, .int (iI (5 * (k : Int)))), (3, .ref ao), (2, .ref (am 1)), (1, .ref (ax 155)), (0, .ref b)]) : W p l e room_1 s m #[Value.ref b] below meth c H locs (300 + 20 * k) (6000 + 120 * k) (lw_Z below #[Value.ref b] s) (F0 m 224 ls []) := by
  obtain ⟨y1, hy1, ey1⟩ := iI_of (xs (5 * (k : Int) + 1).toNat)
  obtain ⟨y2, hy2, ey2⟩ := iI_of (xs (5 * (k : Int) + 2).toNat)
  obtain ⟨y3, hy3, ey3⟩ := iI_of (xs (5 * (k : Int) + 3).toNat)
  obtain ⟨y4, hy4, ey4⟩ := iI_of (xs (5 * (k : Int) + 4).toNat)
  have hv := Rl_sign k MX MM y1 hy1 hk hMX hMM hR
  refine lv_aload_n hx hb dL_law_224 rfl (lv_at hl 3 rfl) ?_
  refine lv_aload_n hx hb dL_law_225 rfl (lv_at hl 4 rfl) ?_
  refine lv_iload hx hb dL_law_226 (lv_at hl 0 rfl) ?_
  refine r_iconst hx hb dL_law_228 ?_
  refine r_iadd (z := 5 * (k : Int) + 1) hx hb dL_law_229 rfl ?_
  refine r_sld hx hb hX hbl hbA hw (by omega) (by omega) (by omega) ey1 dL_law_230 ?_
  refine s_cVi (Wf := WX τ ax) (As := [.int (iI y1)]) (rest := []) hx hb hml hC hLS hA hw hl.1 (mX11_sign l D τ ax sA sV _ y1 hy1 MX hMX _ hv) kX11_sign ml_L_26 rfl (gX_155 τ ax MX) rfl rfl (Nat.le_of_ble_eq_true rfl) ⟨by decide, by decide⟩ ⟨by show 300 + 20 * k ≤ 601024; omega, by show 6000 + 120 * k ≤ 7293034; omega⟩ (cells' := 300 + 20 * k) (slots' := 6000 + 120 * k) rfl rfl dL_law_231 (fun z1 MX1 H locs hz1 hMX hv hw => ?_)
  refine lv_pop hx hb dL_law_234 rfl ?_
  refine lv_aload_n hx hb dL_law_235 rfl (lv_at hl 2 rfl) ?_
  refine lv_aload_n hx hb dL_law_236 rfl (lv_at hl 4 rfl) ?_
  refine lv_iload hx hb dL_law_237 (lv_at hl 0 rfl) ?_
  refine r_iconst hx hb dL_law_239 ?_
  refine r_iadd (z := 5 * (k : Int) + 1) hx hb dL_law_240 rfl ?_
  refine r_sld hx hb hX hbl hbA hw (by omega) (by omega) (by omega) ey1 dL_law_241 ?_
  have hw := hw.rot
  refine s_cVi (Wf := WM τ am) (As := [.int (iI y1)]) (rest := []) hx hb hml hC hLS hA hw hl.1 (mX12_sign l D τ am sA sV _ y1 hy1 MM hMM _ hv) kX12_sign ml_L_30 rfl (gM_1 τ am MM) rfl rfl (Nat.le_of_ble_eq_true rfl) ⟨by decide, by decide⟩ ⟨by show 300 + 20 * k ≤ 601024; omega, by show 6000 + 120 * k ≤ 7293034; omega⟩ (cells' := 300 + 20 * k) (slots' := 6000 + 120 * k) rfl rfl dL_law_242 (fun z2 MM2 H locs hz2 hMM hv hw => ?_)
  have hw := hw.rot.rot
  refine lv_pop hx hb dL_law_245 rfl ?_
  refine lv_goto (tgt := 1248) hx hb dL_law_246 (by decide) ?_
  exact NEXT MX1 MM2 g _ _ _ _ _ hv hMX hMM hw (lv_sub hl [0, 1, 2, 3, 4] rfl) (by omega) (by omega)
set_option maxHeartbeats 4000000 in
set_option maxRecDepth 100000 in
theorem law_case1 {p : Program} {e : Env} {s : State} {m : MethodId} {below : List Frame} {meth : Method} {c : Code} (l : Launch) (hst : l.stackTraces = false) {b L : Nat} {xs : Nat → Int32} {D : va_G} {τ : Nat → ClassId} {A : Nat → Prop} {sA sV : Nat → Nat} {ax am : Nat → Nat} {ao : Nat} (hx : p.tables.exec = Jvm.exec) (hb : c.code = code) (hml : c.maxLocals = 8) (hC : cx D τ s m #[Value.ref b] RL) (hLS : LK A s s.heap sA sV) (hXX : XX A s) (hA : ∀ q : Nat, s.heap.size ≤ q → A q) (hX : va_X b L xs s s.heap) (hbl : b < s.heap.size) (hbA : ¬ A b) (k : Nat) (hk : k < 512) (hkL : 5 * (k : Int) + 5 ≤ L) (hL : L ≤ 2560)
  (NEXT : ∀ (MX MM : Mem) (g : Int → Int) (H : Heap) (locs : List Loc) (ls : Array Slot) (cc ss : Nat), Rel (k + 1) MX MM → MR MX → MR MM → wS D A s.heap (WX τ ax MX ++ (WM τ am MM ++ [OC τ ao g])) H locs → lv_has ls 8 [(4, .int (iI (5 * (k : Int)))), (3, .ref ao), (2, .ref (am 1)), (1, .ref (ax 155)), (0, .ref b)] → cc ≤ 300 + 20 * (k + 1) → ss ≤ 6000 + 120 * (k + 1) → W p l e room_1 s m #[Value.ref b] below meth c H locs cc ss (lw_Z below #[Value.ref b] s) (F0 m 1248 ls []))
  (MX MM : Mem) (g : Int → Int) (H : Heap) (locs : List Loc) (ls : Array Slot) (hR : Rel k MX MM) (hMX : MR MX) (hMM : MR MM) (hw : wS D A s.heap (WX τ ax MX ++ (WM τ am MM ++ [OC τ ao g])) H locs) (hl : lv_has ls 8 [(4, .int (iI (5 * (k : Int)))), (3, .ref ao), (2, .ref (am 1)), (1, .ref (ax 155)), (0, .ref b)]) : W p l e room_1 s m #[Value.ref b] below meth c H locs (300 + 20 * k) (6000 + 120 * k) (lw_Z below #[Value.ref b] s) (F0 m 249 ls []) := by
  obtain ⟨y1, hy1, ey1⟩ := iI_of (xs (5 * (k : Int) + 1).toNat)
  obtain ⟨y2, hy2, ey2⟩ := iI_of (xs (5 * (k : Int) + 2).toNat)
  obtain ⟨y3, hy3, ey3⟩ := iI_of (xs (5 * (k : Int) + 3).toNat)
  obtain ⟨y4, hy4, ey4⟩ := iI_of (xs (5 * (k : Int) + 4).toNat)
  have hv := Rl_end k MX MM y1 hy1 hk hMX hMM hR
  refine lv_aload_n hx hb dL_law_249 rfl (lv_at hl 3 rfl) ?_
  refine lv_aload_n hx hb dL_law_250 rfl (lv_at hl 4 rfl) ?_
  refine lv_iload hx hb dL_law_251 (lv_at hl 0 rfl) ?_
  refine r_iconst hx hb dL_law_253 ?_
  refine r_iadd (z := 5 * (k : Int) + 1) hx hb dL_law_254 rfl ?_
  refine r_sld hx hb hX hbl hbA hw (by omega) (by omega) (by omega) ey1 dL_law_255 ?_
  refine s_cVz (Wf := WX τ ax) (As := [.int (iI y1)]) (rest := []) hx hb hml hC hLS hA hw hl.1 (mX11_end l D τ ax sA sV _ y1 hy1 MX hMX _ hv) kX11_end ml_L_31 rfl (gX_155 τ ax MX) rfl rfl (Nat.le_of_ble_eq_true rfl) ⟨by decide, by decide⟩ ⟨by show 300 + 20 * k ≤ 601024; omega, by show 6000 + 120 * k ≤ 7293034; omega⟩ (cells' := 300 + 20 * k) (slots' := 6000 + 120 * k) rfl rfl dL_law_256 (fun z1 MX1 H locs hz1 h01 hMX hv hw => ?_)
  refine lv_pop hx hb dL_law_259 rfl ?_
  refine lv_aload_n hx hb dL_law_260 rfl (lv_at hl 2 rfl) ?_
  refine lv_aload_n hx hb dL_law_261 rfl (lv_at hl 4 rfl) ?_
  refine lv_iload hx hb dL_law_262 (lv_at hl 0 rfl) ?_
  refine r_iconst hx hb dL_law_264 ?_
  refine r_iadd (z := 5 * (k : Int) + 1) hx hb dL_law_265 rfl ?_
  refine r_sld hx hb hX hbl hbA hw (by omega) (by omega) (by omega) ey1 dL_law_266 ?_
  have hw := hw.rot
  refine s_cVz (Wf := WM τ am) (As := [.int (iI y1)]) (rest := []) hx hb hml hC hLS hA hw hl.1 (mX12_end l D τ am sA sV _ y1 hy1 MM hMM _ hv) kX12_end ml_L_35 rfl (gM_1 τ am MM) rfl rfl (Nat.le_of_ble_eq_true rfl) ⟨by decide, by decide⟩ ⟨by show 300 + 20 * k ≤ 601024; omega, by show 6000 + 120 * k ≤ 7293034; omega⟩ (cells' := 300 + 20 * k) (slots' := 6000 + 120 * k) rfl rfl dL_law_267 (fun z2 MM2 H locs hz2 h01 hMM hv hw => ?_)
  have hw := hw.rot.rot
  refine lv_pop hx hb dL_law_270 rfl ?_
  refine lv_goto (tgt := 1248) hx hb dL_law_271 (by decide) ?_
  exact NEXT MX1 MM2 g _ _ _ _ _ hv hMX hMM hw (lv_sub hl [0, 1, 2, 3, 4] rfl) (by omega) (by omega)
set_option maxHeartbeats 4000000 in
set_option maxRecDepth 100000 in
theorem law_case2 {p : Program} {e : Env} {s : State} {m : MethodId} {below : List Frame} {meth : Method} {c : Code} (l : Launch) (hst : l.stackTraces = false) {b L : Nat} {xs : Nat → Int32} {D : va_G} {τ : Nat → ClassId} {A : Nat → Prop} {sA sV : Nat → Nat} {ax am : Nat → Nat} {ao : Nat} (hx : p.tables.exec = Jvm.exec) (hb : c.code = code) (hml : c.maxLocals = 8) (hC : cx D τ s m #[Value.ref b] RL) (hLS : LK A s s.heap sA sV) (hXX : XX A s) (hA : ∀ q : Nat, s.heap.size ≤ q → A q) (hX : va_X b L xs s s.heap) (hbl : b < s.heap.size) (hbA : ¬ A b) (k : Nat) (hk : k < 512) (hkL : 5 * (k : Int) + 5 ≤ L) (hL : L ≤ 2560)
  (NEXT : ∀ (MX MM : Mem) (g : Int → Int) (H : Heap) (locs : List Loc) (ls : Array Slot) (cc ss : Nat), Rel (k + 1) MX MM → MR MX → MR MM → wS D A s.heap (WX τ ax MX ++ (WM τ am MM ++ [OC τ ao g])) H locs → lv_has ls 8 [(4, .int (iI (5 * (k : Int)))), (3, .ref ao), (2, .ref (am 1)), (1, .ref (ax 155)), (0, .ref b)] → cc ≤ 300 + 20 * (k + 1) → ss ≤ 6000 + 120 * (k + 1) → W p l e room_1 s m #[Value.ref b] below meth c H locs cc ss (lw_Z below #[Value.ref b] s) (F0 m 1248 ls []))
  (MX MM : Mem) (g : Int → Int) (H : Heap) (locs : List Loc) (ls : Array Slot) (hR : Rel k MX MM) (hMX : MR MX) (hMM : MR MM) (hw : wS D A s.heap (WX τ ax MX ++ (WM τ am MM ++ [OC τ ao g])) H locs) (hl : lv_has ls 8 [(4, .int (iI (5 * (k : Int)))), (3, .ref ao), (2, .ref (am 1)), (1, .ref (ax 155)), (0, .ref b)]) : W p l e room_1 s m #[Value.ref b] below meth c H locs (300 + 20 * k) (6000 + 120 * k) (lw_Z below #[Value.ref b] s) (F0 m 274 ls []) := by
  obtain ⟨y1, hy1, ey1⟩ := iI_of (xs (5 * (k : Int) + 1).toNat)
  obtain ⟨y2, hy2, ey2⟩ := iI_of (xs (5 * (k : Int) + 2).toNat)
  obtain ⟨y3, hy3, ey3⟩ := iI_of (xs (5 * (k : Int) + 3).toNat)
  obtain ⟨y4, hy4, ey4⟩ := iI_of (xs (5 * (k : Int) + 4).toNat)
  have hv := Rl_avenue k MX MM   hk hMX hMM hR
  refine lv_aload_n hx hb dL_law_274 rfl (lv_at hl 3 rfl) ?_
  refine s_cVi (Wf := WX τ ax) (As := []) (rest := []) hx hb hml hC hLS hA hw hl.1 (mX11_avenue l D τ ax sA sV _   MX hMX _ hv) kX11_avenue ml_L_36 rfl (gX_155 τ ax MX) rfl rfl (Nat.le_of_ble_eq_true rfl) ⟨by decide, by decide⟩ ⟨by show 300 + 20 * k ≤ 601024; omega, by show 6000 + 120 * k ≤ 7293034; omega⟩ (cells' := 300 + 20 * k) (slots' := 6000 + 120 * k) rfl rfl dL_law_275 (fun z1 MX1 H locs hz1 hMX hv hw => ?_)
  refine lv_pop hx hb dL_law_278 rfl ?_
  refine lv_aload_n hx hb dL_law_279 rfl (lv_at hl 2 rfl) ?_
  have hw := hw.rot
  refine s_cVi (Wf := WM τ am) (As := []) (rest := []) hx hb hml hC hLS hA hw hl.1 (mX12_avenue l D τ am sA sV _   MM hMM _ hv) kX12_avenue ml_L_40 rfl (gM_1 τ am MM) rfl rfl (Nat.le_of_ble_eq_true rfl) ⟨by decide, by decide⟩ ⟨by show 300 + 20 * k ≤ 601024; omega, by show 6000 + 120 * k ≤ 7293034; omega⟩ (cells' := 300 + 20 * k) (slots' := 6000 + 120 * k) rfl rfl dL_law_280 (fun z2 MM2 H locs hz2 hMM hv hw => ?_)
  have hw := hw.rot.rot
  refine lv_pop hx hb dL_law_283 rfl ?_
  refine lv_goto (tgt := 1248) hx hb dL_law_284 (by decide) ?_
  exact NEXT MX1 MM2 g _ _ _ _ _ hv hMX hMM hw (lv_sub hl [0, 1, 2, 3, 4] rfl) (by omega) (by omega)
set_option maxHeartbeats 4000000 in
set_option maxRecDepth 100000 in
theorem law_case3 {p : Program} {e : Env} {s : State} {m : MethodId} {below : List Frame} {meth : Method} {c : Code} (l : Launch) (hst : l.stackTraces = false) {b L : Nat} {xs : Nat → Int32} {D : va_G} {τ : Nat → ClassId} {A : Nat → Prop} {sA sV : Nat → Nat} {ax am : Nat → Nat} {ao : Nat} (hx : p.tables.exec = Jvm.exec) (hb : c.code = code) (hml : c.maxLocals = 8) (hC : cx D τ s m #[Value.ref b] RL) (hLS : LK A s s.heap sA sV) (hXX : XX A s) (hA : ∀ q : Nat, s.heap.size ≤ q → A q) (hX : va_X b L xs s s.heap) (hbl : b < s.heap.size) (hbA : ¬ A b) (k : Nat) (hk : k < 512) (hkL : 5 * (k : Int) + 5 ≤ L) (hL : L ≤ 2560)
  (NEXT : ∀ (MX MM : Mem) (g : Int → Int) (H : Heap) (locs : List Loc) (ls : Array Slot) (cc ss : Nat), Rel (k + 1) MX MM → MR MX → MR MM → wS D A s.heap (WX τ ax MX ++ (WM τ am MM ++ [OC τ ao g])) H locs → lv_has ls 8 [(4, .int (iI (5 * (k : Int)))), (3, .ref ao), (2, .ref (am 1)), (1, .ref (ax 155)), (0, .ref b)] → cc ≤ 300 + 20 * (k + 1) → ss ≤ 6000 + 120 * (k + 1) → W p l e room_1 s m #[Value.ref b] below meth c H locs cc ss (lw_Z below #[Value.ref b] s) (F0 m 1248 ls []))
  (MX MM : Mem) (g : Int → Int) (H : Heap) (locs : List Loc) (ls : Array Slot) (hR : Rel k MX MM) (hMX : MR MX) (hMM : MR MM) (hw : wS D A s.heap (WX τ ax MX ++ (WM τ am MM ++ [OC τ ao g])) H locs) (hl : lv_has ls 8 [(4, .int (iI (5 * (k : Int)))), (3, .ref ao), (2, .ref (am 1)), (1, .ref (ax 155)), (0, .ref b)]) : W p l e room_1 s m #[Value.ref b] below meth c H locs (300 + 20 * k) (6000 + 120 * k) (lw_Z below #[Value.ref b] s) (F0 m 287 ls []) := by
  obtain ⟨y1, hy1, ey1⟩ := iI_of (xs (5 * (k : Int) + 1).toNat)
  obtain ⟨y2, hy2, ey2⟩ := iI_of (xs (5 * (k : Int) + 2).toNat)
  obtain ⟨y3, hy3, ey3⟩ := iI_of (xs (5 * (k : Int) + 3).toNat)
  obtain ⟨y4, hy4, ey4⟩ := iI_of (xs (5 * (k : Int) + 4).toNat)
  have hv := Rl_hearses k MX MM   hk hMX hMM hR
  refine lv_aload_n hx hb dL_law_287 rfl (lv_at hl 3 rfl) ?_
  refine s_cVi (Wf := WX τ ax) (As := []) (rest := []) hx hb hml hC hLS hA hw hl.1 (mX11_hearses l D τ ax sA sV _   MX hMX _ hv) kX11_hearses ml_L_41 rfl (gX_155 τ ax MX) rfl rfl (Nat.le_of_ble_eq_true rfl) ⟨by decide, by decide⟩ ⟨by show 300 + 20 * k ≤ 601024; omega, by show 6000 + 120 * k ≤ 7293034; omega⟩ (cells' := 300 + 20 * k) (slots' := 6000 + 120 * k) rfl rfl dL_law_288 (fun z1 MX1 H locs hz1 hMX hv hw => ?_)
  refine lv_pop hx hb dL_law_291 rfl ?_
  refine lv_aload_n hx hb dL_law_292 rfl (lv_at hl 2 rfl) ?_
  have hw := hw.rot
  refine s_cVi (Wf := WM τ am) (As := []) (rest := []) hx hb hml hC hLS hA hw hl.1 (mX12_hearses l D τ am sA sV _   MM hMM _ hv) kX12_hearses ml_L_44 rfl (gM_1 τ am MM) rfl rfl (Nat.le_of_ble_eq_true rfl) ⟨by decide, by decide⟩ ⟨by show 300 + 20 * k ≤ 601024; omega, by show 6000 + 120 * k ≤ 7293034; omega⟩ (cells' := 300 + 20 * k) (slots' := 6000 + 120 * k) rfl rfl dL_law_293 (fun z2 MM2 H locs hz2 hMM hv hw => ?_)
  have hw := hw.rot.rot
  refine lv_pop hx hb dL_law_296 rfl ?_
  refine lv_goto (tgt := 1248) hx hb dL_law_297 (by decide) ?_
  exact NEXT MX1 MM2 g _ _ _ _ _ hv hMX hMM hw (lv_sub hl [0, 1, 2, 3, 4] rfl) (by omega) (by omega)
set_option maxHeartbeats 4000000 in
set_option maxRecDepth 100000 in
theorem law_case4 {p : Program} {e : Env} {s : State} {m : MethodId} {below : List Frame} {meth : Method} {c : Code} (l : Launch) (hst : l.stackTraces = false) {b L : Nat} {xs : Nat → Int32} {D : va_G} {τ : Nat → ClassId} {A : Nat → Prop} {sA sV : Nat → Nat} {ax am : Nat → Nat} {ao : Nat} (hx : p.tables.exec = Jvm.exec) (hb : c.code = code) (hml : c.maxLocals = 8) (hC : cx D τ s m #[Value.ref b] RL) (hLS : LK A s s.heap sA sV) (hXX : XX A s) (hA : ∀ q : Nat, s.heap.size ≤ q → A q) (hX : va_X b L xs s s.heap) (hbl : b < s.heap.size) (hbA : ¬ A b) (k : Nat) (hk : k < 512) (hkL : 5 * (k : Int) + 5 ≤ L) (hL : L ≤ 2560)
  (NEXT : ∀ (MX MM : Mem) (g : Int → Int) (H : Heap) (locs : List Loc) (ls : Array Slot) (cc ss : Nat), Rel (k + 1) MX MM → MR MX → MR MM → wS D A s.heap (WX τ ax MX ++ (WM τ am MM ++ [OC τ ao g])) H locs → lv_has ls 8 [(4, .int (iI (5 * (k : Int)))), (3, .ref ao), (2, .ref (am 1)), (1, .ref (ax 155)), (0, .ref b)] → cc ≤ 300 + 20 * (k + 1) → ss ≤ 6000 + 120 * (k + 1) → W p l e room_1 s m #[Value.ref b] below meth c H locs cc ss (lw_Z below #[Value.ref b] s) (F0 m 1248 ls []))
  (MX MM : Mem) (g : Int → Int) (H : Heap) (locs : List Loc) (ls : Array Slot) (hR : Rel k MX MM) (hMX : MR MX) (hMM : MR MM) (hw : wS D A s.heap (WX τ ax MX ++ (WM τ am MM ++ [OC τ ao g])) H locs) (hl : lv_has ls 8 [(4, .int (iI (5 * (k : Int)))), (3, .ref ao), (2, .ref (am 1)), (1, .ref (ax 155)), (0, .ref b)]) : W p l e room_1 s m #[Value.ref b] below meth c H locs (300 + 20 * k) (6000 + 120 * k) (lw_Z below #[Value.ref b] s) (F0 m 300 ls []) := by
  obtain ⟨y1, hy1, ey1⟩ := iI_of (xs (5 * (k : Int) + 1).toNat)
  obtain ⟨y2, hy2, ey2⟩ := iI_of (xs (5 * (k : Int) + 2).toNat)
  obtain ⟨y3, hy3, ey3⟩ := iI_of (xs (5 * (k : Int) + 3).toNat)
  obtain ⟨y4, hy4, ey4⟩ := iI_of (xs (5 * (k : Int) + 4).toNat)
  have hv := Rl_mourners k MX MM   hk hMX hMM hR
  refine lv_aload_n hx hb dL_law_300 rfl (lv_at hl 3 rfl) ?_
  refine s_cVi (Wf := WX τ ax) (As := []) (rest := []) hx hb hml hC hLS hA hw hl.1 (mX11_mourners l D τ ax sA sV _   MX hMX _ hv) kX11_mourners ml_L_45 rfl (gX_155 τ ax MX) rfl rfl (Nat.le_of_ble_eq_true rfl) ⟨by decide, by decide⟩ ⟨by show 300 + 20 * k ≤ 601024; omega, by show 6000 + 120 * k ≤ 7293034; omega⟩ (cells' := 300 + 20 * k) (slots' := 6000 + 120 * k) rfl rfl dL_law_301 (fun z1 MX1 H locs hz1 hMX hv hw => ?_)
  refine lv_pop hx hb dL_law_304 rfl ?_
  refine lv_aload_n hx hb dL_law_305 rfl (lv_at hl 2 rfl) ?_
  have hw := hw.rot
  refine s_cVi (Wf := WM τ am) (As := []) (rest := []) hx hb hml hC hLS hA hw hl.1 (mX12_mourners l D τ am sA sV _   MM hMM _ hv) kX12_mourners ml_L_48 rfl (gM_1 τ am MM) rfl rfl (Nat.le_of_ble_eq_true rfl) ⟨by decide, by decide⟩ ⟨by show 300 + 20 * k + 20 ≤ 601024; omega, by show 6000 + 120 * k + 120 ≤ 7293034; omega⟩ (cells' := 300 + 20 * k + 20) (slots' := 6000 + 120 * k + 120) rfl rfl dL_law_306 (fun z2 MM2 H locs hz2 hMM hv hw => ?_)
  have hw := hw.rot.rot
  refine lv_pop hx hb dL_law_309 rfl ?_
  refine lv_goto (tgt := 1248) hx hb dL_law_310 (by decide) ?_
  exact NEXT MX1 MM2 g _ _ _ _ _ hv hMX hMM hw (lv_sub hl [0, 1, 2, 3, 4] rfl) (by omega) (by omega)
set_option maxHeartbeats 4000000 in
set_option maxRecDepth 100000 in
theorem law_case5 {p : Program} {e : Env} {s : State} {m : MethodId} {below : List Frame} {meth : Method} {c : Code} (l : Launch) (hst : l.stackTraces = false) {b L : Nat} {xs : Nat → Int32} {D : va_G} {τ : Nat → ClassId} {A : Nat → Prop} {sA sV : Nat → Nat} {ax am : Nat → Nat} {ao : Nat} (hx : p.tables.exec = Jvm.exec) (hb : c.code = code) (hml : c.maxLocals = 8) (hC : cx D τ s m #[Value.ref b] RL) (hLS : LK A s s.heap sA sV) (hXX : XX A s) (hA : ∀ q : Nat, s.heap.size ≤ q → A q) (hX : va_X b L xs s s.heap) (hbl : b < s.heap.size) (hbA : ¬ A b) (k : Nat) (hk : k < 512) (hkL : 5 * (k : Int) + 5 ≤ L) (hL : L ≤ 2560)
  (NEXT : ∀ (MX MM : Mem) (g : Int → Int) (H : Heap) (locs : List Loc) (ls : Array Slot) (cc ss : Nat), Rel (k + 1) MX MM → MR MX → MR MM → wS D A s.heap (WX τ ax MX ++ (WM τ am MM ++ [OC τ ao g])) H locs → lv_has ls 8 [(4, .int (iI (5 * (k : Int)))), (3, .ref ao), (2, .ref (am 1)), (1, .ref (ax 155)), (0, .ref b)] → cc ≤ 300 + 20 * (k + 1) → ss ≤ 6000 + 120 * (k + 1) → W p l e room_1 s m #[Value.ref b] below meth c H locs cc ss (lw_Z below #[Value.ref b] s) (F0 m 1248 ls []))
  (MX MM : Mem) (g : Int → Int) (H : Heap) (locs : List Loc) (ls : Array Slot) (hR : Rel k MX MM) (hMX : MR MX) (hMM : MR MM) (hw : wS D A s.heap (WX τ ax MX ++ (WM τ am MM ++ [OC τ ao g])) H locs) (hl : lv_has ls 8 [(4, .int (iI (5 * (k : Int)))), (3, .ref ao), (2, .ref (am 1)), (1, .ref (ax 155)), (0, .ref b)]) : W p l e room_1 s m #[Value.ref b] below meth c H locs (300 + 20 * k) (6000 + 120 * k) (lw_Z below #[Value.ref b] s) (F0 m 313 ls []) := by
  obtain ⟨y1, hy1, ey1⟩ := iI_of (xs (5 * (k : Int) + 1).toNat)
  obtain ⟨y2, hy2, ey2⟩ := iI_of (xs (5 * (k : Int) + 2).toNat)
  obtain ⟨y3, hy3, ey3⟩ := iI_of (xs (5 * (k : Int) + 3).toNat)
  obtain ⟨y4, hy4, ey4⟩ := iI_of (xs (5 * (k : Int) + 4).toNat)
  have hv := Rl_weather k MX MM   hk hMX hMM hR
  refine lv_aload_n hx hb dL_law_313 rfl (lv_at hl 3 rfl) ?_
  refine s_cVi (Wf := WX τ ax) (As := []) (rest := []) hx hb hml hC hLS hA hw hl.1 (mX11_weather l D τ ax sA sV _   MX hMX _ hv) kX11_weather ml_L_49 rfl (gX_155 τ ax MX) rfl rfl (Nat.le_of_ble_eq_true rfl) ⟨by decide, by decide⟩ ⟨by show 300 + 20 * k ≤ 601024; omega, by show 6000 + 120 * k ≤ 7293034; omega⟩ (cells' := 300 + 20 * k) (slots' := 6000 + 120 * k) rfl rfl dL_law_314 (fun z1 MX1 H locs hz1 hMX hv hw => ?_)
  refine lv_pop hx hb dL_law_317 rfl ?_
  refine lv_aload_n hx hb dL_law_318 rfl (lv_at hl 2 rfl) ?_
  have hw := hw.rot
  refine s_cVi (Wf := WM τ am) (As := []) (rest := []) hx hb hml hC hLS hA hw hl.1 (mX12_weather l D τ am sA sV _   MM hMM _ hv) kX12_weather ml_L_52 rfl (gM_1 τ am MM) rfl rfl (Nat.le_of_ble_eq_true rfl) ⟨by decide, by decide⟩ ⟨by show 300 + 20 * k ≤ 601024; omega, by show 6000 + 120 * k ≤ 7293034; omega⟩ (cells' := 300 + 20 * k) (slots' := 6000 + 120 * k) rfl rfl dL_law_319 (fun z2 MM2 H locs hz2 hMM hv hw => ?_)
  have hw := hw.rot.rot
  refine lv_pop hx hb dL_law_322 rfl ?_
  refine lv_goto (tgt := 1248) hx hb dL_law_323 (by decide) ?_
  exact NEXT MX1 MM2 g _ _ _ _ _ hv hMX hMM hw (lv_sub hl [0, 1, 2, 3, 4] rfl) (by omega) (by omega)
set_option maxHeartbeats 4000000 in
set_option maxRecDepth 100000 in
theorem law_case6 {p : Program} {e : Env} {s : State} {m : MethodId} {below : List Frame} {meth : Method} {c : Code} (l : Launch) (hst : l.stackTraces = false) {b L : Nat} {xs : Nat → Int32} {D : va_G} {τ : Nat → ClassId} {A : Nat → Prop} {sA sV : Nat → Nat} {ax am : Nat → Nat} {ao : Nat} (hx : p.tables.exec = Jvm.exec) (hb : c.code = code) (hml : c.maxLocals = 8) (hC : cx D τ s m #[Value.ref b] RL) (hLS : LK A s s.heap sA sV) (hXX : XX A s) (hA : ∀ q : Nat, s.heap.size ≤ q → A q) (hX : va_X b L xs s s.heap) (hbl : b < s.heap.size) (hbA : ¬ A b) (k : Nat) (hk : k < 512) (hkL : 5 * (k : Int) + 5 ≤ L) (hL : L ≤ 2560)
  (NEXT : ∀ (MX MM : Mem) (g : Int → Int) (H : Heap) (locs : List Loc) (ls : Array Slot) (cc ss : Nat), Rel (k + 1) MX MM → MR MX → MR MM → wS D A s.heap (WX τ ax MX ++ (WM τ am MM ++ [OC τ ao g])) H locs → lv_has ls 8 [(4, .int (iI (5 * (k : Int)))), (3, .ref ao), (2, .ref (am 1)), (1, .ref (ax 155)), (0, .ref b)] → cc ≤ 300 + 20 * (k + 1) → ss ≤ 6000 + 120 * (k + 1) → W p l e room_1 s m #[Value.ref b] below meth c H locs cc ss (lw_Z below #[Value.ref b] s) (F0 m 1248 ls []))
  (MX MM : Mem) (g : Int → Int) (H : Heap) (locs : List Loc) (ls : Array Slot) (hR : Rel k MX MM) (hMX : MR MX) (hMM : MR MM) (hw : wS D A s.heap (WX τ ax MX ++ (WM τ am MM ++ [OC τ ao g])) H locs) (hl : lv_has ls 8 [(4, .int (iI (5 * (k : Int)))), (3, .ref ao), (2, .ref (am 1)), (1, .ref (ax 155)), (0, .ref b)]) : W p l e room_1 s m #[Value.ref b] below meth c H locs (300 + 20 * k) (6000 + 120 * k) (lw_Z below #[Value.ref b] s) (F0 m 326 ls []) := by
  obtain ⟨y1, hy1, ey1⟩ := iI_of (xs (5 * (k : Int) + 1).toNat)
  obtain ⟨y2, hy2, ey2⟩ := iI_of (xs (5 * (k : Int) + 2).toNat)
  obtain ⟨y3, hy3, ey3⟩ := iI_of (xs (5 * (k : Int) + 3).toNat)
  obtain ⟨y4, hy4, ey4⟩ := iI_of (xs (5 * (k : Int) + 4).toNat)
  have hv := Rl_rule k MX MM   hk hMX hMM hR
  refine lv_aload_n hx hb dL_law_326 rfl (lv_at hl 3 rfl) ?_
  refine s_cVi (Wf := WX τ ax) (As := []) (rest := []) hx hb hml hC hLS hA hw hl.1 (mX11_rule l D τ ax sA sV _   MX hMX _ hv) kX11_rule ml_L_53 rfl (gX_155 τ ax MX) rfl rfl (Nat.le_of_ble_eq_true rfl) ⟨by decide, by decide⟩ ⟨by show 300 + 20 * k ≤ 601024; omega, by show 6000 + 120 * k ≤ 7293034; omega⟩ (cells' := 300 + 20 * k) (slots' := 6000 + 120 * k) rfl rfl dL_law_327 (fun z1 MX1 H locs hz1 hMX hv hw => ?_)
  refine lv_pop hx hb dL_law_330 rfl ?_
  refine lv_aload_n hx hb dL_law_331 rfl (lv_at hl 2 rfl) ?_
  have hw := hw.rot
  refine s_cVi (Wf := WM τ am) (As := []) (rest := []) hx hb hml hC hLS hA hw hl.1 (mX12_rule l D τ am sA sV _   MM hMM _ hv) kX12_rule ml_L_56 rfl (gM_1 τ am MM) rfl rfl (Nat.le_of_ble_eq_true rfl) ⟨by decide, by decide⟩ ⟨by show 300 + 20 * k ≤ 601024; omega, by show 6000 + 120 * k ≤ 7293034; omega⟩ (cells' := 300 + 20 * k) (slots' := 6000 + 120 * k) rfl rfl dL_law_332 (fun z2 MM2 H locs hz2 hMM hv hw => ?_)
  have hw := hw.rot.rot
  refine lv_pop hx hb dL_law_335 rfl ?_
  refine lv_goto (tgt := 1248) hx hb dL_law_336 (by decide) ?_
  exact NEXT MX1 MM2 g _ _ _ _ _ hv hMX hMM hw (lv_sub hl [0, 1, 2, 3, 4] rfl) (by omega) (by omega)
set_option maxHeartbeats 4000000 in
set_option maxRecDepth 100000 in
theorem law_case7 {p : Program} {e : Env} {s : State} {m : MethodId} {below : List Frame} {meth : Method} {c : Code} (l : Launch) (hst : l.stackTraces = false) {b L : Nat} {xs : Nat → Int32} {D : va_G} {τ : Nat → ClassId} {A : Nat → Prop} {sA sV : Nat → Nat} {ax am : Nat → Nat} {ao : Nat} (hx : p.tables.exec = Jvm.exec) (hb : c.code = code) (hml : c.maxLocals = 8) (hC : cx D τ s m #[Value.ref b] RL) (hLS : LK A s s.heap sA sV) (hXX : XX A s) (hA : ∀ q : Nat, s.heap.size ≤ q → A q) (hX : va_X b L xs s s.heap) (hbl : b < s.heap.size) (hbA : ¬ A b) (k : Nat) (hk : k < 512) (hkL : 5 * (k : Int) + 5 ≤ L) (hL : L ≤ 2560)
  (NEXT : ∀ (MX MM : Mem) (g : Int → Int) (H : Heap) (locs : List Loc) (ls : Array Slot) (cc ss : Nat), Rel (k + 1) MX MM → MR MX → MR MM → wS D A s.heap (WX τ ax MX ++ (WM τ am MM ++ [OC τ ao g])) H locs → lv_has ls 8 [(4, .int (iI (5 * (k : Int)))), (3, .ref ao), (2, .ref (am 1)), (1, .ref (ax 155)), (0, .ref b)] → cc ≤ 300 + 20 * (k + 1) → ss ≤ 6000 + 120 * (k + 1) → W p l e room_1 s m #[Value.ref b] below meth c H locs cc ss (lw_Z below #[Value.ref b] s) (F0 m 1248 ls []))
  (MX MM : Mem) (g : Int → Int) (H : Heap) (locs : List Loc) (ls : Array Slot) (hR : Rel k MX MM) (hMX : MR MX) (hMM : MR MM) (hw : wS D A s.heap (WX τ ax MX ++ (WM τ am MM ++ [OC τ ao g])) H locs) (hl : lv_has ls 8 [(4, .int (iI (5 * (k : Int)))), (3, .ref ao), (2, .ref (am 1)), (1, .ref (ax 155)), (0, .ref b)]) : W p l e room_1 s m #[Value.ref b] below meth c H locs (300 + 20 * k) (6000 + 120 * k) (lw_Z below #[Value.ref b] s) (F0 m 339 ls []) := by
  obtain ⟨y1, hy1, ey1⟩ := iI_of (xs (5 * (k : Int) + 1).toNat)
  obtain ⟨y2, hy2, ey2⟩ := iI_of (xs (5 * (k : Int) + 2).toNat)
  obtain ⟨y3, hy3, ey3⟩ := iI_of (xs (5 * (k : Int) + 3).toNat)
  obtain ⟨y4, hy4, ey4⟩ := iI_of (xs (5 * (k : Int) + 4).toNat)
  have hv := Rl_hearse k MX MM y1 y2 hy1 hy2 hk hMX hMM hR
  refine lv_aload_n hx hb dL_law_339 rfl (lv_at hl 3 rfl) ?_
  refine lv_aload_n hx hb dL_law_340 rfl (lv_at hl 4 rfl) ?_
  refine lv_iload hx hb dL_law_341 (lv_at hl 0 rfl) ?_
  refine r_iconst hx hb dL_law_343 ?_
  refine r_iadd (z := 5 * (k : Int) + 1) hx hb dL_law_344 rfl ?_
  refine r_sld hx hb hX hbl hbA hw (by omega) (by omega) (by omega) ey1 dL_law_345 ?_
  refine lv_aload_n hx hb dL_law_346 rfl (lv_at hl 4 rfl) ?_
  refine lv_iload hx hb dL_law_347 (lv_at hl 0 rfl) ?_
  refine r_iconst hx hb dL_law_349 ?_
  refine r_iadd (z := 5 * (k : Int) + 2) hx hb dL_law_350 rfl ?_
  refine r_sld hx hb hX hbl hbA hw (by omega) (by omega) (by omega) ey2 dL_law_351 ?_
  refine lv_aload_n hx hb dL_law_352 rfl (lv_at hl 1 rfl) ?_
  have hw := hw.rot.swap
  refine g_cW (n := 4) (wc := OC τ ao g :: WX τ ax MX) (wr := WM τ am MM) (As := [.ref (ax 155), .int (iI y1), .int (iI y2), .ref ao]) (rest := []) hx hb hml hC hA hLS hXX hw hl.1 (lw_hearse l hst D τ ax sA sV _ ao g y1 y2 hy1 hy2 MX hMX _ _ hv) g_law_hearse ⟨by decide +kernel, by decide +kernel, by decide +kernel⟩ (List.range (OC τ ao g :: WX τ ax MX).length) ((List.range (WM τ am MM).length).map (fun i => i + (OC τ ao g :: WX τ ax MX).length)) (pick_l _ _) (pick_r _ _) (va_nd_range _) (nd_of (nodup_shift _ _)) (fun i hi h => by obtain ⟨j, _, rfl⟩ := List.mem_map.mp hi; have := List.mem_range.mp h; omega) rfl rfl (Nat.le_of_ble_eq_true rfl) ⟨by decide, by decide⟩ ⟨by show 300 + 20 * k + 1 ≤ 601024; omega, by show 6000 + 120 * k + 6 ≤ 7293034; omega⟩ (cells' := 300 + 20 * k + 1) (slots' := 6000 + 120 * k + 6) rfl rfl dL_law_353 (fun z1 w1 H locs hz1 hE hw => ?_)
  obtain ⟨MX1, g1, hMX, hE, rfl⟩ := hE
  have hw : wS D A s.heap (WM τ am MM ++ ([OC τ ao g1] ++ WX τ ax MX1)) H locs := hw
  have hw := hw.rot.rot
  rcases hE with ⟨rfl, v1, hv1, hv, hg1⟩ | ⟨rfl, hv, hg1⟩
  · skip
    refine lv_istore (lv' := [(5, .int (iI 0)), (4, .int (iI (5 * (k : Int)))), (3, .ref ao), (2, .ref (am 1)), (1, .ref (ax 155)), (0, .ref b)]) hx hb dL_law_356 hl (by decide) rfl (fun ls hl => ?_)
    refine lv_aload_n hx hb dL_law_358 rfl (lv_at hl 3 rfl) ?_
    refine lv_aload_n hx hb dL_law_359 rfl (lv_at hl 5 rfl) ?_
    refine lv_iload hx hb dL_law_360 (lv_at hl 1 rfl) ?_
    refine r_iconst hx hb dL_law_362 ?_
    refine r_iadd (z := 5 * (k : Int) + 1) hx hb dL_law_363 rfl ?_
    refine r_sld hx hb hX hbl hbA hw (by omega) (by omega) (by omega) ey1 dL_law_364 ?_
    refine lv_aload_n hx hb dL_law_365 rfl (lv_at hl 5 rfl) ?_
    refine lv_iload hx hb dL_law_366 (lv_at hl 1 rfl) ?_
    refine r_iconst hx hb dL_law_368 ?_
    refine r_iadd (z := 5 * (k : Int) + 2) hx hb dL_law_369 rfl ?_
    refine r_sld hx hb hX hbl hbA hw (by omega) (by omega) (by omega) ey2 dL_law_370 ?_
    have hw := hw.rot
    refine s_cVi (Wf := WM τ am) (As := [.int (iI y1), .int (iI y2)]) (rest := []) hx hb hml hC hLS hA hw hl.1 (mX12_hearse l D τ am sA sV _ y1 y2 hy1 hy2 MM hMM _ hv) kX12_hearse ml_L_62 rfl (gM_1 τ am MM) rfl rfl (Nat.le_of_ble_eq_true rfl) ⟨by decide, by decide⟩ ⟨by show 300 + 20 * k + 1 ≤ 601024; omega, by show 6000 + 120 * k + 6 ≤ 7293034; omega⟩ (cells' := 300 + 20 * k + 1) (slots' := 6000 + 120 * k + 6) rfl rfl dL_law_371 (fun z2 MM2 H locs hz2 hMM hv hw => ?_)
    have hw := hw.rot.rot
    refine lv_istore (lv' := [(6, .int (iI z2)), (5, .int (iI 0)), (4, .int (iI (5 * (k : Int)))), (3, .ref ao), (2, .ref (am 1)), (1, .ref (ax 155)), (0, .ref b)]) hx hb dL_law_374 hl (by decide) rfl (fun ls hl => ?_)
    refine lv_goto (tgt := 1248) hx hb dL_law_376 (by decide) ?_
    exact NEXT MX1 MM2 g1 _ _ _ _ _ hv hMX hMM hw (lv_sub hl [2, 3, 4, 5, 6] rfl) (by omega) (by omega)
  · skip
    refine lv_istore (lv' := [(5, .int (iI 1)), (4, .int (iI (5 * (k : Int)))), (3, .ref ao), (2, .ref (am 1)), (1, .ref (ax 155)), (0, .ref b)]) hx hb dL_law_356 hl (by decide) rfl (fun ls hl => ?_)
    refine lv_aload_n hx hb dL_law_358 rfl (lv_at hl 3 rfl) ?_
    refine lv_aload_n hx hb dL_law_359 rfl (lv_at hl 5 rfl) ?_
    refine lv_iload hx hb dL_law_360 (lv_at hl 1 rfl) ?_
    refine r_iconst hx hb dL_law_362 ?_
    refine r_iadd (z := 5 * (k : Int) + 1) hx hb dL_law_363 rfl ?_
    refine r_sld hx hb hX hbl hbA hw (by omega) (by omega) (by omega) ey1 dL_law_364 ?_
    refine lv_aload_n hx hb dL_law_365 rfl (lv_at hl 5 rfl) ?_
    refine lv_iload hx hb dL_law_366 (lv_at hl 1 rfl) ?_
    refine r_iconst hx hb dL_law_368 ?_
    refine r_iadd (z := 5 * (k : Int) + 2) hx hb dL_law_369 rfl ?_
    refine r_sld hx hb hX hbl hbA hw (by omega) (by omega) (by omega) ey2 dL_law_370 ?_
    have hw := hw.rot
    refine s_cVi (Wf := WM τ am) (As := [.int (iI y1), .int (iI y2)]) (rest := []) hx hb hml hC hLS hA hw hl.1 (mX12_hearse l D τ am sA sV _ y1 y2 hy1 hy2 MM hMM _ hv) kX12_hearse ml_L_62 rfl (gM_1 τ am MM) rfl rfl (Nat.le_of_ble_eq_true rfl) ⟨by decide, by decide⟩ ⟨by show 300 + 20 * k + 1 ≤ 601024; omega, by show 6000 + 120 * k + 6 ≤ 7293034; omega⟩ (cells' := 300 + 20 * k + 1) (slots' := 6000 + 120 * k + 6) rfl rfl dL_law_371 (fun z3 MM3 H locs hz3 hMM hv hw => ?_)
    have hw := hw.rot.rot
    refine lv_istore (lv' := [(6, .int (iI z3)), (5, .int (iI 1)), (4, .int (iI (5 * (k : Int)))), (3, .ref ao), (2, .ref (am 1)), (1, .ref (ax 155)), (0, .ref b)]) hx hb dL_law_374 hl (by decide) rfl (fun ls hl => ?_)
    refine lv_goto (tgt := 1248) hx hb dL_law_376 (by decide) ?_
    exact NEXT MX1 MM3 g1 _ _ _ _ _ hv hMX hMM hw (lv_sub hl [2, 3, 4, 5, 6] rfl) (by omega) (by omega)
set_option maxHeartbeats 4000000 in
set_option maxRecDepth 100000 in
theorem law_case8 {p : Program} {e : Env} {s : State} {m : MethodId} {below : List Frame} {meth : Method} {c : Code} (l : Launch) (hst : l.stackTraces = false) {b L : Nat} {xs : Nat → Int32} {D : va_G} {τ : Nat → ClassId} {A : Nat → Prop} {sA sV : Nat → Nat} {ax am : Nat → Nat} {ao : Nat} (hx : p.tables.exec = Jvm.exec) (hb : c.code = code) (hml : c.maxLocals = 8) (hC : cx D τ s m #[Value.ref b] RL) (hLS : LK A s s.heap sA sV) (hXX : XX A s) (hA : ∀ q : Nat, s.heap.size ≤ q → A q) (hX : va_X b L xs s s.heap) (hbl : b < s.heap.size) (hbA : ¬ A b) (k : Nat) (hk : k < 512) (hkL : 5 * (k : Int) + 5 ≤ L) (hL : L ≤ 2560)
  (NEXT : ∀ (MX MM : Mem) (g : Int → Int) (H : Heap) (locs : List Loc) (ls : Array Slot) (cc ss : Nat), Rel (k + 1) MX MM → MR MX → MR MM → wS D A s.heap (WX τ ax MX ++ (WM τ am MM ++ [OC τ ao g])) H locs → lv_has ls 8 [(4, .int (iI (5 * (k : Int)))), (3, .ref ao), (2, .ref (am 1)), (1, .ref (ax 155)), (0, .ref b)] → cc ≤ 300 + 20 * (k + 1) → ss ≤ 6000 + 120 * (k + 1) → W p l e room_1 s m #[Value.ref b] below meth c H locs cc ss (lw_Z below #[Value.ref b] s) (F0 m 1248 ls []))
  (MX MM : Mem) (g : Int → Int) (H : Heap) (locs : List Loc) (ls : Array Slot) (hR : Rel k MX MM) (hMX : MR MX) (hMM : MR MM) (hw : wS D A s.heap (WX τ ax MX ++ (WM τ am MM ++ [OC τ ao g])) H locs) (hl : lv_has ls 8 [(4, .int (iI (5 * (k : Int)))), (3, .ref ao), (2, .ref (am 1)), (1, .ref (ax 155)), (0, .ref b)]) : W p l e room_1 s m #[Value.ref b] below meth c H locs (300 + 20 * k) (6000 + 120 * k) (lw_Z below #[Value.ref b] s) (F0 m 379 ls []) := by
  obtain ⟨y1, hy1, ey1⟩ := iI_of (xs (5 * (k : Int) + 1).toNat)
  obtain ⟨y2, hy2, ey2⟩ := iI_of (xs (5 * (k : Int) + 2).toNat)
  obtain ⟨y3, hy3, ey3⟩ := iI_of (xs (5 * (k : Int) + 3).toNat)
  obtain ⟨y4, hy4, ey4⟩ := iI_of (xs (5 * (k : Int) + 4).toNat)
  have hv := Rl_mourner k MX MM y1 y2 hy1 hy2 hk hMX hMM hR
  refine lv_aload_n hx hb dL_law_379 rfl (lv_at hl 3 rfl) ?_
  refine lv_aload_n hx hb dL_law_380 rfl (lv_at hl 4 rfl) ?_
  refine lv_iload hx hb dL_law_381 (lv_at hl 0 rfl) ?_
  refine r_iconst hx hb dL_law_383 ?_
  refine r_iadd (z := 5 * (k : Int) + 1) hx hb dL_law_384 rfl ?_
  refine r_sld hx hb hX hbl hbA hw (by omega) (by omega) (by omega) ey1 dL_law_385 ?_
  refine lv_aload_n hx hb dL_law_386 rfl (lv_at hl 4 rfl) ?_
  refine lv_iload hx hb dL_law_387 (lv_at hl 0 rfl) ?_
  refine r_iconst hx hb dL_law_389 ?_
  refine r_iadd (z := 5 * (k : Int) + 2) hx hb dL_law_390 rfl ?_
  refine r_sld hx hb hX hbl hbA hw (by omega) (by omega) (by omega) ey2 dL_law_391 ?_
  refine lv_aload_n hx hb dL_law_392 rfl (lv_at hl 1 rfl) ?_
  have hw := hw.rot.swap
  refine g_cW (n := 4) (wc := OC τ ao g :: WX τ ax MX) (wr := WM τ am MM) (As := [.ref (ax 155), .int (iI y1), .int (iI y2), .ref ao]) (rest := []) hx hb hml hC hA hLS hXX hw hl.1 (lw_mourner l hst D τ ax sA sV _ ao g y1 y2 hy1 hy2 MX hMX _ _ hv) g_law_mourner ⟨by decide +kernel, by decide +kernel, by decide +kernel⟩ (List.range (OC τ ao g :: WX τ ax MX).length) ((List.range (WM τ am MM).length).map (fun i => i + (OC τ ao g :: WX τ ax MX).length)) (pick_l _ _) (pick_r _ _) (va_nd_range _) (nd_of (nodup_shift _ _)) (fun i hi h => by obtain ⟨j, _, rfl⟩ := List.mem_map.mp hi; have := List.mem_range.mp h; omega) rfl rfl (Nat.le_of_ble_eq_true rfl) ⟨by decide, by decide⟩ ⟨by show 300 + 20 * k + 1 ≤ 601024; omega, by show 6000 + 120 * k + 6 ≤ 7293034; omega⟩ (cells' := 300 + 20 * k + 1) (slots' := 6000 + 120 * k + 6) rfl rfl dL_law_393 (fun z1 w1 H locs hz1 hE hw => ?_)
  obtain ⟨MX1, g1, hMX, hE, rfl⟩ := hE
  have hw : wS D A s.heap (WM τ am MM ++ ([OC τ ao g1] ++ WX τ ax MX1)) H locs := hw
  have hw := hw.rot.rot
  rcases hE with ⟨rfl, v1, hv1, hv, hg1⟩ | ⟨rfl, hv, hg1⟩
  · skip
    refine lv_istore (lv' := [(5, .int (iI 0)), (4, .int (iI (5 * (k : Int)))), (3, .ref ao), (2, .ref (am 1)), (1, .ref (ax 155)), (0, .ref b)]) hx hb dL_law_396 hl (by decide) rfl (fun ls hl => ?_)
    refine lv_aload_n hx hb dL_law_398 rfl (lv_at hl 3 rfl) ?_
    refine lv_aload_n hx hb dL_law_399 rfl (lv_at hl 5 rfl) ?_
    refine lv_iload hx hb dL_law_400 (lv_at hl 1 rfl) ?_
    refine r_iconst hx hb dL_law_402 ?_
    refine r_iadd (z := 5 * (k : Int) + 1) hx hb dL_law_403 rfl ?_
    refine r_sld hx hb hX hbl hbA hw (by omega) (by omega) (by omega) ey1 dL_law_404 ?_
    refine lv_aload_n hx hb dL_law_405 rfl (lv_at hl 5 rfl) ?_
    refine lv_iload hx hb dL_law_406 (lv_at hl 1 rfl) ?_
    refine r_iconst hx hb dL_law_408 ?_
    refine r_iadd (z := 5 * (k : Int) + 2) hx hb dL_law_409 rfl ?_
    refine r_sld hx hb hX hbl hbA hw (by omega) (by omega) (by omega) ey2 dL_law_410 ?_
    have hw := hw.rot
    refine s_cVi (Wf := WM τ am) (As := [.int (iI y1), .int (iI y2)]) (rest := []) hx hb hml hC hLS hA hw hl.1 (mX12_mourner l D τ am sA sV _ y1 y2 hy1 hy2 MM hMM _ hv) kX12_mourner ml_L_65 rfl (gM_1 τ am MM) rfl rfl (Nat.le_of_ble_eq_true rfl) ⟨by decide, by decide⟩ ⟨by show 300 + 20 * k + 1 ≤ 601024; omega, by show 6000 + 120 * k + 6 ≤ 7293034; omega⟩ (cells' := 300 + 20 * k + 1) (slots' := 6000 + 120 * k + 6) rfl rfl dL_law_411 (fun z2 MM2 H locs hz2 hMM hv hw => ?_)
    have hw := hw.rot.rot
    refine lv_istore (lv' := [(6, .int (iI z2)), (5, .int (iI 0)), (4, .int (iI (5 * (k : Int)))), (3, .ref ao), (2, .ref (am 1)), (1, .ref (ax 155)), (0, .ref b)]) hx hb dL_law_414 hl (by decide) rfl (fun ls hl => ?_)
    refine lv_goto (tgt := 1248) hx hb dL_law_416 (by decide) ?_
    exact NEXT MX1 MM2 g1 _ _ _ _ _ hv hMX hMM hw (lv_sub hl [2, 3, 4, 5, 6] rfl) (by omega) (by omega)
  · skip
    refine lv_istore (lv' := [(5, .int (iI 1)), (4, .int (iI (5 * (k : Int)))), (3, .ref ao), (2, .ref (am 1)), (1, .ref (ax 155)), (0, .ref b)]) hx hb dL_law_396 hl (by decide) rfl (fun ls hl => ?_)
    refine lv_aload_n hx hb dL_law_398 rfl (lv_at hl 3 rfl) ?_
    refine lv_aload_n hx hb dL_law_399 rfl (lv_at hl 5 rfl) ?_
    refine lv_iload hx hb dL_law_400 (lv_at hl 1 rfl) ?_
    refine r_iconst hx hb dL_law_402 ?_
    refine r_iadd (z := 5 * (k : Int) + 1) hx hb dL_law_403 rfl ?_
    refine r_sld hx hb hX hbl hbA hw (by omega) (by omega) (by omega) ey1 dL_law_404 ?_
    refine lv_aload_n hx hb dL_law_405 rfl (lv_at hl 5 rfl) ?_
    refine lv_iload hx hb dL_law_406 (lv_at hl 1 rfl) ?_
    refine r_iconst hx hb dL_law_408 ?_
    refine r_iadd (z := 5 * (k : Int) + 2) hx hb dL_law_409 rfl ?_
    refine r_sld hx hb hX hbl hbA hw (by omega) (by omega) (by omega) ey2 dL_law_410 ?_
    have hw := hw.rot
    refine s_cVi (Wf := WM τ am) (As := [.int (iI y1), .int (iI y2)]) (rest := []) hx hb hml hC hLS hA hw hl.1 (mX12_mourner l D τ am sA sV _ y1 y2 hy1 hy2 MM hMM _ hv) kX12_mourner ml_L_65 rfl (gM_1 τ am MM) rfl rfl (Nat.le_of_ble_eq_true rfl) ⟨by decide, by decide⟩ ⟨by show 300 + 20 * k + 1 ≤ 601024; omega, by show 6000 + 120 * k + 6 ≤ 7293034; omega⟩ (cells' := 300 + 20 * k + 1) (slots' := 6000 + 120 * k + 6) rfl rfl dL_law_411 (fun z3 MM3 H locs hz3 hMM hv hw => ?_)
    have hw := hw.rot.rot
    refine lv_istore (lv' := [(6, .int (iI z3)), (5, .int (iI 1)), (4, .int (iI (5 * (k : Int)))), (3, .ref ao), (2, .ref (am 1)), (1, .ref (ax 155)), (0, .ref b)]) hx hb dL_law_414 hl (by decide) rfl (fun ls hl => ?_)
    refine lv_goto (tgt := 1248) hx hb dL_law_416 (by decide) ?_
    exact NEXT MX1 MM3 g1 _ _ _ _ _ hv hMX hMM hw (lv_sub hl [2, 3, 4, 5, 6] rfl) (by omega) (by omega)
set_option maxHeartbeats 4000000 in
set_option maxRecDepth 100000 in
theorem law_case9 {p : Program} {e : Env} {s : State} {m : MethodId} {below : List Frame} {meth : Method} {c : Code} (l : Launch) (hst : l.stackTraces = false) {b L : Nat} {xs : Nat → Int32} {D : va_G} {τ : Nat → ClassId} {A : Nat → Prop} {sA sV : Nat → Nat} {ax am : Nat → Nat} {ao : Nat} (hx : p.tables.exec = Jvm.exec) (hb : c.code = code) (hml : c.maxLocals = 8) (hC : cx D τ s m #[Value.ref b] RL) (hLS : LK A s s.heap sA sV) (hXX : XX A s) (hA : ∀ q : Nat, s.heap.size ≤ q → A q) (hX : va_X b L xs s s.heap) (hbl : b < s.heap.size) (hbA : ¬ A b) (k : Nat) (hk : k < 512) (hkL : 5 * (k : Int) + 5 ≤ L) (hL : L ≤ 2560)
  (NEXT : ∀ (MX MM : Mem) (g : Int → Int) (H : Heap) (locs : List Loc) (ls : Array Slot) (cc ss : Nat), Rel (k + 1) MX MM → MR MX → MR MM → wS D A s.heap (WX τ ax MX ++ (WM τ am MM ++ [OC τ ao g])) H locs → lv_has ls 8 [(4, .int (iI (5 * (k : Int)))), (3, .ref ao), (2, .ref (am 1)), (1, .ref (ax 155)), (0, .ref b)] → cc ≤ 300 + 20 * (k + 1) → ss ≤ 6000 + 120 * (k + 1) → W p l e room_1 s m #[Value.ref b] below meth c H locs cc ss (lw_Z below #[Value.ref b] s) (F0 m 1248 ls []))
  (MX MM : Mem) (g : Int → Int) (H : Heap) (locs : List Loc) (ls : Array Slot) (hR : Rel k MX MM) (hMX : MR MX) (hMM : MR MM) (hw : wS D A s.heap (WX τ ax MX ++ (WM τ am MM ++ [OC τ ao g])) H locs) (hl : lv_has ls 8 [(4, .int (iI (5 * (k : Int)))), (3, .ref ao), (2, .ref (am 1)), (1, .ref (ax 155)), (0, .ref b)]) : W p l e room_1 s m #[Value.ref b] below meth c H locs (300 + 20 * k) (6000 + 120 * k) (lw_Z below #[Value.ref b] s) (F0 m 419 ls []) := by
  obtain ⟨y1, hy1, ey1⟩ := iI_of (xs (5 * (k : Int) + 1).toNat)
  obtain ⟨y2, hy2, ey2⟩ := iI_of (xs (5 * (k : Int) + 2).toNat)
  obtain ⟨y3, hy3, ey3⟩ := iI_of (xs (5 * (k : Int) + 3).toNat)
  obtain ⟨y4, hy4, ey4⟩ := iI_of (xs (5 * (k : Int) + 4).toNat)
  have hv := Rl_sheet k MX MM y1 y2 y3 y4 hy1 hy2 hy3 hy4 hk hMX hMM hR
  refine lv_aload_n hx hb dL_law_419 rfl (lv_at hl 3 rfl) ?_
  refine lv_aload_n hx hb dL_law_420 rfl (lv_at hl 4 rfl) ?_
  refine lv_iload hx hb dL_law_421 (lv_at hl 0 rfl) ?_
  refine r_iconst hx hb dL_law_423 ?_
  refine r_iadd (z := 5 * (k : Int) + 1) hx hb dL_law_424 rfl ?_
  refine r_sld hx hb hX hbl hbA hw (by omega) (by omega) (by omega) ey1 dL_law_425 ?_
  refine lv_aload_n hx hb dL_law_426 rfl (lv_at hl 4 rfl) ?_
  refine lv_iload hx hb dL_law_427 (lv_at hl 0 rfl) ?_
  refine r_iconst hx hb dL_law_429 ?_
  refine r_iadd (z := 5 * (k : Int) + 2) hx hb dL_law_430 rfl ?_
  refine r_sld hx hb hX hbl hbA hw (by omega) (by omega) (by omega) ey2 dL_law_431 ?_
  refine lv_aload_n hx hb dL_law_432 rfl (lv_at hl 4 rfl) ?_
  refine lv_iload hx hb dL_law_433 (lv_at hl 0 rfl) ?_
  refine r_iconst hx hb dL_law_435 ?_
  refine r_iadd (z := 5 * (k : Int) + 3) hx hb dL_law_436 rfl ?_
  refine r_sld hx hb hX hbl hbA hw (by omega) (by omega) (by omega) ey3 dL_law_437 ?_
  refine lv_aload_n hx hb dL_law_438 rfl (lv_at hl 4 rfl) ?_
  refine lv_iload hx hb dL_law_439 (lv_at hl 0 rfl) ?_
  refine r_iconst hx hb dL_law_441 ?_
  refine r_iadd (z := 5 * (k : Int) + 4) hx hb dL_law_442 rfl ?_
  refine r_sld hx hb hX hbl hbA hw (by omega) (by omega) (by omega) ey4 dL_law_443 ?_
  refine s_cVi (Wf := WX τ ax) (As := [.int (iI y1), .int (iI y2), .int (iI y3), .int (iI y4)]) (rest := []) hx hb hml hC hLS hA hw hl.1 (mX11_sheet l D τ ax sA sV _ y1 y2 y3 y4 hy1 hy2 hy3 hy4 MX hMX _ hv) kX11_sheet ml_L_66 rfl (gX_155 τ ax MX) rfl rfl (Nat.le_of_ble_eq_true rfl) ⟨by decide, by decide⟩ ⟨by show 300 + 20 * k ≤ 601024; omega, by show 6000 + 120 * k ≤ 7293034; omega⟩ (cells' := 300 + 20 * k) (slots' := 6000 + 120 * k) rfl rfl dL_law_444 (fun z1 MX1 H locs hz1 hMX hv hw => ?_)
  refine lv_pop hx hb dL_law_447 rfl ?_
  refine lv_aload_n hx hb dL_law_448 rfl (lv_at hl 2 rfl) ?_
  refine lv_aload_n hx hb dL_law_449 rfl (lv_at hl 4 rfl) ?_
  refine lv_iload hx hb dL_law_450 (lv_at hl 0 rfl) ?_
  refine r_iconst hx hb dL_law_452 ?_
  refine r_iadd (z := 5 * (k : Int) + 1) hx hb dL_law_453 rfl ?_
  refine r_sld hx hb hX hbl hbA hw (by omega) (by omega) (by omega) ey1 dL_law_454 ?_
  refine lv_aload_n hx hb dL_law_455 rfl (lv_at hl 4 rfl) ?_
  refine lv_iload hx hb dL_law_456 (lv_at hl 0 rfl) ?_
  refine r_iconst hx hb dL_law_458 ?_
  refine r_iadd (z := 5 * (k : Int) + 2) hx hb dL_law_459 rfl ?_
  refine r_sld hx hb hX hbl hbA hw (by omega) (by omega) (by omega) ey2 dL_law_460 ?_
  refine lv_aload_n hx hb dL_law_461 rfl (lv_at hl 4 rfl) ?_
  refine lv_iload hx hb dL_law_462 (lv_at hl 0 rfl) ?_
  refine r_iconst hx hb dL_law_464 ?_
  refine r_iadd (z := 5 * (k : Int) + 3) hx hb dL_law_465 rfl ?_
  refine r_sld hx hb hX hbl hbA hw (by omega) (by omega) (by omega) ey3 dL_law_466 ?_
  refine lv_aload_n hx hb dL_law_467 rfl (lv_at hl 4 rfl) ?_
  refine lv_iload hx hb dL_law_468 (lv_at hl 0 rfl) ?_
  refine r_iconst hx hb dL_law_470 ?_
  refine r_iadd (z := 5 * (k : Int) + 4) hx hb dL_law_471 rfl ?_
  refine r_sld hx hb hX hbl hbA hw (by omega) (by omega) (by omega) ey4 dL_law_472 ?_
  have hw := hw.rot
  refine s_cVi (Wf := WM τ am) (As := [.int (iI y1), .int (iI y2), .int (iI y3), .int (iI y4)]) (rest := []) hx hb hml hC hLS hA hw hl.1 (mX12_sheet l D τ am sA sV _ y1 y2 y3 y4 hy1 hy2 hy3 hy4 MM hMM _ hv) kX12_sheet ml_L_70 rfl (gM_1 τ am MM) rfl rfl (Nat.le_of_ble_eq_true rfl) ⟨by decide, by decide⟩ ⟨by show 300 + 20 * k ≤ 601024; omega, by show 6000 + 120 * k ≤ 7293034; omega⟩ (cells' := 300 + 20 * k) (slots' := 6000 + 120 * k) rfl rfl dL_law_473 (fun z2 MM2 H locs hz2 hMM hv hw => ?_)
  have hw := hw.rot.rot
  refine lv_pop hx hb dL_law_476 rfl ?_
  refine lv_goto (tgt := 1248) hx hb dL_law_477 (by decide) ?_
  exact NEXT MX1 MM2 g _ _ _ _ _ hv hMX hMM hw (lv_sub hl [0, 1, 2, 3, 4] rfl) (by omega) (by omega)
set_option maxHeartbeats 4000000 in
set_option maxRecDepth 100000 in
theorem law_case10 {p : Program} {e : Env} {s : State} {m : MethodId} {below : List Frame} {meth : Method} {c : Code} (l : Launch) (hst : l.stackTraces = false) {b L : Nat} {xs : Nat → Int32} {D : va_G} {τ : Nat → ClassId} {A : Nat → Prop} {sA sV : Nat → Nat} {ax am : Nat → Nat} {ao : Nat} (hx : p.tables.exec = Jvm.exec) (hb : c.code = code) (hml : c.maxLocals = 8) (hC : cx D τ s m #[Value.ref b] RL) (hLS : LK A s s.heap sA sV) (hXX : XX A s) (hA : ∀ q : Nat, s.heap.size ≤ q → A q) (hX : va_X b L xs s s.heap) (hbl : b < s.heap.size) (hbA : ¬ A b) (k : Nat) (hk : k < 512) (hkL : 5 * (k : Int) + 5 ≤ L) (hL : L ≤ 2560)
  (NEXT : ∀ (MX MM : Mem) (g : Int → Int) (H : Heap) (locs : List Loc) (ls : Array Slot) (cc ss : Nat), Rel (k + 1) MX MM → MR MX → MR MM → wS D A s.heap (WX τ ax MX ++ (WM τ am MM ++ [OC τ ao g])) H locs → lv_has ls 8 [(4, .int (iI (5 * (k : Int)))), (3, .ref ao), (2, .ref (am 1)), (1, .ref (ax 155)), (0, .ref b)] → cc ≤ 300 + 20 * (k + 1) → ss ≤ 6000 + 120 * (k + 1) → W p l e room_1 s m #[Value.ref b] below meth c H locs cc ss (lw_Z below #[Value.ref b] s) (F0 m 1248 ls []))
  (MX MM : Mem) (g : Int → Int) (H : Heap) (locs : List Loc) (ls : Array Slot) (hR : Rel k MX MM) (hMX : MR MX) (hMM : MR MM) (hw : wS D A s.heap (WX τ ax MX ++ (WM τ am MM ++ [OC τ ao g])) H locs) (hl : lv_has ls 8 [(4, .int (iI (5 * (k : Int)))), (3, .ref ao), (2, .ref (am 1)), (1, .ref (ax 155)), (0, .ref b)]) : W p l e room_1 s m #[Value.ref b] below meth c H locs (300 + 20 * k) (6000 + 120 * k) (lw_Z below #[Value.ref b] s) (F0 m 480 ls []) := by
  obtain ⟨y1, hy1, ey1⟩ := iI_of (xs (5 * (k : Int) + 1).toNat)
  obtain ⟨y2, hy2, ey2⟩ := iI_of (xs (5 * (k : Int) + 2).toNat)
  obtain ⟨y3, hy3, ey3⟩ := iI_of (xs (5 * (k : Int) + 3).toNat)
  obtain ⟨y4, hy4, ey4⟩ := iI_of (xs (5 * (k : Int) + 4).toNat)
  have hv := Rl_steps k MX MM y1 hy1 hk hMX hMM hR
  refine lv_aload_n hx hb dL_law_480 rfl (lv_at hl 3 rfl) ?_
  refine lv_aload_n hx hb dL_law_481 rfl (lv_at hl 4 rfl) ?_
  refine lv_iload hx hb dL_law_482 (lv_at hl 0 rfl) ?_
  refine r_iconst hx hb dL_law_484 ?_
  refine r_iadd (z := 5 * (k : Int) + 1) hx hb dL_law_485 rfl ?_
  refine r_sld hx hb hX hbl hbA hw (by omega) (by omega) (by omega) ey1 dL_law_486 ?_
  refine s_cVi (Wf := WX τ ax) (As := [.int (iI y1)]) (rest := []) hx hb hml hC hLS hA hw hl.1 (mX11_steps l D τ ax sA sV _ y1 hy1 MX hMX _ hv) kX11_steps ml_L_71 rfl (gX_155 τ ax MX) rfl rfl (Nat.le_of_ble_eq_true rfl) ⟨by decide, by decide⟩ ⟨by show 300 + 20 * k ≤ 601024; omega, by show 6000 + 120 * k ≤ 7293034; omega⟩ (cells' := 300 + 20 * k) (slots' := 6000 + 120 * k) rfl rfl dL_law_487 (fun z1 MX1 H locs hz1 hMX hv hw => ?_)
  refine lv_pop hx hb dL_law_490 rfl ?_
  refine lv_aload_n hx hb dL_law_491 rfl (lv_at hl 2 rfl) ?_
  refine lv_aload_n hx hb dL_law_492 rfl (lv_at hl 4 rfl) ?_
  refine lv_iload hx hb dL_law_493 (lv_at hl 0 rfl) ?_
  refine r_iconst hx hb dL_law_495 ?_
  refine r_iadd (z := 5 * (k : Int) + 1) hx hb dL_law_496 rfl ?_
  refine r_sld hx hb hX hbl hbA hw (by omega) (by omega) (by omega) ey1 dL_law_497 ?_
  have hw := hw.rot
  refine s_cVi (Wf := WM τ am) (As := [.int (iI y1)]) (rest := []) hx hb hml hC hLS hA hw hl.1 (mX12_steps l D τ am sA sV _ y1 hy1 MM hMM _ hv) kX12_steps ml_L_74 rfl (gM_1 τ am MM) rfl rfl (Nat.le_of_ble_eq_true rfl) ⟨by decide, by decide⟩ ⟨by show 300 + 20 * k ≤ 601024; omega, by show 6000 + 120 * k ≤ 7293034; omega⟩ (cells' := 300 + 20 * k) (slots' := 6000 + 120 * k) rfl rfl dL_law_498 (fun z2 MM2 H locs hz2 hMM hv hw => ?_)
  have hw := hw.rot.rot
  refine lv_pop hx hb dL_law_501 rfl ?_
  refine lv_goto (tgt := 1248) hx hb dL_law_502 (by decide) ?_
  exact NEXT MX1 MM2 g _ _ _ _ _ hv hMX hMM hw (lv_sub hl [0, 1, 2, 3, 4] rfl) (by omega) (by omega)
set_option maxHeartbeats 4000000 in
set_option maxRecDepth 100000 in
theorem law_case11 {p : Program} {e : Env} {s : State} {m : MethodId} {below : List Frame} {meth : Method} {c : Code} (l : Launch) (hst : l.stackTraces = false) {b L : Nat} {xs : Nat → Int32} {D : va_G} {τ : Nat → ClassId} {A : Nat → Prop} {sA sV : Nat → Nat} {ax am : Nat → Nat} {ao : Nat} (hx : p.tables.exec = Jvm.exec) (hb : c.code = code) (hml : c.maxLocals = 8) (hC : cx D τ s m #[Value.ref b] RL) (hLS : LK A s s.heap sA sV) (hXX : XX A s) (hA : ∀ q : Nat, s.heap.size ≤ q → A q) (hX : va_X b L xs s s.heap) (hbl : b < s.heap.size) (hbA : ¬ A b) (k : Nat) (hk : k < 512) (hkL : 5 * (k : Int) + 5 ≤ L) (hL : L ≤ 2560)
  (NEXT : ∀ (MX MM : Mem) (g : Int → Int) (H : Heap) (locs : List Loc) (ls : Array Slot) (cc ss : Nat), Rel (k + 1) MX MM → MR MX → MR MM → wS D A s.heap (WX τ ax MX ++ (WM τ am MM ++ [OC τ ao g])) H locs → lv_has ls 8 [(4, .int (iI (5 * (k : Int)))), (3, .ref ao), (2, .ref (am 1)), (1, .ref (ax 155)), (0, .ref b)] → cc ≤ 300 + 20 * (k + 1) → ss ≤ 6000 + 120 * (k + 1) → W p l e room_1 s m #[Value.ref b] below meth c H locs cc ss (lw_Z below #[Value.ref b] s) (F0 m 1248 ls []))
  (MX MM : Mem) (g : Int → Int) (H : Heap) (locs : List Loc) (ls : Array Slot) (hR : Rel k MX MM) (hMX : MR MX) (hMM : MR MM) (hw : wS D A s.heap (WX τ ax MX ++ (WM τ am MM ++ [OC τ ao g])) H locs) (hl : lv_has ls 8 [(4, .int (iI (5 * (k : Int)))), (3, .ref ao), (2, .ref (am 1)), (1, .ref (ax 155)), (0, .ref b)]) : W p l e room_1 s m #[Value.ref b] below meth c H locs (300 + 20 * k) (6000 + 120 * k) (lw_Z below #[Value.ref b] s) (F0 m 505 ls []) := by
  obtain ⟨y1, hy1, ey1⟩ := iI_of (xs (5 * (k : Int) + 1).toNat)
  obtain ⟨y2, hy2, ey2⟩ := iI_of (xs (5 * (k : Int) + 2).toNat)
  obtain ⟨y3, hy3, ey3⟩ := iI_of (xs (5 * (k : Int) + 3).toNat)
  obtain ⟨y4, hy4, ey4⟩ := iI_of (xs (5 * (k : Int) + 4).toNat)
  have hv := Rl_turnsTo k MX MM y1 hy1 hk hMX hMM hR
  refine lv_aload_n hx hb dL_law_505 rfl (lv_at hl 3 rfl) ?_
  refine lv_aload_n hx hb dL_law_506 rfl (lv_at hl 4 rfl) ?_
  refine lv_iload hx hb dL_law_507 (lv_at hl 0 rfl) ?_
  refine r_iconst hx hb dL_law_509 ?_
  refine r_iadd (z := 5 * (k : Int) + 1) hx hb dL_law_510 rfl ?_
  refine r_sld hx hb hX hbl hbA hw (by omega) (by omega) (by omega) ey1 dL_law_511 ?_
  refine s_cVi (Wf := WX τ ax) (As := [.int (iI y1)]) (rest := []) hx hb hml hC hLS hA hw hl.1 (mX11_turnsTo l D τ ax sA sV _ y1 hy1 MX hMX _ hv) kX11_turnsTo ml_L_75 rfl (gX_155 τ ax MX) rfl rfl (Nat.le_of_ble_eq_true rfl) ⟨by decide, by decide⟩ ⟨by show 300 + 20 * k ≤ 601024; omega, by show 6000 + 120 * k ≤ 7293034; omega⟩ (cells' := 300 + 20 * k) (slots' := 6000 + 120 * k) rfl rfl dL_law_512 (fun z1 MX1 H locs hz1 hMX hv hw => ?_)
  refine lv_pop hx hb dL_law_515 rfl ?_
  refine lv_aload_n hx hb dL_law_516 rfl (lv_at hl 2 rfl) ?_
  refine lv_aload_n hx hb dL_law_517 rfl (lv_at hl 4 rfl) ?_
  refine lv_iload hx hb dL_law_518 (lv_at hl 0 rfl) ?_
  refine r_iconst hx hb dL_law_520 ?_
  refine r_iadd (z := 5 * (k : Int) + 1) hx hb dL_law_521 rfl ?_
  refine r_sld hx hb hX hbl hbA hw (by omega) (by omega) (by omega) ey1 dL_law_522 ?_
  have hw := hw.rot
  refine s_cVi (Wf := WM τ am) (As := [.int (iI y1)]) (rest := []) hx hb hml hC hLS hA hw hl.1 (mX12_turnsTo l D τ am sA sV _ y1 hy1 MM hMM _ hv) kX12_turnsTo ml_L_78 rfl (gM_1 τ am MM) rfl rfl (Nat.le_of_ble_eq_true rfl) ⟨by decide, by decide⟩ ⟨by show 300 + 20 * k ≤ 601024; omega, by show 6000 + 120 * k ≤ 7293034; omega⟩ (cells' := 300 + 20 * k) (slots' := 6000 + 120 * k) rfl rfl dL_law_523 (fun z2 MM2 H locs hz2 hMM hv hw => ?_)
  have hw := hw.rot.rot
  refine lv_pop hx hb dL_law_526 rfl ?_
  refine lv_goto (tgt := 1248) hx hb dL_law_527 (by decide) ?_
  exact NEXT MX1 MM2 g _ _ _ _ _ hv hMX hMM hw (lv_sub hl [0, 1, 2, 3, 4] rfl) (by omega) (by omega)
set_option maxHeartbeats 4000000 in
set_option maxRecDepth 100000 in
theorem law_case12 {p : Program} {e : Env} {s : State} {m : MethodId} {below : List Frame} {meth : Method} {c : Code} (l : Launch) (hst : l.stackTraces = false) {b L : Nat} {xs : Nat → Int32} {D : va_G} {τ : Nat → ClassId} {A : Nat → Prop} {sA sV : Nat → Nat} {ax am : Nat → Nat} {ao : Nat} (hx : p.tables.exec = Jvm.exec) (hb : c.code = code) (hml : c.maxLocals = 8) (hC : cx D τ s m #[Value.ref b] RL) (hLS : LK A s s.heap sA sV) (hXX : XX A s) (hA : ∀ q : Nat, s.heap.size ≤ q → A q) (hX : va_X b L xs s s.heap) (hbl : b < s.heap.size) (hbA : ¬ A b) (k : Nat) (hk : k < 512) (hkL : 5 * (k : Int) + 5 ≤ L) (hL : L ≤ 2560)
  (NEXT : ∀ (MX MM : Mem) (g : Int → Int) (H : Heap) (locs : List Loc) (ls : Array Slot) (cc ss : Nat), Rel (k + 1) MX MM → MR MX → MR MM → wS D A s.heap (WX τ ax MX ++ (WM τ am MM ++ [OC τ ao g])) H locs → lv_has ls 8 [(4, .int (iI (5 * (k : Int)))), (3, .ref ao), (2, .ref (am 1)), (1, .ref (ax 155)), (0, .ref b)] → cc ≤ 300 + 20 * (k + 1) → ss ≤ 6000 + 120 * (k + 1) → W p l e room_1 s m #[Value.ref b] below meth c H locs cc ss (lw_Z below #[Value.ref b] s) (F0 m 1248 ls []))
  (MX MM : Mem) (g : Int → Int) (H : Heap) (locs : List Loc) (ls : Array Slot) (hR : Rel k MX MM) (hMX : MR MX) (hMM : MR MM) (hw : wS D A s.heap (WX τ ax MX ++ (WM τ am MM ++ [OC τ ao g])) H locs) (hl : lv_has ls 8 [(4, .int (iI (5 * (k : Int)))), (3, .ref ao), (2, .ref (am 1)), (1, .ref (ax 155)), (0, .ref b)]) : W p l e room_1 s m #[Value.ref b] below meth c H locs (300 + 20 * k) (6000 + 120 * k) (lw_Z below #[Value.ref b] s) (F0 m 530 ls []) := by
  obtain ⟨y1, hy1, ey1⟩ := iI_of (xs (5 * (k : Int) + 1).toNat)
  obtain ⟨y2, hy2, ey2⟩ := iI_of (xs (5 * (k : Int) + 2).toNat)
  obtain ⟨y3, hy3, ey3⟩ := iI_of (xs (5 * (k : Int) + 3).toNat)
  obtain ⟨y4, hy4, ey4⟩ := iI_of (xs (5 * (k : Int) + 4).toNat)
  have hv := Rl_pushes k MX MM y1 y2 hy1 hy2 hk hMX hMM hR
  refine lv_aload_n hx hb dL_law_530 rfl (lv_at hl 3 rfl) ?_
  refine lv_aload_n hx hb dL_law_531 rfl (lv_at hl 4 rfl) ?_
  refine lv_iload hx hb dL_law_532 (lv_at hl 0 rfl) ?_
  refine r_iconst hx hb dL_law_534 ?_
  refine r_iadd (z := 5 * (k : Int) + 1) hx hb dL_law_535 rfl ?_
  refine r_sld hx hb hX hbl hbA hw (by omega) (by omega) (by omega) ey1 dL_law_536 ?_
  refine lv_aload_n hx hb dL_law_537 rfl (lv_at hl 4 rfl) ?_
  refine lv_iload hx hb dL_law_538 (lv_at hl 0 rfl) ?_
  refine r_iconst hx hb dL_law_540 ?_
  refine r_iadd (z := 5 * (k : Int) + 2) hx hb dL_law_541 rfl ?_
  refine r_sld hx hb hX hbl hbA hw (by omega) (by omega) (by omega) ey2 dL_law_542 ?_
  refine s_cVi (Wf := WX τ ax) (As := [.int (iI y1), .int (iI y2)]) (rest := []) hx hb hml hC hLS hA hw hl.1 (mX11_pushes l D τ ax sA sV _ y1 y2 hy1 hy2 MX hMX _ hv) kX11_pushes ml_L_79 rfl (gX_155 τ ax MX) rfl rfl (Nat.le_of_ble_eq_true rfl) ⟨by decide, by decide⟩ ⟨by show 300 + 20 * k ≤ 601024; omega, by show 6000 + 120 * k ≤ 7293034; omega⟩ (cells' := 300 + 20 * k) (slots' := 6000 + 120 * k) rfl rfl dL_law_543 (fun z1 MX1 H locs hz1 hMX hv hw => ?_)
  refine lv_pop hx hb dL_law_546 rfl ?_
  refine lv_aload_n hx hb dL_law_547 rfl (lv_at hl 2 rfl) ?_
  refine lv_aload_n hx hb dL_law_548 rfl (lv_at hl 4 rfl) ?_
  refine lv_iload hx hb dL_law_549 (lv_at hl 0 rfl) ?_
  refine r_iconst hx hb dL_law_551 ?_
  refine r_iadd (z := 5 * (k : Int) + 1) hx hb dL_law_552 rfl ?_
  refine r_sld hx hb hX hbl hbA hw (by omega) (by omega) (by omega) ey1 dL_law_553 ?_
  refine lv_aload_n hx hb dL_law_554 rfl (lv_at hl 4 rfl) ?_
  refine lv_iload hx hb dL_law_555 (lv_at hl 0 rfl) ?_
  refine r_iconst hx hb dL_law_557 ?_
  refine r_iadd (z := 5 * (k : Int) + 2) hx hb dL_law_558 rfl ?_
  refine r_sld hx hb hX hbl hbA hw (by omega) (by omega) (by omega) ey2 dL_law_559 ?_
  have hw := hw.rot
  refine s_cVi (Wf := WM τ am) (As := [.int (iI y1), .int (iI y2)]) (rest := []) hx hb hml hC hLS hA hw hl.1 (mX12_pushes l D τ am sA sV _ y1 y2 hy1 hy2 MM hMM _ hv) kX12_pushes ml_L_82 rfl (gM_1 τ am MM) rfl rfl (Nat.le_of_ble_eq_true rfl) ⟨by decide, by decide⟩ ⟨by show 300 + 20 * k ≤ 601024; omega, by show 6000 + 120 * k ≤ 7293034; omega⟩ (cells' := 300 + 20 * k) (slots' := 6000 + 120 * k) rfl rfl dL_law_560 (fun z2 MM2 H locs hz2 hMM hv hw => ?_)
  have hw := hw.rot.rot
  refine lv_pop hx hb dL_law_563 rfl ?_
  refine lv_goto (tgt := 1248) hx hb dL_law_564 (by decide) ?_
  exact NEXT MX1 MM2 g _ _ _ _ _ hv hMX hMM hw (lv_sub hl [0, 1, 2, 3, 4] rfl) (by omega) (by omega)
set_option maxHeartbeats 4000000 in
set_option maxRecDepth 100000 in
theorem law_case13 {p : Program} {e : Env} {s : State} {m : MethodId} {below : List Frame} {meth : Method} {c : Code} (l : Launch) (hst : l.stackTraces = false) {b L : Nat} {xs : Nat → Int32} {D : va_G} {τ : Nat → ClassId} {A : Nat → Prop} {sA sV : Nat → Nat} {ax am : Nat → Nat} {ao : Nat} (hx : p.tables.exec = Jvm.exec) (hb : c.code = code) (hml : c.maxLocals = 8) (hC : cx D τ s m #[Value.ref b] RL) (hLS : LK A s s.heap sA sV) (hXX : XX A s) (hA : ∀ q : Nat, s.heap.size ≤ q → A q) (hX : va_X b L xs s s.heap) (hbl : b < s.heap.size) (hbA : ¬ A b) (k : Nat) (hk : k < 512) (hkL : 5 * (k : Int) + 5 ≤ L) (hL : L ≤ 2560)
  (NEXT : ∀ (MX MM : Mem) (g : Int → Int) (H : Heap) (locs : List Loc) (ls : Array Slot) (cc ss : Nat), Rel (k + 1) MX MM → MR MX → MR MM → wS D A s.heap (WX τ ax MX ++ (WM τ am MM ++ [OC τ ao g])) H locs → lv_has ls 8 [(4, .int (iI (5 * (k : Int)))), (3, .ref ao), (2, .ref (am 1)), (1, .ref (ax 155)), (0, .ref b)] → cc ≤ 300 + 20 * (k + 1) → ss ≤ 6000 + 120 * (k + 1) → W p l e room_1 s m #[Value.ref b] below meth c H locs cc ss (lw_Z below #[Value.ref b] s) (F0 m 1248 ls []))
  (MX MM : Mem) (g : Int → Int) (H : Heap) (locs : List Loc) (ls : Array Slot) (hR : Rel k MX MM) (hMX : MR MX) (hMM : MR MM) (hw : wS D A s.heap (WX τ ax MX ++ (WM τ am MM ++ [OC τ ao g])) H locs) (hl : lv_has ls 8 [(4, .int (iI (5 * (k : Int)))), (3, .ref ao), (2, .ref (am 1)), (1, .ref (ax 155)), (0, .ref b)]) : W p l e room_1 s m #[Value.ref b] below meth c H locs (300 + 20 * k) (6000 + 120 * k) (lw_Z below #[Value.ref b] s) (F0 m 567 ls []) := by
  obtain ⟨y1, hy1, ey1⟩ := iI_of (xs (5 * (k : Int) + 1).toNat)
  obtain ⟨y2, hy2, ey2⟩ := iI_of (xs (5 * (k : Int) + 2).toNat)
  obtain ⟨y3, hy3, ey3⟩ := iI_of (xs (5 * (k : Int) + 3).toNat)
  obtain ⟨y4, hy4, ey4⟩ := iI_of (xs (5 * (k : Int) + 4).toNat)
  have hv := Rl_swaps k MX MM y1 y2 hy1 hy2 hk hMX hMM hR
  refine lv_aload_n hx hb dL_law_567 rfl (lv_at hl 3 rfl) ?_
  refine lv_aload_n hx hb dL_law_568 rfl (lv_at hl 4 rfl) ?_
  refine lv_iload hx hb dL_law_569 (lv_at hl 0 rfl) ?_
  refine r_iconst hx hb dL_law_571 ?_
  refine r_iadd (z := 5 * (k : Int) + 1) hx hb dL_law_572 rfl ?_
  refine r_sld hx hb hX hbl hbA hw (by omega) (by omega) (by omega) ey1 dL_law_573 ?_
  refine lv_aload_n hx hb dL_law_574 rfl (lv_at hl 4 rfl) ?_
  refine lv_iload hx hb dL_law_575 (lv_at hl 0 rfl) ?_
  refine r_iconst hx hb dL_law_577 ?_
  refine r_iadd (z := 5 * (k : Int) + 2) hx hb dL_law_578 rfl ?_
  refine r_sld hx hb hX hbl hbA hw (by omega) (by omega) (by omega) ey2 dL_law_579 ?_
  refine s_cVi (Wf := WX τ ax) (As := [.int (iI y1), .int (iI y2)]) (rest := []) hx hb hml hC hLS hA hw hl.1 (mX11_swaps l D τ ax sA sV _ y1 y2 hy1 hy2 MX hMX _ hv) kX11_swaps ml_L_83 rfl (gX_155 τ ax MX) rfl rfl (Nat.le_of_ble_eq_true rfl) ⟨by decide, by decide⟩ ⟨by show 300 + 20 * k ≤ 601024; omega, by show 6000 + 120 * k ≤ 7293034; omega⟩ (cells' := 300 + 20 * k) (slots' := 6000 + 120 * k) rfl rfl dL_law_580 (fun z1 MX1 H locs hz1 hMX hv hw => ?_)
  refine lv_pop hx hb dL_law_583 rfl ?_
  refine lv_aload_n hx hb dL_law_584 rfl (lv_at hl 2 rfl) ?_
  refine lv_aload_n hx hb dL_law_585 rfl (lv_at hl 4 rfl) ?_
  refine lv_iload hx hb dL_law_586 (lv_at hl 0 rfl) ?_
  refine r_iconst hx hb dL_law_588 ?_
  refine r_iadd (z := 5 * (k : Int) + 1) hx hb dL_law_589 rfl ?_
  refine r_sld hx hb hX hbl hbA hw (by omega) (by omega) (by omega) ey1 dL_law_590 ?_
  refine lv_aload_n hx hb dL_law_591 rfl (lv_at hl 4 rfl) ?_
  refine lv_iload hx hb dL_law_592 (lv_at hl 0 rfl) ?_
  refine r_iconst hx hb dL_law_594 ?_
  refine r_iadd (z := 5 * (k : Int) + 2) hx hb dL_law_595 rfl ?_
  refine r_sld hx hb hX hbl hbA hw (by omega) (by omega) (by omega) ey2 dL_law_596 ?_
  have hw := hw.rot
  refine s_cVi (Wf := WM τ am) (As := [.int (iI y1), .int (iI y2)]) (rest := []) hx hb hml hC hLS hA hw hl.1 (mX12_swaps l D τ am sA sV _ y1 y2 hy1 hy2 MM hMM _ hv) kX12_swaps ml_L_86 rfl (gM_1 τ am MM) rfl rfl (Nat.le_of_ble_eq_true rfl) ⟨by decide, by decide⟩ ⟨by show 300 + 20 * k ≤ 601024; omega, by show 6000 + 120 * k ≤ 7293034; omega⟩ (cells' := 300 + 20 * k) (slots' := 6000 + 120 * k) rfl rfl dL_law_597 (fun z2 MM2 H locs hz2 hMM hv hw => ?_)
  have hw := hw.rot.rot
  refine lv_pop hx hb dL_law_600 rfl ?_
  refine lv_goto (tgt := 1248) hx hb dL_law_601 (by decide) ?_
  exact NEXT MX1 MM2 g _ _ _ _ _ hv hMX hMM hw (lv_sub hl [0, 1, 2, 3, 4] rfl) (by omega) (by omega)
set_option maxHeartbeats 4000000 in
set_option maxRecDepth 100000 in
theorem law_case14 {p : Program} {e : Env} {s : State} {m : MethodId} {below : List Frame} {meth : Method} {c : Code} (l : Launch) (hst : l.stackTraces = false) {b L : Nat} {xs : Nat → Int32} {D : va_G} {τ : Nat → ClassId} {A : Nat → Prop} {sA sV : Nat → Nat} {ax am : Nat → Nat} {ao : Nat} (hx : p.tables.exec = Jvm.exec) (hb : c.code = code) (hml : c.maxLocals = 8) (hC : cx D τ s m #[Value.ref b] RL) (hLS : LK A s s.heap sA sV) (hXX : XX A s) (hA : ∀ q : Nat, s.heap.size ≤ q → A q) (hX : va_X b L xs s s.heap) (hbl : b < s.heap.size) (hbA : ¬ A b) (k : Nat) (hk : k < 512) (hkL : 5 * (k : Int) + 5 ≤ L) (hL : L ≤ 2560)
  (NEXT : ∀ (MX MM : Mem) (g : Int → Int) (H : Heap) (locs : List Loc) (ls : Array Slot) (cc ss : Nat), Rel (k + 1) MX MM → MR MX → MR MM → wS D A s.heap (WX τ ax MX ++ (WM τ am MM ++ [OC τ ao g])) H locs → lv_has ls 8 [(4, .int (iI (5 * (k : Int)))), (3, .ref ao), (2, .ref (am 1)), (1, .ref (ax 155)), (0, .ref b)] → cc ≤ 300 + 20 * (k + 1) → ss ≤ 6000 + 120 * (k + 1) → W p l e room_1 s m #[Value.ref b] below meth c H locs cc ss (lw_Z below #[Value.ref b] s) (F0 m 1248 ls []))
  (MX MM : Mem) (g : Int → Int) (H : Heap) (locs : List Loc) (ls : Array Slot) (hR : Rel k MX MM) (hMX : MR MX) (hMM : MR MM) (hw : wS D A s.heap (WX τ ax MX ++ (WM τ am MM ++ [OC τ ao g])) H locs) (hl : lv_has ls 8 [(4, .int (iI (5 * (k : Int)))), (3, .ref ao), (2, .ref (am 1)), (1, .ref (ax 155)), (0, .ref b)]) : W p l e room_1 s m #[Value.ref b] below meth c H locs (300 + 20 * k) (6000 + 120 * k) (lw_Z below #[Value.ref b] s) (F0 m 604 ls []) := by
  obtain ⟨y1, hy1, ey1⟩ := iI_of (xs (5 * (k : Int) + 1).toNat)
  obtain ⟨y2, hy2, ey2⟩ := iI_of (xs (5 * (k : Int) + 2).toNat)
  obtain ⟨y3, hy3, ey3⟩ := iI_of (xs (5 * (k : Int) + 3).toNat)
  obtain ⟨y4, hy4, ey4⟩ := iI_of (xs (5 * (k : Int) + 4).toNat)
  have hv := Rl_hour k MX MM   hk hMX hMM hR
  refine lv_aload_n hx hb dL_law_604 rfl (lv_at hl 3 rfl) ?_
  refine s_cVi (Wf := WX τ ax) (As := []) (rest := []) hx hb hml hC hLS hA hw hl.1 (mX11_hour l D τ ax sA sV _   MX hMX _ hv) kX11_hour ml_L_87 rfl (gX_155 τ ax MX) rfl rfl (Nat.le_of_ble_eq_true rfl) ⟨by decide, by decide⟩ ⟨by show 300 + 20 * k ≤ 601024; omega, by show 6000 + 120 * k ≤ 7293034; omega⟩ (cells' := 300 + 20 * k) (slots' := 6000 + 120 * k) rfl rfl dL_law_605 (fun z1 MX1 H locs hz1 hMX hv hw => ?_)
  refine lv_pop hx hb dL_law_608 rfl ?_
  refine lv_aload_n hx hb dL_law_609 rfl (lv_at hl 2 rfl) ?_
  have hw := hw.rot
  refine s_cVi (Wf := WM τ am) (As := []) (rest := []) hx hb hml hC hLS hA hw hl.1 (mX12_hour l D τ am sA sV _   MM hMM _ hv) kX12_hour ml_L_90 rfl (gM_1 τ am MM) rfl rfl (Nat.le_of_ble_eq_true rfl) ⟨by decide, by decide⟩ ⟨by show 300 + 20 * k ≤ 601024; omega, by show 6000 + 120 * k ≤ 7293034; omega⟩ (cells' := 300 + 20 * k) (slots' := 6000 + 120 * k) rfl rfl dL_law_610 (fun z2 MM2 H locs hz2 hMM hv hw => ?_)
  have hw := hw.rot.rot
  refine lv_pop hx hb dL_law_613 rfl ?_
  refine lv_goto (tgt := 1248) hx hb dL_law_614 (by decide) ?_
  exact NEXT MX1 MM2 g _ _ _ _ _ hv hMX hMM hw (lv_sub hl [0, 1, 2, 3, 4] rfl) (by omega) (by omega)
set_option maxHeartbeats 4000000 in
set_option maxRecDepth 100000 in
theorem law_case15 {p : Program} {e : Env} {s : State} {m : MethodId} {below : List Frame} {meth : Method} {c : Code} (l : Launch) (hst : l.stackTraces = false) {b L : Nat} {xs : Nat → Int32} {D : va_G} {τ : Nat → ClassId} {A : Nat → Prop} {sA sV : Nat → Nat} {ax am : Nat → Nat} {ao : Nat} (hx : p.tables.exec = Jvm.exec) (hb : c.code = code) (hml : c.maxLocals = 8) (hC : cx D τ s m #[Value.ref b] RL) (hLS : LK A s s.heap sA sV) (hXX : XX A s) (hA : ∀ q : Nat, s.heap.size ≤ q → A q) (hX : va_X b L xs s s.heap) (hbl : b < s.heap.size) (hbA : ¬ A b) (k : Nat) (hk : k < 512) (hkL : 5 * (k : Int) + 5 ≤ L) (hL : L ≤ 2560)
  (NEXT : ∀ (MX MM : Mem) (g : Int → Int) (H : Heap) (locs : List Loc) (ls : Array Slot) (cc ss : Nat), Rel (k + 1) MX MM → MR MX → MR MM → wS D A s.heap (WX τ ax MX ++ (WM τ am MM ++ [OC τ ao g])) H locs → lv_has ls 8 [(4, .int (iI (5 * (k : Int)))), (3, .ref ao), (2, .ref (am 1)), (1, .ref (ax 155)), (0, .ref b)] → cc ≤ 300 + 20 * (k + 1) → ss ≤ 6000 + 120 * (k + 1) → W p l e room_1 s m #[Value.ref b] below meth c H locs cc ss (lw_Z below #[Value.ref b] s) (F0 m 1248 ls []))
  (MX MM : Mem) (g : Int → Int) (H : Heap) (locs : List Loc) (ls : Array Slot) (hR : Rel k MX MM) (hMX : MR MX) (hMM : MR MM) (hw : wS D A s.heap (WX τ ax MX ++ (WM τ am MM ++ [OC τ ao g])) H locs) (hl : lv_has ls 8 [(4, .int (iI (5 * (k : Int)))), (3, .ref ao), (2, .ref (am 1)), (1, .ref (ax 155)), (0, .ref b)]) : W p l e room_1 s m #[Value.ref b] below meth c H locs (300 + 20 * k) (6000 + 120 * k) (lw_Z below #[Value.ref b] s) (F0 m 617 ls []) := by
  obtain ⟨y1, hy1, ey1⟩ := iI_of (xs (5 * (k : Int) + 1).toNat)
  obtain ⟨y2, hy2, ey2⟩ := iI_of (xs (5 * (k : Int) + 2).toNat)
  obtain ⟨y3, hy3, ey3⟩ := iI_of (xs (5 * (k : Int) + 3).toNat)
  obtain ⟨y4, hy4, ey4⟩ := iI_of (xs (5 * (k : Int) + 4).toNat)
  have hv := Rl_undo k MX MM   hk hMX hMM hR
  refine lv_aload_n hx hb dL_law_617 rfl (lv_at hl 3 rfl) ?_
  refine s_cVi (Wf := WX τ ax) (As := []) (rest := []) hx hb hml hC hLS hA hw hl.1 (mX11_undo l D τ ax sA sV _   MX hMX _ hv) kX11_undo ml_L_91 rfl (gX_155 τ ax MX) rfl rfl (Nat.le_of_ble_eq_true rfl) ⟨by decide, by decide⟩ ⟨by show 300 + 20 * k ≤ 601024; omega, by show 6000 + 120 * k ≤ 7293034; omega⟩ (cells' := 300 + 20 * k) (slots' := 6000 + 120 * k) rfl rfl dL_law_618 (fun z1 MX1 H locs hz1 hMX hv hw => ?_)
  refine lv_pop hx hb dL_law_621 rfl ?_
  refine lv_aload_n hx hb dL_law_622 rfl (lv_at hl 2 rfl) ?_
  have hw := hw.rot
  refine s_cVi (Wf := WM τ am) (As := []) (rest := []) hx hb hml hC hLS hA hw hl.1 (mX12_undo l D τ am sA sV _   MM hMM _ hv) kX12_undo ml_L_94 rfl (gM_1 τ am MM) rfl rfl (Nat.le_of_ble_eq_true rfl) ⟨by decide, by decide⟩ ⟨by show 300 + 20 * k ≤ 601024; omega, by show 6000 + 120 * k ≤ 7293034; omega⟩ (cells' := 300 + 20 * k) (slots' := 6000 + 120 * k) rfl rfl dL_law_623 (fun z2 MM2 H locs hz2 hMM hv hw => ?_)
  have hw := hw.rot.rot
  refine lv_pop hx hb dL_law_626 rfl ?_
  refine lv_goto (tgt := 1248) hx hb dL_law_627 (by decide) ?_
  exact NEXT MX1 MM2 g _ _ _ _ _ hv hMX hMM hw (lv_sub hl [0, 1, 2, 3, 4] rfl) (by omega) (by omega)
set_option maxHeartbeats 4000000 in
set_option maxRecDepth 100000 in
theorem law_case16 {p : Program} {e : Env} {s : State} {m : MethodId} {below : List Frame} {meth : Method} {c : Code} (l : Launch) (hst : l.stackTraces = false) {b L : Nat} {xs : Nat → Int32} {D : va_G} {τ : Nat → ClassId} {A : Nat → Prop} {sA sV : Nat → Nat} {ax am : Nat → Nat} {ao : Nat} (hx : p.tables.exec = Jvm.exec) (hb : c.code = code) (hml : c.maxLocals = 8) (hC : cx D τ s m #[Value.ref b] RL) (hLS : LK A s s.heap sA sV) (hXX : XX A s) (hA : ∀ q : Nat, s.heap.size ≤ q → A q) (hX : va_X b L xs s s.heap) (hbl : b < s.heap.size) (hbA : ¬ A b) (k : Nat) (hk : k < 512) (hkL : 5 * (k : Int) + 5 ≤ L) (hL : L ≤ 2560)
  (NEXT : ∀ (MX MM : Mem) (g : Int → Int) (H : Heap) (locs : List Loc) (ls : Array Slot) (cc ss : Nat), Rel (k + 1) MX MM → MR MX → MR MM → wS D A s.heap (WX τ ax MX ++ (WM τ am MM ++ [OC τ ao g])) H locs → lv_has ls 8 [(4, .int (iI (5 * (k : Int)))), (3, .ref ao), (2, .ref (am 1)), (1, .ref (ax 155)), (0, .ref b)] → cc ≤ 300 + 20 * (k + 1) → ss ≤ 6000 + 120 * (k + 1) → W p l e room_1 s m #[Value.ref b] below meth c H locs cc ss (lw_Z below #[Value.ref b] s) (F0 m 1248 ls []))
  (MX MM : Mem) (g : Int → Int) (H : Heap) (locs : List Loc) (ls : Array Slot) (hR : Rel k MX MM) (hMX : MR MX) (hMM : MR MM) (hw : wS D A s.heap (WX τ ax MX ++ (WM τ am MM ++ [OC τ ao g])) H locs) (hl : lv_has ls 8 [(4, .int (iI (5 * (k : Int)))), (3, .ref ao), (2, .ref (am 1)), (1, .ref (ax 155)), (0, .ref b)]) : W p l e room_1 s m #[Value.ref b] below meth c H locs (300 + 20 * k) (6000 + 120 * k) (lw_Z below #[Value.ref b] s) (F0 m 630 ls []) := by
  obtain ⟨y1, hy1, ey1⟩ := iI_of (xs (5 * (k : Int) + 1).toNat)
  obtain ⟨y2, hy2, ey2⟩ := iI_of (xs (5 * (k : Int) + 2).toNat)
  obtain ⟨y3, hy3, ey3⟩ := iI_of (xs (5 * (k : Int) + 3).toNat)
  obtain ⟨y4, hy4, ey4⟩ := iI_of (xs (5 * (k : Int) + 4).toNat)
  have hv := Rl_line k MX MM   hk hMX hMM hR
  refine lv_aload_n hx hb dL_law_630 rfl (lv_at hl 3 rfl) ?_
  refine s_cVi (Wf := WX τ ax) (As := []) (rest := []) hx hb hml hC hLS hA hw hl.1 (mX11_line l D τ ax sA sV _   MX hMX _ hv) kX11_line ml_L_95 rfl (gX_155 τ ax MX) rfl rfl (Nat.le_of_ble_eq_true rfl) ⟨by decide, by decide⟩ ⟨by show 300 + 20 * k ≤ 601024; omega, by show 6000 + 120 * k ≤ 7293034; omega⟩ (cells' := 300 + 20 * k) (slots' := 6000 + 120 * k) rfl rfl dL_law_631 (fun z1 MX1 H locs hz1 hMX hv hw => ?_)
  refine lv_pop hx hb dL_law_634 rfl ?_
  refine lv_aload_n hx hb dL_law_635 rfl (lv_at hl 2 rfl) ?_
  have hw := hw.rot
  refine s_cVi (Wf := WM τ am) (As := []) (rest := []) hx hb hml hC hLS hA hw hl.1 (mX12_line l D τ am sA sV _   MM hMM _ hv) kX12_line ml_L_98 rfl (gM_1 τ am MM) rfl rfl (Nat.le_of_ble_eq_true rfl) ⟨by decide, by decide⟩ ⟨by show 300 + 20 * k ≤ 601024; omega, by show 6000 + 120 * k ≤ 7293034; omega⟩ (cells' := 300 + 20 * k) (slots' := 6000 + 120 * k) rfl rfl dL_law_636 (fun z2 MM2 H locs hz2 hMM hv hw => ?_)
  have hw := hw.rot.rot
  refine lv_pop hx hb dL_law_639 rfl ?_
  refine lv_goto (tgt := 1248) hx hb dL_law_640 (by decide) ?_
  exact NEXT MX1 MM2 g _ _ _ _ _ hv hMX hMM hw (lv_sub hl [0, 1, 2, 3, 4] rfl) (by omega) (by omega)
set_option maxHeartbeats 4000000 in
set_option maxRecDepth 100000 in
theorem law_case17 {p : Program} {e : Env} {s : State} {m : MethodId} {below : List Frame} {meth : Method} {c : Code} (l : Launch) (hst : l.stackTraces = false) {b L : Nat} {xs : Nat → Int32} {D : va_G} {τ : Nat → ClassId} {A : Nat → Prop} {sA sV : Nat → Nat} {ax am : Nat → Nat} {ao : Nat} (hx : p.tables.exec = Jvm.exec) (hb : c.code = code) (hml : c.maxLocals = 8) (hC : cx D τ s m #[Value.ref b] RL) (hLS : LK A s s.heap sA sV) (hXX : XX A s) (hA : ∀ q : Nat, s.heap.size ≤ q → A q) (hX : va_X b L xs s s.heap) (hbl : b < s.heap.size) (hbA : ¬ A b) (k : Nat) (hk : k < 512) (hkL : 5 * (k : Int) + 5 ≤ L) (hL : L ≤ 2560)
  (NEXT : ∀ (MX MM : Mem) (g : Int → Int) (H : Heap) (locs : List Loc) (ls : Array Slot) (cc ss : Nat), Rel (k + 1) MX MM → MR MX → MR MM → wS D A s.heap (WX τ ax MX ++ (WM τ am MM ++ [OC τ ao g])) H locs → lv_has ls 8 [(4, .int (iI (5 * (k : Int)))), (3, .ref ao), (2, .ref (am 1)), (1, .ref (ax 155)), (0, .ref b)] → cc ≤ 300 + 20 * (k + 1) → ss ≤ 6000 + 120 * (k + 1) → W p l e room_1 s m #[Value.ref b] below meth c H locs cc ss (lw_Z below #[Value.ref b] s) (F0 m 1248 ls []))
  (MX MM : Mem) (g : Int → Int) (H : Heap) (locs : List Loc) (ls : Array Slot) (hR : Rel k MX MM) (hMX : MR MX) (hMM : MR MM) (hw : wS D A s.heap (WX τ ax MX ++ (WM τ am MM ++ [OC τ ao g])) H locs) (hl : lv_has ls 8 [(4, .int (iI (5 * (k : Int)))), (3, .ref ao), (2, .ref (am 1)), (1, .ref (ax 155)), (0, .ref b)]) : W p l e room_1 s m #[Value.ref b] below meth c H locs (300 + 20 * k) (6000 + 120 * k) (lw_Z below #[Value.ref b] s) (F0 m 643 ls []) := by
  obtain ⟨y1, hy1, ey1⟩ := iI_of (xs (5 * (k : Int) + 1).toNat)
  obtain ⟨y2, hy2, ey2⟩ := iI_of (xs (5 * (k : Int) + 2).toNat)
  obtain ⟨y3, hy3, ey3⟩ := iI_of (xs (5 * (k : Int) + 3).toNat)
  obtain ⟨y4, hy4, ey4⟩ := iI_of (xs (5 * (k : Int) + 4).toNat)
  have hv := Rl_ahead k MX MM y1 hy1 hk hMX hMM hR
  refine lv_aload_n hx hb dL_law_643 rfl (lv_at hl 3 rfl) ?_
  refine lv_aload_n hx hb dL_law_644 rfl (lv_at hl 4 rfl) ?_
  refine lv_iload hx hb dL_law_645 (lv_at hl 0 rfl) ?_
  refine r_iconst hx hb dL_law_647 ?_
  refine r_iadd (z := 5 * (k : Int) + 1) hx hb dL_law_648 rfl ?_
  refine r_sld hx hb hX hbl hbA hw (by omega) (by omega) (by omega) ey1 dL_law_649 ?_
  refine s_cVi (Wf := WX τ ax) (As := [.int (iI y1)]) (rest := []) hx hb hml hC hLS hA hw hl.1 (mX11_ahead l D τ ax sA sV _ y1 hy1 MX hMX _ hv) kX11_ahead ml_L_99 rfl (gX_155 τ ax MX) rfl rfl (Nat.le_of_ble_eq_true rfl) ⟨by decide, by decide⟩ ⟨by show 300 + 20 * k ≤ 601024; omega, by show 6000 + 120 * k ≤ 7293034; omega⟩ (cells' := 300 + 20 * k) (slots' := 6000 + 120 * k) rfl rfl dL_law_650 (fun z1 MX1 H locs hz1 hMX hv hw => ?_)
  refine lv_pop hx hb dL_law_653 rfl ?_
  refine lv_aload_n hx hb dL_law_654 rfl (lv_at hl 2 rfl) ?_
  refine lv_aload_n hx hb dL_law_655 rfl (lv_at hl 4 rfl) ?_
  refine lv_iload hx hb dL_law_656 (lv_at hl 0 rfl) ?_
  refine r_iconst hx hb dL_law_658 ?_
  refine r_iadd (z := 5 * (k : Int) + 1) hx hb dL_law_659 rfl ?_
  refine r_sld hx hb hX hbl hbA hw (by omega) (by omega) (by omega) ey1 dL_law_660 ?_
  have hw := hw.rot
  refine s_cVi (Wf := WM τ am) (As := [.int (iI y1)]) (rest := []) hx hb hml hC hLS hA hw hl.1 (mX12_ahead l D τ am sA sV _ y1 hy1 MM hMM _ hv) kX12_ahead ml_L_102 rfl (gM_1 τ am MM) rfl rfl (Nat.le_of_ble_eq_true rfl) ⟨by decide, by decide⟩ ⟨by show 300 + 20 * k ≤ 601024; omega, by show 6000 + 120 * k ≤ 7293034; omega⟩ (cells' := 300 + 20 * k) (slots' := 6000 + 120 * k) rfl rfl dL_law_661 (fun z2 MM2 H locs hz2 hMM hv hw => ?_)
  have hw := hw.rot.rot
  refine lv_pop hx hb dL_law_664 rfl ?_
  refine lv_goto (tgt := 1248) hx hb dL_law_665 (by decide) ?_
  exact NEXT MX1 MM2 g _ _ _ _ _ hv hMX hMM hw (lv_sub hl [0, 1, 2, 3, 4] rfl) (by omega) (by omega)
set_option maxHeartbeats 4000000 in
set_option maxRecDepth 100000 in
theorem law_case18 {p : Program} {e : Env} {s : State} {m : MethodId} {below : List Frame} {meth : Method} {c : Code} (l : Launch) (hst : l.stackTraces = false) {b L : Nat} {xs : Nat → Int32} {D : va_G} {τ : Nat → ClassId} {A : Nat → Prop} {sA sV : Nat → Nat} {ax am : Nat → Nat} {ao : Nat} (hx : p.tables.exec = Jvm.exec) (hb : c.code = code) (hml : c.maxLocals = 8) (hC : cx D τ s m #[Value.ref b] RL) (hLS : LK A s s.heap sA sV) (hXX : XX A s) (hA : ∀ q : Nat, s.heap.size ≤ q → A q) (hX : va_X b L xs s s.heap) (hbl : b < s.heap.size) (hbA : ¬ A b) (k : Nat) (hk : k < 512) (hkL : 5 * (k : Int) + 5 ≤ L) (hL : L ≤ 2560)
  (NEXT : ∀ (MX MM : Mem) (g : Int → Int) (H : Heap) (locs : List Loc) (ls : Array Slot) (cc ss : Nat), Rel (k + 1) MX MM → MR MX → MR MM → wS D A s.heap (WX τ ax MX ++ (WM τ am MM ++ [OC τ ao g])) H locs → lv_has ls 8 [(4, .int (iI (5 * (k : Int)))), (3, .ref ao), (2, .ref (am 1)), (1, .ref (ax 155)), (0, .ref b)] → cc ≤ 300 + 20 * (k + 1) → ss ≤ 6000 + 120 * (k + 1) → W p l e room_1 s m #[Value.ref b] below meth c H locs cc ss (lw_Z below #[Value.ref b] s) (F0 m 1248 ls []))
  (MX MM : Mem) (g : Int → Int) (H : Heap) (locs : List Loc) (ls : Array Slot) (hR : Rel k MX MM) (hMX : MR MX) (hMM : MR MM) (hw : wS D A s.heap (WX τ ax MX ++ (WM τ am MM ++ [OC τ ao g])) H locs) (hl : lv_has ls 8 [(4, .int (iI (5 * (k : Int)))), (3, .ref ao), (2, .ref (am 1)), (1, .ref (ax 155)), (0, .ref b)]) : W p l e room_1 s m #[Value.ref b] below meth c H locs (300 + 20 * k) (6000 + 120 * k) (lw_Z below #[Value.ref b] s) (F0 m 668 ls []) := by
  obtain ⟨y1, hy1, ey1⟩ := iI_of (xs (5 * (k : Int) + 1).toNat)
  obtain ⟨y2, hy2, ey2⟩ := iI_of (xs (5 * (k : Int) + 2).toNat)
  obtain ⟨y3, hy3, ey3⟩ := iI_of (xs (5 * (k : Int) + 3).toNat)
  obtain ⟨y4, hy4, ey4⟩ := iI_of (xs (5 * (k : Int) + 4).toNat)
  have hv := Rl_arrives k MX MM y1 hy1 hk hMX hMM hR
  refine lv_aload_n hx hb dL_law_668 rfl (lv_at hl 3 rfl) ?_
  refine lv_aload_n hx hb dL_law_669 rfl (lv_at hl 4 rfl) ?_
  refine lv_iload hx hb dL_law_670 (lv_at hl 0 rfl) ?_
  refine r_iconst hx hb dL_law_672 ?_
  refine r_iadd (z := 5 * (k : Int) + 1) hx hb dL_law_673 rfl ?_
  refine r_sld hx hb hX hbl hbA hw (by omega) (by omega) (by omega) ey1 dL_law_674 ?_
  refine s_cVi (Wf := WX τ ax) (As := [.int (iI y1)]) (rest := []) hx hb hml hC hLS hA hw hl.1 (mX11_arrives l D τ ax sA sV _ y1 hy1 MX hMX _ hv) kX11_arrives ml_L_103 rfl (gX_155 τ ax MX) rfl rfl (Nat.le_of_ble_eq_true rfl) ⟨by decide, by decide⟩ ⟨by show 300 + 20 * k ≤ 601024; omega, by show 6000 + 120 * k ≤ 7293034; omega⟩ (cells' := 300 + 20 * k) (slots' := 6000 + 120 * k) rfl rfl dL_law_675 (fun z1 MX1 H locs hz1 hMX hv hw => ?_)
  refine lv_pop hx hb dL_law_678 rfl ?_
  refine lv_aload_n hx hb dL_law_679 rfl (lv_at hl 2 rfl) ?_
  refine lv_aload_n hx hb dL_law_680 rfl (lv_at hl 4 rfl) ?_
  refine lv_iload hx hb dL_law_681 (lv_at hl 0 rfl) ?_
  refine r_iconst hx hb dL_law_683 ?_
  refine r_iadd (z := 5 * (k : Int) + 1) hx hb dL_law_684 rfl ?_
  refine r_sld hx hb hX hbl hbA hw (by omega) (by omega) (by omega) ey1 dL_law_685 ?_
  have hw := hw.rot
  refine s_cVi (Wf := WM τ am) (As := [.int (iI y1)]) (rest := []) hx hb hml hC hLS hA hw hl.1 (mX12_arrives l D τ am sA sV _ y1 hy1 MM hMM _ hv) kX12_arrives ml_L_106 rfl (gM_1 τ am MM) rfl rfl (Nat.le_of_ble_eq_true rfl) ⟨by decide, by decide⟩ ⟨by show 300 + 20 * k ≤ 601024; omega, by show 6000 + 120 * k ≤ 7293034; omega⟩ (cells' := 300 + 20 * k) (slots' := 6000 + 120 * k) rfl rfl dL_law_686 (fun z2 MM2 H locs hz2 hMM hv hw => ?_)
  have hw := hw.rot.rot
  refine lv_pop hx hb dL_law_689 rfl ?_
  refine lv_goto (tgt := 1248) hx hb dL_law_690 (by decide) ?_
  exact NEXT MX1 MM2 g _ _ _ _ _ hv hMX hMM hw (lv_sub hl [0, 1, 2, 3, 4] rfl) (by omega) (by omega)
set_option maxHeartbeats 4000000 in
set_option maxRecDepth 100000 in
theorem law_case19 {p : Program} {e : Env} {s : State} {m : MethodId} {below : List Frame} {meth : Method} {c : Code} (l : Launch) (hst : l.stackTraces = false) {b L : Nat} {xs : Nat → Int32} {D : va_G} {τ : Nat → ClassId} {A : Nat → Prop} {sA sV : Nat → Nat} {ax am : Nat → Nat} {ao : Nat} (hx : p.tables.exec = Jvm.exec) (hb : c.code = code) (hml : c.maxLocals = 8) (hC : cx D τ s m #[Value.ref b] RL) (hLS : LK A s s.heap sA sV) (hXX : XX A s) (hA : ∀ q : Nat, s.heap.size ≤ q → A q) (hX : va_X b L xs s s.heap) (hbl : b < s.heap.size) (hbA : ¬ A b) (k : Nat) (hk : k < 512) (hkL : 5 * (k : Int) + 5 ≤ L) (hL : L ≤ 2560)
  (NEXT : ∀ (MX MM : Mem) (g : Int → Int) (H : Heap) (locs : List Loc) (ls : Array Slot) (cc ss : Nat), Rel (k + 1) MX MM → MR MX → MR MM → wS D A s.heap (WX τ ax MX ++ (WM τ am MM ++ [OC τ ao g])) H locs → lv_has ls 8 [(4, .int (iI (5 * (k : Int)))), (3, .ref ao), (2, .ref (am 1)), (1, .ref (ax 155)), (0, .ref b)] → cc ≤ 300 + 20 * (k + 1) → ss ≤ 6000 + 120 * (k + 1) → W p l e room_1 s m #[Value.ref b] below meth c H locs cc ss (lw_Z below #[Value.ref b] s) (F0 m 1248 ls []))
  (MX MM : Mem) (g : Int → Int) (H : Heap) (locs : List Loc) (ls : Array Slot) (hR : Rel k MX MM) (hMX : MR MX) (hMM : MR MM) (hw : wS D A s.heap (WX τ ax MX ++ (WM τ am MM ++ [OC τ ao g])) H locs) (hl : lv_has ls 8 [(4, .int (iI (5 * (k : Int)))), (3, .ref ao), (2, .ref (am 1)), (1, .ref (ax 155)), (0, .ref b)]) : W p l e room_1 s m #[Value.ref b] below meth c H locs (300 + 20 * k) (6000 + 120 * k) (lw_Z below #[Value.ref b] s) (F0 m 693 ls []) := by
  obtain ⟨y1, hy1, ey1⟩ := iI_of (xs (5 * (k : Int) + 1).toNat)
  obtain ⟨y2, hy2, ey2⟩ := iI_of (xs (5 * (k : Int) + 2).toNat)
  obtain ⟨y3, hy3, ey3⟩ := iI_of (xs (5 * (k : Int) + 3).toNat)
  obtain ⟨y4, hy4, ey4⟩ := iI_of (xs (5 * (k : Int) + 4).toNat)
  have hv := Rl_jam k MX MM y1 hy1 hk hMX hMM hR
  refine lv_aload_n hx hb dL_law_693 rfl (lv_at hl 3 rfl) ?_
  refine lv_aload_n hx hb dL_law_694 rfl (lv_at hl 4 rfl) ?_
  refine lv_iload hx hb dL_law_695 (lv_at hl 0 rfl) ?_
  refine r_iconst hx hb dL_law_697 ?_
  refine r_iadd (z := 5 * (k : Int) + 1) hx hb dL_law_698 rfl ?_
  refine r_sld hx hb hX hbl hbA hw (by omega) (by omega) (by omega) ey1 dL_law_699 ?_
  refine s_cVi (Wf := WX τ ax) (As := [.int (iI y1)]) (rest := []) hx hb hml hC hLS hA hw hl.1 (mX11_jam l D τ ax sA sV _ y1 hy1 MX hMX _ hv) kX11_jam ml_L_107 rfl (gX_155 τ ax MX) rfl rfl (Nat.le_of_ble_eq_true rfl) ⟨by decide, by decide⟩ ⟨by show 300 + 20 * k ≤ 601024; omega, by show 6000 + 120 * k ≤ 7293034; omega⟩ (cells' := 300 + 20 * k) (slots' := 6000 + 120 * k) rfl rfl dL_law_700 (fun z1 MX1 H locs hz1 hMX hv hw => ?_)
  refine lv_pop hx hb dL_law_703 rfl ?_
  refine lv_aload_n hx hb dL_law_704 rfl (lv_at hl 2 rfl) ?_
  refine lv_aload_n hx hb dL_law_705 rfl (lv_at hl 4 rfl) ?_
  refine lv_iload hx hb dL_law_706 (lv_at hl 0 rfl) ?_
  refine r_iconst hx hb dL_law_708 ?_
  refine r_iadd (z := 5 * (k : Int) + 1) hx hb dL_law_709 rfl ?_
  refine r_sld hx hb hX hbl hbA hw (by omega) (by omega) (by omega) ey1 dL_law_710 ?_
  have hw := hw.rot
  refine s_cVi (Wf := WM τ am) (As := [.int (iI y1)]) (rest := []) hx hb hml hC hLS hA hw hl.1 (mX12_jam l D τ am sA sV _ y1 hy1 MM hMM _ hv) kX12_jam ml_L_110 rfl (gM_1 τ am MM) rfl rfl (Nat.le_of_ble_eq_true rfl) ⟨by decide, by decide⟩ ⟨by show 300 + 20 * k ≤ 601024; omega, by show 6000 + 120 * k ≤ 7293034; omega⟩ (cells' := 300 + 20 * k) (slots' := 6000 + 120 * k) rfl rfl dL_law_711 (fun z2 MM2 H locs hz2 hMM hv hw => ?_)
  have hw := hw.rot.rot
  refine lv_pop hx hb dL_law_714 rfl ?_
  refine lv_goto (tgt := 1248) hx hb dL_law_715 (by decide) ?_
  exact NEXT MX1 MM2 g _ _ _ _ _ hv hMX hMM hw (lv_sub hl [0, 1, 2, 3, 4] rfl) (by omega) (by omega)
set_option maxHeartbeats 4000000 in
set_option maxRecDepth 100000 in
theorem law_case20 {p : Program} {e : Env} {s : State} {m : MethodId} {below : List Frame} {meth : Method} {c : Code} (l : Launch) (hst : l.stackTraces = false) {b L : Nat} {xs : Nat → Int32} {D : va_G} {τ : Nat → ClassId} {A : Nat → Prop} {sA sV : Nat → Nat} {ax am : Nat → Nat} {ao : Nat} (hx : p.tables.exec = Jvm.exec) (hb : c.code = code) (hml : c.maxLocals = 8) (hC : cx D τ s m #[Value.ref b] RL) (hLS : LK A s s.heap sA sV) (hXX : XX A s) (hA : ∀ q : Nat, s.heap.size ≤ q → A q) (hX : va_X b L xs s s.heap) (hbl : b < s.heap.size) (hbA : ¬ A b) (k : Nat) (hk : k < 512) (hkL : 5 * (k : Int) + 5 ≤ L) (hL : L ≤ 2560)
  (NEXT : ∀ (MX MM : Mem) (g : Int → Int) (H : Heap) (locs : List Loc) (ls : Array Slot) (cc ss : Nat), Rel (k + 1) MX MM → MR MX → MR MM → wS D A s.heap (WX τ ax MX ++ (WM τ am MM ++ [OC τ ao g])) H locs → lv_has ls 8 [(4, .int (iI (5 * (k : Int)))), (3, .ref ao), (2, .ref (am 1)), (1, .ref (ax 155)), (0, .ref b)] → cc ≤ 300 + 20 * (k + 1) → ss ≤ 6000 + 120 * (k + 1) → W p l e room_1 s m #[Value.ref b] below meth c H locs cc ss (lw_Z below #[Value.ref b] s) (F0 m 1248 ls []))
  (MX MM : Mem) (g : Int → Int) (H : Heap) (locs : List Loc) (ls : Array Slot) (hR : Rel k MX MM) (hMX : MR MX) (hMM : MR MM) (hw : wS D A s.heap (WX τ ax MX ++ (WM τ am MM ++ [OC τ ao g])) H locs) (hl : lv_has ls 8 [(4, .int (iI (5 * (k : Int)))), (3, .ref ao), (2, .ref (am 1)), (1, .ref (ax 155)), (0, .ref b)]) : W p l e room_1 s m #[Value.ref b] below meth c H locs (300 + 20 * k) (6000 + 120 * k) (lw_Z below #[Value.ref b] s) (F0 m 718 ls []) := by
  obtain ⟨y1, hy1, ey1⟩ := iI_of (xs (5 * (k : Int) + 1).toNat)
  obtain ⟨y2, hy2, ey2⟩ := iI_of (xs (5 * (k : Int) + 2).toNat)
  obtain ⟨y3, hy3, ey3⟩ := iI_of (xs (5 * (k : Int) + 3).toNat)
  obtain ⟨y4, hy4, ey4⟩ := iI_of (xs (5 * (k : Int) + 4).toNat)
  have hv := Rl_passes k MX MM y1 y2 hy1 hy2 hk hMX hMM hR
  refine lv_aload_n hx hb dL_law_718 rfl (lv_at hl 3 rfl) ?_
  refine lv_aload_n hx hb dL_law_719 rfl (lv_at hl 4 rfl) ?_
  refine lv_iload hx hb dL_law_720 (lv_at hl 0 rfl) ?_
  refine r_iconst hx hb dL_law_722 ?_
  refine r_iadd (z := 5 * (k : Int) + 1) hx hb dL_law_723 rfl ?_
  refine r_sld hx hb hX hbl hbA hw (by omega) (by omega) (by omega) ey1 dL_law_724 ?_
  refine lv_aload_n hx hb dL_law_725 rfl (lv_at hl 4 rfl) ?_
  refine lv_iload hx hb dL_law_726 (lv_at hl 0 rfl) ?_
  refine r_iconst hx hb dL_law_728 ?_
  refine r_iadd (z := 5 * (k : Int) + 2) hx hb dL_law_729 rfl ?_
  refine r_sld hx hb hX hbl hbA hw (by omega) (by omega) (by omega) ey2 dL_law_730 ?_
  refine s_cVi (Wf := WX τ ax) (As := [.int (iI y1), .int (iI y2)]) (rest := []) hx hb hml hC hLS hA hw hl.1 (mX11_passes l D τ ax sA sV _ y1 y2 hy1 hy2 MX hMX _ hv) kX11_passes ml_L_111 rfl (gX_155 τ ax MX) rfl rfl (Nat.le_of_ble_eq_true rfl) ⟨by decide, by decide⟩ ⟨by show 300 + 20 * k ≤ 601024; omega, by show 6000 + 120 * k ≤ 7293034; omega⟩ (cells' := 300 + 20 * k) (slots' := 6000 + 120 * k) rfl rfl dL_law_731 (fun z1 MX1 H locs hz1 hMX hv hw => ?_)
  refine lv_pop hx hb dL_law_734 rfl ?_
  refine lv_aload_n hx hb dL_law_735 rfl (lv_at hl 2 rfl) ?_
  refine lv_aload_n hx hb dL_law_736 rfl (lv_at hl 4 rfl) ?_
  refine lv_iload hx hb dL_law_737 (lv_at hl 0 rfl) ?_
  refine r_iconst hx hb dL_law_739 ?_
  refine r_iadd (z := 5 * (k : Int) + 1) hx hb dL_law_740 rfl ?_
  refine r_sld hx hb hX hbl hbA hw (by omega) (by omega) (by omega) ey1 dL_law_741 ?_
  refine lv_aload_n hx hb dL_law_742 rfl (lv_at hl 4 rfl) ?_
  refine lv_iload hx hb dL_law_743 (lv_at hl 0 rfl) ?_
  refine r_iconst hx hb dL_law_745 ?_
  refine r_iadd (z := 5 * (k : Int) + 2) hx hb dL_law_746 rfl ?_
  refine r_sld hx hb hX hbl hbA hw (by omega) (by omega) (by omega) ey2 dL_law_747 ?_
  have hw := hw.rot
  refine s_cVi (Wf := WM τ am) (As := [.int (iI y1), .int (iI y2)]) (rest := []) hx hb hml hC hLS hA hw hl.1 (mX12_passes l D τ am sA sV _ y1 y2 hy1 hy2 MM hMM _ hv) kX12_passes ml_L_114 rfl (gM_1 τ am MM) rfl rfl (Nat.le_of_ble_eq_true rfl) ⟨by decide, by decide⟩ ⟨by show 300 + 20 * k ≤ 601024; omega, by show 6000 + 120 * k ≤ 7293034; omega⟩ (cells' := 300 + 20 * k) (slots' := 6000 + 120 * k) rfl rfl dL_law_748 (fun z2 MM2 H locs hz2 hMM hv hw => ?_)
  have hw := hw.rot.rot
  refine lv_pop hx hb dL_law_751 rfl ?_
  refine lv_goto (tgt := 1248) hx hb dL_law_752 (by decide) ?_
  exact NEXT MX1 MM2 g _ _ _ _ _ hv hMX hMM hw (lv_sub hl [0, 1, 2, 3, 4] rfl) (by omega) (by omega)
set_option maxHeartbeats 4000000 in
set_option maxRecDepth 100000 in
theorem law_case21 {p : Program} {e : Env} {s : State} {m : MethodId} {below : List Frame} {meth : Method} {c : Code} (l : Launch) (hst : l.stackTraces = false) {b L : Nat} {xs : Nat → Int32} {D : va_G} {τ : Nat → ClassId} {A : Nat → Prop} {sA sV : Nat → Nat} {ax am : Nat → Nat} {ao : Nat} (hx : p.tables.exec = Jvm.exec) (hb : c.code = code) (hml : c.maxLocals = 8) (hC : cx D τ s m #[Value.ref b] RL) (hLS : LK A s s.heap sA sV) (hXX : XX A s) (hA : ∀ q : Nat, s.heap.size ≤ q → A q) (hX : va_X b L xs s s.heap) (hbl : b < s.heap.size) (hbA : ¬ A b) (k : Nat) (hk : k < 512) (hkL : 5 * (k : Int) + 5 ≤ L) (hL : L ≤ 2560)
  (NEXT : ∀ (MX MM : Mem) (g : Int → Int) (H : Heap) (locs : List Loc) (ls : Array Slot) (cc ss : Nat), Rel (k + 1) MX MM → MR MX → MR MM → wS D A s.heap (WX τ ax MX ++ (WM τ am MM ++ [OC τ ao g])) H locs → lv_has ls 8 [(4, .int (iI (5 * (k : Int)))), (3, .ref ao), (2, .ref (am 1)), (1, .ref (ax 155)), (0, .ref b)] → cc ≤ 300 + 20 * (k + 1) → ss ≤ 6000 + 120 * (k + 1) → W p l e room_1 s m #[Value.ref b] below meth c H locs cc ss (lw_Z below #[Value.ref b] s) (F0 m 1248 ls []))
  (MX MM : Mem) (g : Int → Int) (H : Heap) (locs : List Loc) (ls : Array Slot) (hR : Rel k MX MM) (hMX : MR MX) (hMM : MR MM) (hw : wS D A s.heap (WX τ ax MX ++ (WM τ am MM ++ [OC τ ao g])) H locs) (hl : lv_has ls 8 [(4, .int (iI (5 * (k : Int)))), (3, .ref ao), (2, .ref (am 1)), (1, .ref (ax 155)), (0, .ref b)]) : W p l e room_1 s m #[Value.ref b] below meth c H locs (300 + 20 * k) (6000 + 120 * k) (lw_Z below #[Value.ref b] s) (F0 m 755 ls []) := by
  obtain ⟨y1, hy1, ey1⟩ := iI_of (xs (5 * (k : Int) + 1).toNat)
  obtain ⟨y2, hy2, ey2⟩ := iI_of (xs (5 * (k : Int) + 2).toNat)
  obtain ⟨y3, hy3, ey3⟩ := iI_of (xs (5 * (k : Int) + 3).toNat)
  obtain ⟨y4, hy4, ey4⟩ := iI_of (xs (5 * (k : Int) + 4).toNat)
  have hv := Rl_ends k MX MM y1 hy1 hk hMX hMM hR
  refine lv_aload_n hx hb dL_law_755 rfl (lv_at hl 3 rfl) ?_
  refine lv_aload_n hx hb dL_law_756 rfl (lv_at hl 4 rfl) ?_
  refine lv_iload hx hb dL_law_757 (lv_at hl 0 rfl) ?_
  refine r_iconst hx hb dL_law_759 ?_
  refine r_iadd (z := 5 * (k : Int) + 1) hx hb dL_law_760 rfl ?_
  refine r_sld hx hb hX hbl hbA hw (by omega) (by omega) (by omega) ey1 dL_law_761 ?_
  refine s_cVi (Wf := WX τ ax) (As := [.int (iI y1)]) (rest := []) hx hb hml hC hLS hA hw hl.1 (mX11_ends l D τ ax sA sV _ y1 hy1 MX hMX _ hv) kX11_ends ml_L_115 rfl (gX_155 τ ax MX) rfl rfl (Nat.le_of_ble_eq_true rfl) ⟨by decide, by decide⟩ ⟨by show 300 + 20 * k ≤ 601024; omega, by show 6000 + 120 * k ≤ 7293034; omega⟩ (cells' := 300 + 20 * k) (slots' := 6000 + 120 * k) rfl rfl dL_law_762 (fun z1 MX1 H locs hz1 hMX hv hw => ?_)
  refine lv_pop hx hb dL_law_765 rfl ?_
  refine lv_aload_n hx hb dL_law_766 rfl (lv_at hl 2 rfl) ?_
  refine lv_aload_n hx hb dL_law_767 rfl (lv_at hl 4 rfl) ?_
  refine lv_iload hx hb dL_law_768 (lv_at hl 0 rfl) ?_
  refine r_iconst hx hb dL_law_770 ?_
  refine r_iadd (z := 5 * (k : Int) + 1) hx hb dL_law_771 rfl ?_
  refine r_sld hx hb hX hbl hbA hw (by omega) (by omega) (by omega) ey1 dL_law_772 ?_
  have hw := hw.rot
  refine s_cVi (Wf := WM τ am) (As := [.int (iI y1)]) (rest := []) hx hb hml hC hLS hA hw hl.1 (mX12_ends l D τ am sA sV _ y1 hy1 MM hMM _ hv) kX12_ends ml_L_118 rfl (gM_1 τ am MM) rfl rfl (Nat.le_of_ble_eq_true rfl) ⟨by decide, by decide⟩ ⟨by show 300 + 20 * k ≤ 601024; omega, by show 6000 + 120 * k ≤ 7293034; omega⟩ (cells' := 300 + 20 * k) (slots' := 6000 + 120 * k) rfl rfl dL_law_773 (fun z2 MM2 H locs hz2 hMM hv hw => ?_)
  have hw := hw.rot.rot
  refine lv_pop hx hb dL_law_776 rfl ?_
  refine lv_goto (tgt := 1248) hx hb dL_law_777 (by decide) ?_
  exact NEXT MX1 MM2 g _ _ _ _ _ hv hMX hMM hw (lv_sub hl [0, 1, 2, 3, 4] rfl) (by omega) (by omega)
set_option maxHeartbeats 4000000 in
set_option maxRecDepth 100000 in
theorem law_case22 {p : Program} {e : Env} {s : State} {m : MethodId} {below : List Frame} {meth : Method} {c : Code} (l : Launch) (hst : l.stackTraces = false) {b L : Nat} {xs : Nat → Int32} {D : va_G} {τ : Nat → ClassId} {A : Nat → Prop} {sA sV : Nat → Nat} {ax am : Nat → Nat} {ao : Nat} (hx : p.tables.exec = Jvm.exec) (hb : c.code = code) (hml : c.maxLocals = 8) (hC : cx D τ s m #[Value.ref b] RL) (hLS : LK A s s.heap sA sV) (hXX : XX A s) (hA : ∀ q : Nat, s.heap.size ≤ q → A q) (hX : va_X b L xs s s.heap) (hbl : b < s.heap.size) (hbA : ¬ A b) (k : Nat) (hk : k < 512) (hkL : 5 * (k : Int) + 5 ≤ L) (hL : L ≤ 2560)
  (NEXT : ∀ (MX MM : Mem) (g : Int → Int) (H : Heap) (locs : List Loc) (ls : Array Slot) (cc ss : Nat), Rel (k + 1) MX MM → MR MX → MR MM → wS D A s.heap (WX τ ax MX ++ (WM τ am MM ++ [OC τ ao g])) H locs → lv_has ls 8 [(4, .int (iI (5 * (k : Int)))), (3, .ref ao), (2, .ref (am 1)), (1, .ref (ax 155)), (0, .ref b)] → cc ≤ 300 + 20 * (k + 1) → ss ≤ 6000 + 120 * (k + 1) → W p l e room_1 s m #[Value.ref b] below meth c H locs cc ss (lw_Z below #[Value.ref b] s) (F0 m 1248 ls []))
  (MX MM : Mem) (g : Int → Int) (H : Heap) (locs : List Loc) (ls : Array Slot) (hR : Rel k MX MM) (hMX : MR MX) (hMM : MR MM) (hw : wS D A s.heap (WX τ ax MX ++ (WM τ am MM ++ [OC τ ao g])) H locs) (hl : lv_has ls 8 [(4, .int (iI (5 * (k : Int)))), (3, .ref ao), (2, .ref (am 1)), (1, .ref (ax 155)), (0, .ref b)]) : W p l e room_1 s m #[Value.ref b] below meth c H locs (300 + 20 * k) (6000 + 120 * k) (lw_Z below #[Value.ref b] s) (F0 m 780 ls []) := by
  obtain ⟨y1, hy1, ey1⟩ := iI_of (xs (5 * (k : Int) + 1).toNat)
  obtain ⟨y2, hy2, ey2⟩ := iI_of (xs (5 * (k : Int) + 2).toNat)
  obtain ⟨y3, hy3, ey3⟩ := iI_of (xs (5 * (k : Int) + 3).toNat)
  obtain ⟨y4, hy4, ey4⟩ := iI_of (xs (5 * (k : Int) + 4).toNat)
  have hv := Rl_right k MX MM   hk hMX hMM hR
  refine lv_aload_n hx hb dL_law_780 rfl (lv_at hl 3 rfl) ?_
  refine s_cVi (Wf := WX τ ax) (As := []) (rest := []) hx hb hml hC hLS hA hw hl.1 (mX11_right l D τ ax sA sV _   MX hMX _ hv) kX11_right ml_L_119 rfl (gX_155 τ ax MX) rfl rfl (Nat.le_of_ble_eq_true rfl) ⟨by decide, by decide⟩ ⟨by show 300 + 20 * k ≤ 601024; omega, by show 6000 + 120 * k ≤ 7293034; omega⟩ (cells' := 300 + 20 * k) (slots' := 6000 + 120 * k) rfl rfl dL_law_781 (fun z1 MX1 H locs hz1 hMX hv hw => ?_)
  refine lv_pop hx hb dL_law_784 rfl ?_
  refine lv_aload_n hx hb dL_law_785 rfl (lv_at hl 2 rfl) ?_
  have hw := hw.rot
  refine s_cVi (Wf := WM τ am) (As := []) (rest := []) hx hb hml hC hLS hA hw hl.1 (mX12_right l D τ am sA sV _   MM hMM _ hv) kX12_right ml_L_122 rfl (gM_1 τ am MM) rfl rfl (Nat.le_of_ble_eq_true rfl) ⟨by decide, by decide⟩ ⟨by show 300 + 20 * k ≤ 601024; omega, by show 6000 + 120 * k ≤ 7293034; omega⟩ (cells' := 300 + 20 * k) (slots' := 6000 + 120 * k) rfl rfl dL_law_786 (fun z2 MM2 H locs hz2 hMM hv hw => ?_)
  have hw := hw.rot.rot
  refine lv_pop hx hb dL_law_789 rfl ?_
  refine lv_goto (tgt := 1248) hx hb dL_law_790 (by decide) ?_
  exact NEXT MX1 MM2 g _ _ _ _ _ hv hMX hMM hw (lv_sub hl [0, 1, 2, 3, 4] rfl) (by omega) (by omega)
set_option maxHeartbeats 4000000 in
set_option maxRecDepth 100000 in
theorem law_case23 {p : Program} {e : Env} {s : State} {m : MethodId} {below : List Frame} {meth : Method} {c : Code} (l : Launch) (hst : l.stackTraces = false) {b L : Nat} {xs : Nat → Int32} {D : va_G} {τ : Nat → ClassId} {A : Nat → Prop} {sA sV : Nat → Nat} {ax am : Nat → Nat} {ao : Nat} (hx : p.tables.exec = Jvm.exec) (hb : c.code = code) (hml : c.maxLocals = 8) (hC : cx D τ s m #[Value.ref b] RL) (hLS : LK A s s.heap sA sV) (hXX : XX A s) (hA : ∀ q : Nat, s.heap.size ≤ q → A q) (hX : va_X b L xs s s.heap) (hbl : b < s.heap.size) (hbA : ¬ A b) (k : Nat) (hk : k < 512) (hkL : 5 * (k : Int) + 5 ≤ L) (hL : L ≤ 2560)
  (NEXT : ∀ (MX MM : Mem) (g : Int → Int) (H : Heap) (locs : List Loc) (ls : Array Slot) (cc ss : Nat), Rel (k + 1) MX MM → MR MX → MR MM → wS D A s.heap (WX τ ax MX ++ (WM τ am MM ++ [OC τ ao g])) H locs → lv_has ls 8 [(4, .int (iI (5 * (k : Int)))), (3, .ref ao), (2, .ref (am 1)), (1, .ref (ax 155)), (0, .ref b)] → cc ≤ 300 + 20 * (k + 1) → ss ≤ 6000 + 120 * (k + 1) → W p l e room_1 s m #[Value.ref b] below meth c H locs cc ss (lw_Z below #[Value.ref b] s) (F0 m 1248 ls []))
  (MX MM : Mem) (g : Int → Int) (H : Heap) (locs : List Loc) (ls : Array Slot) (hR : Rel k MX MM) (hMX : MR MX) (hMM : MR MM) (hw : wS D A s.heap (WX τ ax MX ++ (WM τ am MM ++ [OC τ ao g])) H locs) (hl : lv_has ls 8 [(4, .int (iI (5 * (k : Int)))), (3, .ref ao), (2, .ref (am 1)), (1, .ref (ax 155)), (0, .ref b)]) : W p l e room_1 s m #[Value.ref b] below meth c H locs (300 + 20 * k) (6000 + 120 * k) (lw_Z below #[Value.ref b] s) (F0 m 793 ls []) := by
  obtain ⟨y1, hy1, ey1⟩ := iI_of (xs (5 * (k : Int) + 1).toNat)
  obtain ⟨y2, hy2, ey2⟩ := iI_of (xs (5 * (k : Int) + 2).toNat)
  obtain ⟨y3, hy3, ey3⟩ := iI_of (xs (5 * (k : Int) + 3).toNat)
  obtain ⟨y4, hy4, ey4⟩ := iI_of (xs (5 * (k : Int) + 4).toNat)
  have hv := Rl_order k MX MM   hk hMX hMM hR
  refine lv_aload_n hx hb dL_law_793 rfl (lv_at hl 3 rfl) ?_
  refine s_cVi (Wf := WX τ ax) (As := []) (rest := []) hx hb hml hC hLS hA hw hl.1 (mX11_order l D τ ax sA sV _   MX hMX _ hv) kX11_order ml_L_123 rfl (gX_155 τ ax MX) rfl rfl (Nat.le_of_ble_eq_true rfl) ⟨by decide, by decide⟩ ⟨by show 300 + 20 * k ≤ 601024; omega, by show 6000 + 120 * k ≤ 7293034; omega⟩ (cells' := 300 + 20 * k) (slots' := 6000 + 120 * k) rfl rfl dL_law_794 (fun z1 MX1 H locs hz1 hMX hv hw => ?_)
  refine lv_pop hx hb dL_law_797 rfl ?_
  refine lv_aload_n hx hb dL_law_798 rfl (lv_at hl 2 rfl) ?_
  have hw := hw.rot
  refine s_cVi (Wf := WM τ am) (As := []) (rest := []) hx hb hml hC hLS hA hw hl.1 (mX12_order l D τ am sA sV _   MM hMM _ hv) kX12_order ml_L_126 rfl (gM_1 τ am MM) rfl rfl (Nat.le_of_ble_eq_true rfl) ⟨by decide, by decide⟩ ⟨by show 300 + 20 * k ≤ 601024; omega, by show 6000 + 120 * k ≤ 7293034; omega⟩ (cells' := 300 + 20 * k) (slots' := 6000 + 120 * k) rfl rfl dL_law_799 (fun z2 MM2 H locs hz2 hMM hv hw => ?_)
  have hw := hw.rot.rot
  refine lv_pop hx hb dL_law_802 rfl ?_
  refine lv_goto (tgt := 1248) hx hb dL_law_803 (by decide) ?_
  exact NEXT MX1 MM2 g _ _ _ _ _ hv hMX hMM hw (lv_sub hl [0, 1, 2, 3, 4] rfl) (by omega) (by omega)
set_option maxHeartbeats 4000000 in
set_option maxRecDepth 100000 in
theorem law_case24 {p : Program} {e : Env} {s : State} {m : MethodId} {below : List Frame} {meth : Method} {c : Code} (l : Launch) (hst : l.stackTraces = false) {b L : Nat} {xs : Nat → Int32} {D : va_G} {τ : Nat → ClassId} {A : Nat → Prop} {sA sV : Nat → Nat} {ax am : Nat → Nat} {ao : Nat} (hx : p.tables.exec = Jvm.exec) (hb : c.code = code) (hml : c.maxLocals = 8) (hC : cx D τ s m #[Value.ref b] RL) (hLS : LK A s s.heap sA sV) (hXX : XX A s) (hA : ∀ q : Nat, s.heap.size ≤ q → A q) (hX : va_X b L xs s s.heap) (hbl : b < s.heap.size) (hbA : ¬ A b) (k : Nat) (hk : k < 512) (hkL : 5 * (k : Int) + 5 ≤ L) (hL : L ≤ 2560)
  (NEXT : ∀ (MX MM : Mem) (g : Int → Int) (H : Heap) (locs : List Loc) (ls : Array Slot) (cc ss : Nat), Rel (k + 1) MX MM → MR MX → MR MM → wS D A s.heap (WX τ ax MX ++ (WM τ am MM ++ [OC τ ao g])) H locs → lv_has ls 8 [(4, .int (iI (5 * (k : Int)))), (3, .ref ao), (2, .ref (am 1)), (1, .ref (ax 155)), (0, .ref b)] → cc ≤ 300 + 20 * (k + 1) → ss ≤ 6000 + 120 * (k + 1) → W p l e room_1 s m #[Value.ref b] below meth c H locs cc ss (lw_Z below #[Value.ref b] s) (F0 m 1248 ls []))
  (MX MM : Mem) (g : Int → Int) (H : Heap) (locs : List Loc) (ls : Array Slot) (hR : Rel k MX MM) (hMX : MR MX) (hMM : MR MM) (hw : wS D A s.heap (WX τ ax MX ++ (WM τ am MM ++ [OC τ ao g])) H locs) (hl : lv_has ls 8 [(4, .int (iI (5 * (k : Int)))), (3, .ref ao), (2, .ref (am 1)), (1, .ref (ax 155)), (0, .ref b)]) : W p l e room_1 s m #[Value.ref b] below meth c H locs (300 + 20 * k) (6000 + 120 * k) (lw_Z below #[Value.ref b] s) (F0 m 806 ls []) := by
  obtain ⟨y1, hy1, ey1⟩ := iI_of (xs (5 * (k : Int) + 1).toNat)
  obtain ⟨y2, hy2, ey2⟩ := iI_of (xs (5 * (k : Int) + 2).toNat)
  obtain ⟨y3, hy3, ey3⟩ := iI_of (xs (5 * (k : Int) + 3).toNat)
  obtain ⟨y4, hy4, ey4⟩ := iI_of (xs (5 * (k : Int) + 4).toNat)
  have hv := Rl_stands k MX MM y1 hy1 hk hMX hMM hR
  refine lv_aload_n hx hb dL_law_806 rfl (lv_at hl 3 rfl) ?_
  refine lv_aload_n hx hb dL_law_807 rfl (lv_at hl 4 rfl) ?_
  refine lv_iload hx hb dL_law_808 (lv_at hl 0 rfl) ?_
  refine r_iconst hx hb dL_law_810 ?_
  refine r_iadd (z := 5 * (k : Int) + 1) hx hb dL_law_811 rfl ?_
  refine r_sld hx hb hX hbl hbA hw (by omega) (by omega) (by omega) ey1 dL_law_812 ?_
  refine s_cVi (Wf := WX τ ax) (As := [.int (iI y1)]) (rest := []) hx hb hml hC hLS hA hw hl.1 (mX11_stands l D τ ax sA sV _ y1 hy1 MX hMX _ hv) kX11_stands ml_L_127 rfl (gX_155 τ ax MX) rfl rfl (Nat.le_of_ble_eq_true rfl) ⟨by decide, by decide⟩ ⟨by show 300 + 20 * k ≤ 601024; omega, by show 6000 + 120 * k ≤ 7293034; omega⟩ (cells' := 300 + 20 * k) (slots' := 6000 + 120 * k) rfl rfl dL_law_813 (fun z1 MX1 H locs hz1 hMX hv hw => ?_)
  refine lv_pop hx hb dL_law_816 rfl ?_
  refine lv_aload_n hx hb dL_law_817 rfl (lv_at hl 2 rfl) ?_
  refine lv_aload_n hx hb dL_law_818 rfl (lv_at hl 4 rfl) ?_
  refine lv_iload hx hb dL_law_819 (lv_at hl 0 rfl) ?_
  refine r_iconst hx hb dL_law_821 ?_
  refine r_iadd (z := 5 * (k : Int) + 1) hx hb dL_law_822 rfl ?_
  refine r_sld hx hb hX hbl hbA hw (by omega) (by omega) (by omega) ey1 dL_law_823 ?_
  have hw := hw.rot
  refine s_cVi (Wf := WM τ am) (As := [.int (iI y1)]) (rest := []) hx hb hml hC hLS hA hw hl.1 (mX12_stands l D τ am sA sV _ y1 hy1 MM hMM _ hv) kX12_stands ml_L_130 rfl (gM_1 τ am MM) rfl rfl (Nat.le_of_ble_eq_true rfl) ⟨by decide, by decide⟩ ⟨by show 300 + 20 * k ≤ 601024; omega, by show 6000 + 120 * k ≤ 7293034; omega⟩ (cells' := 300 + 20 * k) (slots' := 6000 + 120 * k) rfl rfl dL_law_824 (fun z2 MM2 H locs hz2 hMM hv hw => ?_)
  have hw := hw.rot.rot
  refine lv_pop hx hb dL_law_827 rfl ?_
  refine lv_goto (tgt := 1248) hx hb dL_law_828 (by decide) ?_
  exact NEXT MX1 MM2 g _ _ _ _ _ hv hMX hMM hw (lv_sub hl [0, 1, 2, 3, 4] rfl) (by omega) (by omega)
set_option maxHeartbeats 4000000 in
set_option maxRecDepth 100000 in
theorem law_case25 {p : Program} {e : Env} {s : State} {m : MethodId} {below : List Frame} {meth : Method} {c : Code} (l : Launch) (hst : l.stackTraces = false) {b L : Nat} {xs : Nat → Int32} {D : va_G} {τ : Nat → ClassId} {A : Nat → Prop} {sA sV : Nat → Nat} {ax am : Nat → Nat} {ao : Nat} (hx : p.tables.exec = Jvm.exec) (hb : c.code = code) (hml : c.maxLocals = 8) (hC : cx D τ s m #[Value.ref b] RL) (hLS : LK A s s.heap sA sV) (hXX : XX A s) (hA : ∀ q : Nat, s.heap.size ≤ q → A q) (hX : va_X b L xs s s.heap) (hbl : b < s.heap.size) (hbA : ¬ A b) (k : Nat) (hk : k < 512) (hkL : 5 * (k : Int) + 5 ≤ L) (hL : L ≤ 2560)
  (NEXT : ∀ (MX MM : Mem) (g : Int → Int) (H : Heap) (locs : List Loc) (ls : Array Slot) (cc ss : Nat), Rel (k + 1) MX MM → MR MX → MR MM → wS D A s.heap (WX τ ax MX ++ (WM τ am MM ++ [OC τ ao g])) H locs → lv_has ls 8 [(4, .int (iI (5 * (k : Int)))), (3, .ref ao), (2, .ref (am 1)), (1, .ref (ax 155)), (0, .ref b)] → cc ≤ 300 + 20 * (k + 1) → ss ≤ 6000 + 120 * (k + 1) → W p l e room_1 s m #[Value.ref b] below meth c H locs cc ss (lw_Z below #[Value.ref b] s) (F0 m 1248 ls []))
  (MX MM : Mem) (g : Int → Int) (H : Heap) (locs : List Loc) (ls : Array Slot) (hR : Rel k MX MM) (hMX : MR MX) (hMM : MR MM) (hw : wS D A s.heap (WX τ ax MX ++ (WM τ am MM ++ [OC τ ao g])) H locs) (hl : lv_has ls 8 [(4, .int (iI (5 * (k : Int)))), (3, .ref ao), (2, .ref (am 1)), (1, .ref (ax 155)), (0, .ref b)]) : W p l e room_1 s m #[Value.ref b] below meth c H locs (300 + 20 * k) (6000 + 120 * k) (lw_Z below #[Value.ref b] s) (F0 m 831 ls []) := by
  obtain ⟨y1, hy1, ey1⟩ := iI_of (xs (5 * (k : Int) + 1).toNat)
  obtain ⟨y2, hy2, ey2⟩ := iI_of (xs (5 * (k : Int) + 2).toNat)
  obtain ⟨y3, hy3, ey3⟩ := iI_of (xs (5 * (k : Int) + 3).toNat)
  obtain ⟨y4, hy4, ey4⟩ := iI_of (xs (5 * (k : Int) + 4).toNat)
  have hv := Rl_when k MX MM y1 hy1 hk hMX hMM hR
  refine lv_aload_n hx hb dL_law_831 rfl (lv_at hl 3 rfl) ?_
  refine lv_aload_n hx hb dL_law_832 rfl (lv_at hl 4 rfl) ?_
  refine lv_iload hx hb dL_law_833 (lv_at hl 0 rfl) ?_
  refine r_iconst hx hb dL_law_835 ?_
  refine r_iadd (z := 5 * (k : Int) + 1) hx hb dL_law_836 rfl ?_
  refine r_sld hx hb hX hbl hbA hw (by omega) (by omega) (by omega) ey1 dL_law_837 ?_
  refine s_cVi (Wf := WX τ ax) (As := [.int (iI y1)]) (rest := []) hx hb hml hC hLS hA hw hl.1 (mX11_when l D τ ax sA sV _ y1 hy1 MX hMX _ hv) kX11_when ml_L_131 rfl (gX_155 τ ax MX) rfl rfl (Nat.le_of_ble_eq_true rfl) ⟨by decide, by decide⟩ ⟨by show 300 + 20 * k ≤ 601024; omega, by show 6000 + 120 * k ≤ 7293034; omega⟩ (cells' := 300 + 20 * k) (slots' := 6000 + 120 * k) rfl rfl dL_law_838 (fun z1 MX1 H locs hz1 hMX hv hw => ?_)
  refine lv_pop hx hb dL_law_841 rfl ?_
  refine lv_aload_n hx hb dL_law_842 rfl (lv_at hl 2 rfl) ?_
  refine lv_aload_n hx hb dL_law_843 rfl (lv_at hl 4 rfl) ?_
  refine lv_iload hx hb dL_law_844 (lv_at hl 0 rfl) ?_
  refine r_iconst hx hb dL_law_846 ?_
  refine r_iadd (z := 5 * (k : Int) + 1) hx hb dL_law_847 rfl ?_
  refine r_sld hx hb hX hbl hbA hw (by omega) (by omega) (by omega) ey1 dL_law_848 ?_
  have hw := hw.rot
  refine s_cVi (Wf := WM τ am) (As := [.int (iI y1)]) (rest := []) hx hb hml hC hLS hA hw hl.1 (mX12_when l D τ am sA sV _ y1 hy1 MM hMM _ hv) kX12_when ml_L_134 rfl (gM_1 τ am MM) rfl rfl (Nat.le_of_ble_eq_true rfl) ⟨by decide, by decide⟩ ⟨by show 300 + 20 * k ≤ 601024; omega, by show 6000 + 120 * k ≤ 7293034; omega⟩ (cells' := 300 + 20 * k) (slots' := 6000 + 120 * k) rfl rfl dL_law_849 (fun z2 MM2 H locs hz2 hMM hv hw => ?_)
  have hw := hw.rot.rot
  refine lv_pop hx hb dL_law_852 rfl ?_
  refine lv_goto (tgt := 1248) hx hb dL_law_853 (by decide) ?_
  exact NEXT MX1 MM2 g _ _ _ _ _ hv hMX hMM hw (lv_sub hl [0, 1, 2, 3, 4] rfl) (by omega) (by omega)
set_option maxHeartbeats 4000000 in
set_option maxRecDepth 100000 in
theorem law_case26 {p : Program} {e : Env} {s : State} {m : MethodId} {below : List Frame} {meth : Method} {c : Code} (l : Launch) (hst : l.stackTraces = false) {b L : Nat} {xs : Nat → Int32} {D : va_G} {τ : Nat → ClassId} {A : Nat → Prop} {sA sV : Nat → Nat} {ax am : Nat → Nat} {ao : Nat} (hx : p.tables.exec = Jvm.exec) (hb : c.code = code) (hml : c.maxLocals = 8) (hC : cx D τ s m #[Value.ref b] RL) (hLS : LK A s s.heap sA sV) (hXX : XX A s) (hA : ∀ q : Nat, s.heap.size ≤ q → A q) (hX : va_X b L xs s s.heap) (hbl : b < s.heap.size) (hbA : ¬ A b) (k : Nat) (hk : k < 512) (hkL : 5 * (k : Int) + 5 ≤ L) (hL : L ≤ 2560)
  (NEXT : ∀ (MX MM : Mem) (g : Int → Int) (H : Heap) (locs : List Loc) (ls : Array Slot) (cc ss : Nat), Rel (k + 1) MX MM → MR MX → MR MM → wS D A s.heap (WX τ ax MX ++ (WM τ am MM ++ [OC τ ao g])) H locs → lv_has ls 8 [(4, .int (iI (5 * (k : Int)))), (3, .ref ao), (2, .ref (am 1)), (1, .ref (ax 155)), (0, .ref b)] → cc ≤ 300 + 20 * (k + 1) → ss ≤ 6000 + 120 * (k + 1) → W p l e room_1 s m #[Value.ref b] below meth c H locs cc ss (lw_Z below #[Value.ref b] s) (F0 m 1248 ls []))
  (MX MM : Mem) (g : Int → Int) (H : Heap) (locs : List Loc) (ls : Array Slot) (hR : Rel k MX MM) (hMX : MR MX) (hMM : MR MM) (hw : wS D A s.heap (WX τ ax MX ++ (WM τ am MM ++ [OC τ ao g])) H locs) (hl : lv_has ls 8 [(4, .int (iI (5 * (k : Int)))), (3, .ref ao), (2, .ref (am 1)), (1, .ref (ax 155)), (0, .ref b)]) : W p l e room_1 s m #[Value.ref b] below meth c H locs (300 + 20 * k) (6000 + 120 * k) (lw_Z below #[Value.ref b] s) (F0 m 856 ls []) := by
  obtain ⟨y1, hy1, ey1⟩ := iI_of (xs (5 * (k : Int) + 1).toNat)
  obtain ⟨y2, hy2, ey2⟩ := iI_of (xs (5 * (k : Int) + 2).toNat)
  obtain ⟨y3, hy3, ey3⟩ := iI_of (xs (5 * (k : Int) + 3).toNat)
  obtain ⟨y4, hy4, ey4⟩ := iI_of (xs (5 * (k : Int) + 4).toNat)
  have hv := Rl_mends k MX MM y1 hy1 hk hMX hMM hR
  refine lv_aload_n hx hb dL_law_856 rfl (lv_at hl 3 rfl) ?_
  refine lv_aload_n hx hb dL_law_857 rfl (lv_at hl 4 rfl) ?_
  refine lv_iload hx hb dL_law_858 (lv_at hl 0 rfl) ?_
  refine r_iconst hx hb dL_law_860 ?_
  refine r_iadd (z := 5 * (k : Int) + 1) hx hb dL_law_861 rfl ?_
  refine r_sld hx hb hX hbl hbA hw (by omega) (by omega) (by omega) ey1 dL_law_862 ?_
  refine s_cVi (Wf := WX τ ax) (As := [.int (iI y1)]) (rest := []) hx hb hml hC hLS hA hw hl.1 (mX11_mends l D τ ax sA sV _ y1 hy1 MX hMX _ hv) kX11_mends ml_L_135 rfl (gX_155 τ ax MX) rfl rfl (Nat.le_of_ble_eq_true rfl) ⟨by decide, by decide⟩ ⟨by show 300 + 20 * k ≤ 601024; omega, by show 6000 + 120 * k ≤ 7293034; omega⟩ (cells' := 300 + 20 * k) (slots' := 6000 + 120 * k) rfl rfl dL_law_863 (fun z1 MX1 H locs hz1 hMX hv hw => ?_)
  refine lv_pop hx hb dL_law_866 rfl ?_
  refine lv_aload_n hx hb dL_law_867 rfl (lv_at hl 2 rfl) ?_
  refine lv_aload_n hx hb dL_law_868 rfl (lv_at hl 4 rfl) ?_
  refine lv_iload hx hb dL_law_869 (lv_at hl 0 rfl) ?_
  refine r_iconst hx hb dL_law_871 ?_
  refine r_iadd (z := 5 * (k : Int) + 1) hx hb dL_law_872 rfl ?_
  refine r_sld hx hb hX hbl hbA hw (by omega) (by omega) (by omega) ey1 dL_law_873 ?_
  have hw := hw.rot
  refine s_cVi (Wf := WM τ am) (As := [.int (iI y1)]) (rest := []) hx hb hml hC hLS hA hw hl.1 (mX12_mends l D τ am sA sV _ y1 hy1 MM hMM _ hv) kX12_mends ml_L_138 rfl (gM_1 τ am MM) rfl rfl (Nat.le_of_ble_eq_true rfl) ⟨by decide, by decide⟩ ⟨by show 300 + 20 * k ≤ 601024; omega, by show 6000 + 120 * k ≤ 7293034; omega⟩ (cells' := 300 + 20 * k) (slots' := 6000 + 120 * k) rfl rfl dL_law_874 (fun z2 MM2 H locs hz2 hMM hv hw => ?_)
  have hw := hw.rot.rot
  refine lv_pop hx hb dL_law_877 rfl ?_
  refine lv_goto (tgt := 1248) hx hb dL_law_878 (by decide) ?_
  exact NEXT MX1 MM2 g _ _ _ _ _ hv hMX hMM hw (lv_sub hl [0, 1, 2, 3, 4] rfl) (by omega) (by omega)
set_option maxHeartbeats 4000000 in
set_option maxRecDepth 100000 in
theorem law_case27 {p : Program} {e : Env} {s : State} {m : MethodId} {below : List Frame} {meth : Method} {c : Code} (l : Launch) (hst : l.stackTraces = false) {b L : Nat} {xs : Nat → Int32} {D : va_G} {τ : Nat → ClassId} {A : Nat → Prop} {sA sV : Nat → Nat} {ax am : Nat → Nat} {ao : Nat} (hx : p.tables.exec = Jvm.exec) (hb : c.code = code) (hml : c.maxLocals = 8) (hC : cx D τ s m #[Value.ref b] RL) (hLS : LK A s s.heap sA sV) (hXX : XX A s) (hA : ∀ q : Nat, s.heap.size ≤ q → A q) (hX : va_X b L xs s s.heap) (hbl : b < s.heap.size) (hbA : ¬ A b) (k : Nat) (hk : k < 512) (hkL : 5 * (k : Int) + 5 ≤ L) (hL : L ≤ 2560)
  (NEXT : ∀ (MX MM : Mem) (g : Int → Int) (H : Heap) (locs : List Loc) (ls : Array Slot) (cc ss : Nat), Rel (k + 1) MX MM → MR MX → MR MM → wS D A s.heap (WX τ ax MX ++ (WM τ am MM ++ [OC τ ao g])) H locs → lv_has ls 8 [(4, .int (iI (5 * (k : Int)))), (3, .ref ao), (2, .ref (am 1)), (1, .ref (ax 155)), (0, .ref b)] → cc ≤ 300 + 20 * (k + 1) → ss ≤ 6000 + 120 * (k + 1) → W p l e room_1 s m #[Value.ref b] below meth c H locs cc ss (lw_Z below #[Value.ref b] s) (F0 m 1248 ls []))
  (MX MM : Mem) (g : Int → Int) (H : Heap) (locs : List Loc) (ls : Array Slot) (hR : Rel k MX MM) (hMX : MR MX) (hMM : MR MM) (hw : wS D A s.heap (WX τ ax MX ++ (WM τ am MM ++ [OC τ ao g])) H locs) (hl : lv_has ls 8 [(4, .int (iI (5 * (k : Int)))), (3, .ref ao), (2, .ref (am 1)), (1, .ref (ax 155)), (0, .ref b)]) : W p l e room_1 s m #[Value.ref b] below meth c H locs (300 + 20 * k) (6000 + 120 * k) (lw_Z below #[Value.ref b] s) (F0 m 881 ls []) := by
  obtain ⟨y1, hy1, ey1⟩ := iI_of (xs (5 * (k : Int) + 1).toNat)
  obtain ⟨y2, hy2, ey2⟩ := iI_of (xs (5 * (k : Int) + 2).toNat)
  obtain ⟨y3, hy3, ey3⟩ := iI_of (xs (5 * (k : Int) + 3).toNat)
  obtain ⟨y4, hy4, ey4⟩ := iI_of (xs (5 * (k : Int) + 4).toNat)
  have hv := Rl_misleads k MX MM   hk hMX hMM hR
  refine lv_aload_n hx hb dL_law_881 rfl (lv_at hl 3 rfl) ?_
  refine s_cVi (Wf := WX τ ax) (As := []) (rest := []) hx hb hml hC hLS hA hw hl.1 (mX11_misleads l D τ ax sA sV _   MX hMX _ hv) kX11_misleads ml_L_139 rfl (gX_155 τ ax MX) rfl rfl (Nat.le_of_ble_eq_true rfl) ⟨by decide, by decide⟩ ⟨by show 300 + 20 * k ≤ 601024; omega, by show 6000 + 120 * k ≤ 7293034; omega⟩ (cells' := 300 + 20 * k) (slots' := 6000 + 120 * k) rfl rfl dL_law_882 (fun z1 MX1 H locs hz1 hMX hv hw => ?_)
  refine lv_pop hx hb dL_law_885 rfl ?_
  refine lv_aload_n hx hb dL_law_886 rfl (lv_at hl 2 rfl) ?_
  have hw := hw.rot
  refine s_cVi (Wf := WM τ am) (As := []) (rest := []) hx hb hml hC hLS hA hw hl.1 (mX12_misleads l D τ am sA sV _   MM hMM _ hv) kX12_misleads ml_L_142 rfl (gM_1 τ am MM) rfl rfl (Nat.le_of_ble_eq_true rfl) ⟨by decide, by decide⟩ ⟨by show 300 + 20 * k ≤ 601024; omega, by show 6000 + 120 * k ≤ 7293034; omega⟩ (cells' := 300 + 20 * k) (slots' := 6000 + 120 * k) rfl rfl dL_law_887 (fun z2 MM2 H locs hz2 hMM hv hw => ?_)
  have hw := hw.rot.rot
  refine lv_pop hx hb dL_law_890 rfl ?_
  refine lv_goto (tgt := 1248) hx hb dL_law_891 (by decide) ?_
  exact NEXT MX1 MM2 g _ _ _ _ _ hv hMX hMM hw (lv_sub hl [0, 1, 2, 3, 4] rfl) (by omega) (by omega)
set_option maxHeartbeats 4000000 in
set_option maxRecDepth 100000 in
theorem law_case28 {p : Program} {e : Env} {s : State} {m : MethodId} {below : List Frame} {meth : Method} {c : Code} (l : Launch) (hst : l.stackTraces = false) {b L : Nat} {xs : Nat → Int32} {D : va_G} {τ : Nat → ClassId} {A : Nat → Prop} {sA sV : Nat → Nat} {ax am : Nat → Nat} {ao : Nat} (hx : p.tables.exec = Jvm.exec) (hb : c.code = code) (hml : c.maxLocals = 8) (hC : cx D τ s m #[Value.ref b] RL) (hLS : LK A s s.heap sA sV) (hXX : XX A s) (hA : ∀ q : Nat, s.heap.size ≤ q → A q) (hX : va_X b L xs s s.heap) (hbl : b < s.heap.size) (hbA : ¬ A b) (k : Nat) (hk : k < 512) (hkL : 5 * (k : Int) + 5 ≤ L) (hL : L ≤ 2560)
  (NEXT : ∀ (MX MM : Mem) (g : Int → Int) (H : Heap) (locs : List Loc) (ls : Array Slot) (cc ss : Nat), Rel (k + 1) MX MM → MR MX → MR MM → wS D A s.heap (WX τ ax MX ++ (WM τ am MM ++ [OC τ ao g])) H locs → lv_has ls 8 [(4, .int (iI (5 * (k : Int)))), (3, .ref ao), (2, .ref (am 1)), (1, .ref (ax 155)), (0, .ref b)] → cc ≤ 300 + 20 * (k + 1) → ss ≤ 6000 + 120 * (k + 1) → W p l e room_1 s m #[Value.ref b] below meth c H locs cc ss (lw_Z below #[Value.ref b] s) (F0 m 1248 ls []))
  (MX MM : Mem) (g : Int → Int) (H : Heap) (locs : List Loc) (ls : Array Slot) (hR : Rel k MX MM) (hMX : MR MX) (hMM : MR MM) (hw : wS D A s.heap (WX τ ax MX ++ (WM τ am MM ++ [OC τ ao g])) H locs) (hl : lv_has ls 8 [(4, .int (iI (5 * (k : Int)))), (3, .ref ao), (2, .ref (am 1)), (1, .ref (ax 155)), (0, .ref b)]) : W p l e room_1 s m #[Value.ref b] below meth c H locs (300 + 20 * k) (6000 + 120 * k) (lw_Z below #[Value.ref b] s) (F0 m 894 ls []) := by
  obtain ⟨y1, hy1, ey1⟩ := iI_of (xs (5 * (k : Int) + 1).toNat)
  obtain ⟨y2, hy2, ey2⟩ := iI_of (xs (5 * (k : Int) + 2).toNat)
  obtain ⟨y3, hy3, ey3⟩ := iI_of (xs (5 * (k : Int) + 3).toNat)
  obtain ⟨y4, hy4, ey4⟩ := iI_of (xs (5 * (k : Int) + 4).toNat)
  have hv := Rl_crowd k MX MM   hk hMX hMM hR
  refine lv_aload_n hx hb dL_law_894 rfl (lv_at hl 3 rfl) ?_
  refine s_cVi (Wf := WX τ ax) (As := []) (rest := []) hx hb hml hC hLS hA hw hl.1 (mX11_crowd l D τ ax sA sV _   MX hMX _ hv) kX11_crowd ml_L_143 rfl (gX_155 τ ax MX) rfl rfl (Nat.le_of_ble_eq_true rfl) ⟨by decide, by decide⟩ ⟨by show 300 + 20 * k ≤ 601024; omega, by show 6000 + 120 * k ≤ 7293034; omega⟩ (cells' := 300 + 20 * k) (slots' := 6000 + 120 * k) rfl rfl dL_law_895 (fun z1 MX1 H locs hz1 hMX hv hw => ?_)
  refine lv_pop hx hb dL_law_898 rfl ?_
  refine lv_aload_n hx hb dL_law_899 rfl (lv_at hl 2 rfl) ?_
  have hw := hw.rot
  refine s_cVi (Wf := WM τ am) (As := []) (rest := []) hx hb hml hC hLS hA hw hl.1 (mX12_crowd l D τ am sA sV _   MM hMM _ hv) kX12_crowd ml_L_146 rfl (gM_1 τ am MM) rfl rfl (Nat.le_of_ble_eq_true rfl) ⟨by decide, by decide⟩ ⟨by show 300 + 20 * k ≤ 601024; omega, by show 6000 + 120 * k ≤ 7293034; omega⟩ (cells' := 300 + 20 * k) (slots' := 6000 + 120 * k) rfl rfl dL_law_900 (fun z2 MM2 H locs hz2 hMM hv hw => ?_)
  have hw := hw.rot.rot
  refine lv_pop hx hb dL_law_903 rfl ?_
  refine lv_goto (tgt := 1248) hx hb dL_law_904 (by decide) ?_
  exact NEXT MX1 MM2 g _ _ _ _ _ hv hMX hMM hw (lv_sub hl [0, 1, 2, 3, 4] rfl) (by omega) (by omega)
set_option maxHeartbeats 4000000 in
set_option maxRecDepth 100000 in
theorem law_case29 {p : Program} {e : Env} {s : State} {m : MethodId} {below : List Frame} {meth : Method} {c : Code} (l : Launch) (hst : l.stackTraces = false) {b L : Nat} {xs : Nat → Int32} {D : va_G} {τ : Nat → ClassId} {A : Nat → Prop} {sA sV : Nat → Nat} {ax am : Nat → Nat} {ao : Nat} (hx : p.tables.exec = Jvm.exec) (hb : c.code = code) (hml : c.maxLocals = 8) (hC : cx D τ s m #[Value.ref b] RL) (hLS : LK A s s.heap sA sV) (hXX : XX A s) (hA : ∀ q : Nat, s.heap.size ≤ q → A q) (hX : va_X b L xs s s.heap) (hbl : b < s.heap.size) (hbA : ¬ A b) (k : Nat) (hk : k < 512) (hkL : 5 * (k : Int) + 5 ≤ L) (hL : L ≤ 2560)
  (NEXT : ∀ (MX MM : Mem) (g : Int → Int) (H : Heap) (locs : List Loc) (ls : Array Slot) (cc ss : Nat), Rel (k + 1) MX MM → MR MX → MR MM → wS D A s.heap (WX τ ax MX ++ (WM τ am MM ++ [OC τ ao g])) H locs → lv_has ls 8 [(4, .int (iI (5 * (k : Int)))), (3, .ref ao), (2, .ref (am 1)), (1, .ref (ax 155)), (0, .ref b)] → cc ≤ 300 + 20 * (k + 1) → ss ≤ 6000 + 120 * (k + 1) → W p l e room_1 s m #[Value.ref b] below meth c H locs cc ss (lw_Z below #[Value.ref b] s) (F0 m 1248 ls []))
  (MX MM : Mem) (g : Int → Int) (H : Heap) (locs : List Loc) (ls : Array Slot) (hR : Rel k MX MM) (hMX : MR MX) (hMM : MR MM) (hw : wS D A s.heap (WX τ ax MX ++ (WM τ am MM ++ [OC τ ao g])) H locs) (hl : lv_has ls 8 [(4, .int (iI (5 * (k : Int)))), (3, .ref ao), (2, .ref (am 1)), (1, .ref (ax 155)), (0, .ref b)]) : W p l e room_1 s m #[Value.ref b] below meth c H locs (300 + 20 * k) (6000 + 120 * k) (lw_Z below #[Value.ref b] s) (F0 m 907 ls []) := by
  obtain ⟨y1, hy1, ey1⟩ := iI_of (xs (5 * (k : Int) + 1).toNat)
  obtain ⟨y2, hy2, ey2⟩ := iI_of (xs (5 * (k : Int) + 2).toNat)
  obtain ⟨y3, hy3, ey3⟩ := iI_of (xs (5 * (k : Int) + 3).toNat)
  obtain ⟨y4, hy4, ey4⟩ := iI_of (xs (5 * (k : Int) + 4).toNat)
  have hv := Rl_shares k MX MM y1 hy1 hk hMX hMM hR
  refine lv_aload_n hx hb dL_law_907 rfl (lv_at hl 3 rfl) ?_
  refine lv_aload_n hx hb dL_law_908 rfl (lv_at hl 4 rfl) ?_
  refine lv_iload hx hb dL_law_909 (lv_at hl 0 rfl) ?_
  refine r_iconst hx hb dL_law_911 ?_
  refine r_iadd (z := 5 * (k : Int) + 1) hx hb dL_law_912 rfl ?_
  refine r_sld hx hb hX hbl hbA hw (by omega) (by omega) (by omega) ey1 dL_law_913 ?_
  refine s_cVi (Wf := WX τ ax) (As := [.int (iI y1)]) (rest := []) hx hb hml hC hLS hA hw hl.1 (mX11_shares l D τ ax sA sV _ y1 hy1 MX hMX _ hv) kX11_shares ml_L_147 rfl (gX_155 τ ax MX) rfl rfl (Nat.le_of_ble_eq_true rfl) ⟨by decide, by decide⟩ ⟨by show 300 + 20 * k ≤ 601024; omega, by show 6000 + 120 * k ≤ 7293034; omega⟩ (cells' := 300 + 20 * k) (slots' := 6000 + 120 * k) rfl rfl dL_law_914 (fun z1 MX1 H locs hz1 hMX hv hw => ?_)
  refine lv_pop hx hb dL_law_917 rfl ?_
  refine lv_aload_n hx hb dL_law_918 rfl (lv_at hl 2 rfl) ?_
  refine lv_aload_n hx hb dL_law_919 rfl (lv_at hl 4 rfl) ?_
  refine lv_iload hx hb dL_law_920 (lv_at hl 0 rfl) ?_
  refine r_iconst hx hb dL_law_922 ?_
  refine r_iadd (z := 5 * (k : Int) + 1) hx hb dL_law_923 rfl ?_
  refine r_sld hx hb hX hbl hbA hw (by omega) (by omega) (by omega) ey1 dL_law_924 ?_
  have hw := hw.rot
  refine s_cVi (Wf := WM τ am) (As := [.int (iI y1)]) (rest := []) hx hb hml hC hLS hA hw hl.1 (mX12_shares l D τ am sA sV _ y1 hy1 MM hMM _ hv) kX12_shares ml_L_150 rfl (gM_1 τ am MM) rfl rfl (Nat.le_of_ble_eq_true rfl) ⟨by decide, by decide⟩ ⟨by show 300 + 20 * k ≤ 601024; omega, by show 6000 + 120 * k ≤ 7293034; omega⟩ (cells' := 300 + 20 * k) (slots' := 6000 + 120 * k) rfl rfl dL_law_925 (fun z2 MM2 H locs hz2 hMM hv hw => ?_)
  have hw := hw.rot.rot
  refine lv_pop hx hb dL_law_928 rfl ?_
  refine lv_goto (tgt := 1248) hx hb dL_law_929 (by decide) ?_
  exact NEXT MX1 MM2 g _ _ _ _ _ hv hMX hMM hw (lv_sub hl [0, 1, 2, 3, 4] rfl) (by omega) (by omega)
set_option maxHeartbeats 4000000 in
set_option maxRecDepth 100000 in
theorem law_case30 {p : Program} {e : Env} {s : State} {m : MethodId} {below : List Frame} {meth : Method} {c : Code} (l : Launch) (hst : l.stackTraces = false) {b L : Nat} {xs : Nat → Int32} {D : va_G} {τ : Nat → ClassId} {A : Nat → Prop} {sA sV : Nat → Nat} {ax am : Nat → Nat} {ao : Nat} (hx : p.tables.exec = Jvm.exec) (hb : c.code = code) (hml : c.maxLocals = 8) (hC : cx D τ s m #[Value.ref b] RL) (hLS : LK A s s.heap sA sV) (hXX : XX A s) (hA : ∀ q : Nat, s.heap.size ≤ q → A q) (hX : va_X b L xs s s.heap) (hbl : b < s.heap.size) (hbA : ¬ A b) (k : Nat) (hk : k < 512) (hkL : 5 * (k : Int) + 5 ≤ L) (hL : L ≤ 2560)
  (NEXT : ∀ (MX MM : Mem) (g : Int → Int) (H : Heap) (locs : List Loc) (ls : Array Slot) (cc ss : Nat), Rel (k + 1) MX MM → MR MX → MR MM → wS D A s.heap (WX τ ax MX ++ (WM τ am MM ++ [OC τ ao g])) H locs → lv_has ls 8 [(4, .int (iI (5 * (k : Int)))), (3, .ref ao), (2, .ref (am 1)), (1, .ref (ax 155)), (0, .ref b)] → cc ≤ 300 + 20 * (k + 1) → ss ≤ 6000 + 120 * (k + 1) → W p l e room_1 s m #[Value.ref b] below meth c H locs cc ss (lw_Z below #[Value.ref b] s) (F0 m 1248 ls []))
  (MX MM : Mem) (g : Int → Int) (H : Heap) (locs : List Loc) (ls : Array Slot) (hR : Rel k MX MM) (hMX : MR MX) (hMM : MR MM) (hw : wS D A s.heap (WX τ ax MX ++ (WM τ am MM ++ [OC τ ao g])) H locs) (hl : lv_has ls 8 [(4, .int (iI (5 * (k : Int)))), (3, .ref ao), (2, .ref (am 1)), (1, .ref (ax 155)), (0, .ref b)]) : W p l e room_1 s m #[Value.ref b] below meth c H locs (300 + 20 * k) (6000 + 120 * k) (lw_Z below #[Value.ref b] s) (F0 m 932 ls []) := by
  obtain ⟨y1, hy1, ey1⟩ := iI_of (xs (5 * (k : Int) + 1).toNat)
  obtain ⟨y2, hy2, ey2⟩ := iI_of (xs (5 * (k : Int) + 2).toNat)
  obtain ⟨y3, hy3, ey3⟩ := iI_of (xs (5 * (k : Int) + 3).toNat)
  obtain ⟨y4, hy4, ey4⟩ := iI_of (xs (5 * (k : Int) + 4).toNat)
  have hv := Rl_strangers k MX MM   hk hMX hMM hR
  refine lv_aload_n hx hb dL_law_932 rfl (lv_at hl 3 rfl) ?_
  refine s_cVi (Wf := WX τ ax) (As := []) (rest := []) hx hb hml hC hLS hA hw hl.1 (mX11_strangers l D τ ax sA sV _   MX hMX _ hv) kX11_strangers ml_L_151 rfl (gX_155 τ ax MX) rfl rfl (Nat.le_of_ble_eq_true rfl) ⟨by decide, by decide⟩ ⟨by show 300 + 20 * k ≤ 601024; omega, by show 6000 + 120 * k ≤ 7293034; omega⟩ (cells' := 300 + 20 * k) (slots' := 6000 + 120 * k) rfl rfl dL_law_933 (fun z1 MX1 H locs hz1 hMX hv hw => ?_)
  refine lv_pop hx hb dL_law_936 rfl ?_
  refine lv_aload_n hx hb dL_law_937 rfl (lv_at hl 2 rfl) ?_
  have hw := hw.rot
  refine s_cVi (Wf := WM τ am) (As := []) (rest := []) hx hb hml hC hLS hA hw hl.1 (mX12_strangers l D τ am sA sV _   MM hMM _ hv) kX12_strangers ml_L_154 rfl (gM_1 τ am MM) rfl rfl (Nat.le_of_ble_eq_true rfl) ⟨by decide, by decide⟩ ⟨by show 300 + 20 * k ≤ 601024; omega, by show 6000 + 120 * k ≤ 7293034; omega⟩ (cells' := 300 + 20 * k) (slots' := 6000 + 120 * k) rfl rfl dL_law_938 (fun z2 MM2 H locs hz2 hMM hv hw => ?_)
  have hw := hw.rot.rot
  refine lv_pop hx hb dL_law_941 rfl ?_
  refine lv_goto (tgt := 1248) hx hb dL_law_942 (by decide) ?_
  exact NEXT MX1 MM2 g _ _ _ _ _ hv hMX hMM hw (lv_sub hl [0, 1, 2, 3, 4] rfl) (by omega) (by omega)
set_option maxHeartbeats 4000000 in
set_option maxRecDepth 100000 in
theorem law_case31 {p : Program} {e : Env} {s : State} {m : MethodId} {below : List Frame} {meth : Method} {c : Code} (l : Launch) (hst : l.stackTraces = false) {b L : Nat} {xs : Nat → Int32} {D : va_G} {τ : Nat → ClassId} {A : Nat → Prop} {sA sV : Nat → Nat} {ax am : Nat → Nat} {ao : Nat} (hx : p.tables.exec = Jvm.exec) (hb : c.code = code) (hml : c.maxLocals = 8) (hC : cx D τ s m #[Value.ref b] RL) (hLS : LK A s s.heap sA sV) (hXX : XX A s) (hA : ∀ q : Nat, s.heap.size ≤ q → A q) (hX : va_X b L xs s s.heap) (hbl : b < s.heap.size) (hbA : ¬ A b) (k : Nat) (hk : k < 512) (hkL : 5 * (k : Int) + 5 ≤ L) (hL : L ≤ 2560)
  (NEXT : ∀ (MX MM : Mem) (g : Int → Int) (H : Heap) (locs : List Loc) (ls : Array Slot) (cc ss : Nat), Rel (k + 1) MX MM → MR MX → MR MM → wS D A s.heap (WX τ ax MX ++ (WM τ am MM ++ [OC τ ao g])) H locs → lv_has ls 8 [(4, .int (iI (5 * (k : Int)))), (3, .ref ao), (2, .ref (am 1)), (1, .ref (ax 155)), (0, .ref b)] → cc ≤ 300 + 20 * (k + 1) → ss ≤ 6000 + 120 * (k + 1) → W p l e room_1 s m #[Value.ref b] below meth c H locs cc ss (lw_Z below #[Value.ref b] s) (F0 m 1248 ls []))
  (MX MM : Mem) (g : Int → Int) (H : Heap) (locs : List Loc) (ls : Array Slot) (hR : Rel k MX MM) (hMX : MR MX) (hMM : MR MM) (hw : wS D A s.heap (WX τ ax MX ++ (WM τ am MM ++ [OC τ ao g])) H locs) (hl : lv_has ls 8 [(4, .int (iI (5 * (k : Int)))), (3, .ref ao), (2, .ref (am 1)), (1, .ref (ax 155)), (0, .ref b)]) : W p l e room_1 s m #[Value.ref b] below meth c H locs (300 + 20 * k) (6000 + 120 * k) (lw_Z below #[Value.ref b] s) (F0 m 945 ls []) := by
  obtain ⟨y1, hy1, ey1⟩ := iI_of (xs (5 * (k : Int) + 1).toNat)
  obtain ⟨y2, hy2, ey2⟩ := iI_of (xs (5 * (k : Int) + 2).toNat)
  obtain ⟨y3, hy3, ey3⟩ := iI_of (xs (5 * (k : Int) + 3).toNat)
  obtain ⟨y4, hy4, ey4⟩ := iI_of (xs (5 * (k : Int) + 4).toNat)
  have hv := Rl_doubts k MX MM   hk hMX hMM hR
  refine lv_aload_n hx hb dL_law_945 rfl (lv_at hl 3 rfl) ?_
  refine s_cVi (Wf := WX τ ax) (As := []) (rest := []) hx hb hml hC hLS hA hw hl.1 (mX11_doubts l D τ ax sA sV _   MX hMX _ hv) kX11_doubts ml_L_155 rfl (gX_155 τ ax MX) rfl rfl (Nat.le_of_ble_eq_true rfl) ⟨by decide, by decide⟩ ⟨by show 300 + 20 * k ≤ 601024; omega, by show 6000 + 120 * k ≤ 7293034; omega⟩ (cells' := 300 + 20 * k) (slots' := 6000 + 120 * k) rfl rfl dL_law_946 (fun z1 MX1 H locs hz1 hMX hv hw => ?_)
  refine lv_pop hx hb dL_law_949 rfl ?_
  refine lv_aload_n hx hb dL_law_950 rfl (lv_at hl 2 rfl) ?_
  have hw := hw.rot
  refine s_cVi (Wf := WM τ am) (As := []) (rest := []) hx hb hml hC hLS hA hw hl.1 (mX12_doubts l D τ am sA sV _   MM hMM _ hv) kX12_doubts ml_L_158 rfl (gM_1 τ am MM) rfl rfl (Nat.le_of_ble_eq_true rfl) ⟨by decide, by decide⟩ ⟨by show 300 + 20 * k ≤ 601024; omega, by show 6000 + 120 * k ≤ 7293034; omega⟩ (cells' := 300 + 20 * k) (slots' := 6000 + 120 * k) rfl rfl dL_law_951 (fun z2 MM2 H locs hz2 hMM hv hw => ?_)
  have hw := hw.rot.rot
  refine lv_pop hx hb dL_law_954 rfl ?_
  refine lv_goto (tgt := 1248) hx hb dL_law_955 (by decide) ?_
  exact NEXT MX1 MM2 g _ _ _ _ _ hv hMX hMM hw (lv_sub hl [0, 1, 2, 3, 4] rfl) (by omega) (by omega)
set_option maxHeartbeats 4000000 in
set_option maxRecDepth 100000 in
theorem law_case32 {p : Program} {e : Env} {s : State} {m : MethodId} {below : List Frame} {meth : Method} {c : Code} (l : Launch) (hst : l.stackTraces = false) {b L : Nat} {xs : Nat → Int32} {D : va_G} {τ : Nat → ClassId} {A : Nat → Prop} {sA sV : Nat → Nat} {ax am : Nat → Nat} {ao : Nat} (hx : p.tables.exec = Jvm.exec) (hb : c.code = code) (hml : c.maxLocals = 8) (hC : cx D τ s m #[Value.ref b] RL) (hLS : LK A s s.heap sA sV) (hXX : XX A s) (hA : ∀ q : Nat, s.heap.size ≤ q → A q) (hX : va_X b L xs s s.heap) (hbl : b < s.heap.size) (hbA : ¬ A b) (k : Nat) (hk : k < 512) (hkL : 5 * (k : Int) + 5 ≤ L) (hL : L ≤ 2560)
  (NEXT : ∀ (MX MM : Mem) (g : Int → Int) (H : Heap) (locs : List Loc) (ls : Array Slot) (cc ss : Nat), Rel (k + 1) MX MM → MR MX → MR MM → wS D A s.heap (WX τ ax MX ++ (WM τ am MM ++ [OC τ ao g])) H locs → lv_has ls 8 [(4, .int (iI (5 * (k : Int)))), (3, .ref ao), (2, .ref (am 1)), (1, .ref (ax 155)), (0, .ref b)] → cc ≤ 300 + 20 * (k + 1) → ss ≤ 6000 + 120 * (k + 1) → W p l e room_1 s m #[Value.ref b] below meth c H locs cc ss (lw_Z below #[Value.ref b] s) (F0 m 1248 ls []))
  (MX MM : Mem) (g : Int → Int) (H : Heap) (locs : List Loc) (ls : Array Slot) (hR : Rel k MX MM) (hMX : MR MX) (hMM : MR MM) (hw : wS D A s.heap (WX τ ax MX ++ (WM τ am MM ++ [OC τ ao g])) H locs) (hl : lv_has ls 8 [(4, .int (iI (5 * (k : Int)))), (3, .ref ao), (2, .ref (am 1)), (1, .ref (ax 155)), (0, .ref b)]) : W p l e room_1 s m #[Value.ref b] below meth c H locs (300 + 20 * k) (6000 + 120 * k) (lw_Z below #[Value.ref b] s) (F0 m 958 ls []) := by
  obtain ⟨y1, hy1, ey1⟩ := iI_of (xs (5 * (k : Int) + 1).toNat)
  obtain ⟨y2, hy2, ey2⟩ := iI_of (xs (5 * (k : Int) + 2).toNat)
  obtain ⟨y3, hy3, ey3⟩ := iI_of (xs (5 * (k : Int) + 3).toNat)
  obtain ⟨y4, hy4, ey4⟩ := iI_of (xs (5 * (k : Int) + 4).toNat)
  have hv := Rl_heard k MX MM y1 y2 hy1 hy2 hk hMX hMM hR
  refine lv_aload_n hx hb dL_law_958 rfl (lv_at hl 3 rfl) ?_
  refine lv_aload_n hx hb dL_law_959 rfl (lv_at hl 4 rfl) ?_
  refine lv_iload hx hb dL_law_960 (lv_at hl 0 rfl) ?_
  refine r_iconst hx hb dL_law_962 ?_
  refine r_iadd (z := 5 * (k : Int) + 1) hx hb dL_law_963 rfl ?_
  refine r_sld hx hb hX hbl hbA hw (by omega) (by omega) (by omega) ey1 dL_law_964 ?_
  refine lv_aload_n hx hb dL_law_965 rfl (lv_at hl 4 rfl) ?_
  refine lv_iload hx hb dL_law_966 (lv_at hl 0 rfl) ?_
  refine r_iconst hx hb dL_law_968 ?_
  refine r_iadd (z := 5 * (k : Int) + 2) hx hb dL_law_969 rfl ?_
  refine r_sld hx hb hX hbl hbA hw (by omega) (by omega) (by omega) ey2 dL_law_970 ?_
  refine s_cVi (Wf := WX τ ax) (As := [.int (iI y1), .int (iI y2)]) (rest := []) hx hb hml hC hLS hA hw hl.1 (mX11_heard l D τ ax sA sV _ y1 y2 hy1 hy2 MX hMX _ hv) kX11_heard ml_L_159 rfl (gX_155 τ ax MX) rfl rfl (Nat.le_of_ble_eq_true rfl) ⟨by decide, by decide⟩ ⟨by show 300 + 20 * k ≤ 601024; omega, by show 6000 + 120 * k ≤ 7293034; omega⟩ (cells' := 300 + 20 * k) (slots' := 6000 + 120 * k) rfl rfl dL_law_971 (fun z1 MX1 H locs hz1 hMX hv hw => ?_)
  refine lv_pop hx hb dL_law_974 rfl ?_
  refine lv_aload_n hx hb dL_law_975 rfl (lv_at hl 2 rfl) ?_
  refine lv_aload_n hx hb dL_law_976 rfl (lv_at hl 4 rfl) ?_
  refine lv_iload hx hb dL_law_977 (lv_at hl 0 rfl) ?_
  refine r_iconst hx hb dL_law_979 ?_
  refine r_iadd (z := 5 * (k : Int) + 1) hx hb dL_law_980 rfl ?_
  refine r_sld hx hb hX hbl hbA hw (by omega) (by omega) (by omega) ey1 dL_law_981 ?_
  refine lv_aload_n hx hb dL_law_982 rfl (lv_at hl 4 rfl) ?_
  refine lv_iload hx hb dL_law_983 (lv_at hl 0 rfl) ?_
  refine r_iconst hx hb dL_law_985 ?_
  refine r_iadd (z := 5 * (k : Int) + 2) hx hb dL_law_986 rfl ?_
  refine r_sld hx hb hX hbl hbA hw (by omega) (by omega) (by omega) ey2 dL_law_987 ?_
  have hw := hw.rot
  refine s_cVi (Wf := WM τ am) (As := [.int (iI y1), .int (iI y2)]) (rest := []) hx hb hml hC hLS hA hw hl.1 (mX12_heard l D τ am sA sV _ y1 y2 hy1 hy2 MM hMM _ hv) kX12_heard ml_L_162 rfl (gM_1 τ am MM) rfl rfl (Nat.le_of_ble_eq_true rfl) ⟨by decide, by decide⟩ ⟨by show 300 + 20 * k ≤ 601024; omega, by show 6000 + 120 * k ≤ 7293034; omega⟩ (cells' := 300 + 20 * k) (slots' := 6000 + 120 * k) rfl rfl dL_law_988 (fun z2 MM2 H locs hz2 hMM hv hw => ?_)
  have hw := hw.rot.rot
  refine lv_pop hx hb dL_law_991 rfl ?_
  refine lv_goto (tgt := 1248) hx hb dL_law_992 (by decide) ?_
  exact NEXT MX1 MM2 g _ _ _ _ _ hv hMX hMM hw (lv_sub hl [0, 1, 2, 3, 4] rfl) (by omega) (by omega)
set_option maxHeartbeats 4000000 in
set_option maxRecDepth 100000 in
theorem law_case33 {p : Program} {e : Env} {s : State} {m : MethodId} {below : List Frame} {meth : Method} {c : Code} (l : Launch) (hst : l.stackTraces = false) {b L : Nat} {xs : Nat → Int32} {D : va_G} {τ : Nat → ClassId} {A : Nat → Prop} {sA sV : Nat → Nat} {ax am : Nat → Nat} {ao : Nat} (hx : p.tables.exec = Jvm.exec) (hb : c.code = code) (hml : c.maxLocals = 8) (hC : cx D τ s m #[Value.ref b] RL) (hLS : LK A s s.heap sA sV) (hXX : XX A s) (hA : ∀ q : Nat, s.heap.size ≤ q → A q) (hX : va_X b L xs s s.heap) (hbl : b < s.heap.size) (hbA : ¬ A b) (k : Nat) (hk : k < 512) (hkL : 5 * (k : Int) + 5 ≤ L) (hL : L ≤ 2560)
  (NEXT : ∀ (MX MM : Mem) (g : Int → Int) (H : Heap) (locs : List Loc) (ls : Array Slot) (cc ss : Nat), Rel (k + 1) MX MM → MR MX → MR MM → wS D A s.heap (WX τ ax MX ++ (WM τ am MM ++ [OC τ ao g])) H locs → lv_has ls 8 [(4, .int (iI (5 * (k : Int)))), (3, .ref ao), (2, .ref (am 1)), (1, .ref (ax 155)), (0, .ref b)] → cc ≤ 300 + 20 * (k + 1) → ss ≤ 6000 + 120 * (k + 1) → W p l e room_1 s m #[Value.ref b] below meth c H locs cc ss (lw_Z below #[Value.ref b] s) (F0 m 1248 ls []))
  (MX MM : Mem) (g : Int → Int) (H : Heap) (locs : List Loc) (ls : Array Slot) (hR : Rel k MX MM) (hMX : MR MX) (hMM : MR MM) (hw : wS D A s.heap (WX τ ax MX ++ (WM τ am MM ++ [OC τ ao g])) H locs) (hl : lv_has ls 8 [(4, .int (iI (5 * (k : Int)))), (3, .ref ao), (2, .ref (am 1)), (1, .ref (ax 155)), (0, .ref b)]) : W p l e room_1 s m #[Value.ref b] below meth c H locs (300 + 20 * k) (6000 + 120 * k) (lw_Z below #[Value.ref b] s) (F0 m 995 ls []) := by
  obtain ⟨y1, hy1, ey1⟩ := iI_of (xs (5 * (k : Int) + 1).toNat)
  obtain ⟨y2, hy2, ey2⟩ := iI_of (xs (5 * (k : Int) + 2).toNat)
  obtain ⟨y3, hy3, ey3⟩ := iI_of (xs (5 * (k : Int) + 3).toNat)
  obtain ⟨y4, hy4, ey4⟩ := iI_of (xs (5 * (k : Int) + 4).toNat)
  have hv := Rl_forget k MX MM   hk hMX hMM hR
  refine lv_aload_n hx hb dL_law_995 rfl (lv_at hl 3 rfl) ?_
  refine s_cVi (Wf := WX τ ax) (As := []) (rest := []) hx hb hml hC hLS hA hw hl.1 (mX11_forget l D τ ax sA sV _   MX hMX _ hv) kX11_forget ml_L_163 rfl (gX_155 τ ax MX) rfl rfl (Nat.le_of_ble_eq_true rfl) ⟨by decide, by decide⟩ ⟨by show 300 + 20 * k ≤ 601024; omega, by show 6000 + 120 * k ≤ 7293034; omega⟩ (cells' := 300 + 20 * k) (slots' := 6000 + 120 * k) rfl rfl dL_law_996 (fun z1 MX1 H locs hz1 hMX hv hw => ?_)
  refine lv_pop hx hb dL_law_999 rfl ?_
  refine lv_aload_n hx hb dL_law_1000 rfl (lv_at hl 2 rfl) ?_
  have hw := hw.rot
  refine s_cVi (Wf := WM τ am) (As := []) (rest := []) hx hb hml hC hLS hA hw hl.1 (mX12_forget l D τ am sA sV _   MM hMM _ hv) kX12_forget ml_L_166 rfl (gM_1 τ am MM) rfl rfl (Nat.le_of_ble_eq_true rfl) ⟨by decide, by decide⟩ ⟨by show 300 + 20 * k ≤ 601024; omega, by show 6000 + 120 * k ≤ 7293034; omega⟩ (cells' := 300 + 20 * k) (slots' := 6000 + 120 * k) rfl rfl dL_law_1001 (fun z2 MM2 H locs hz2 hMM hv hw => ?_)
  have hw := hw.rot.rot
  refine lv_pop hx hb dL_law_1004 rfl ?_
  refine lv_goto (tgt := 1248) hx hb dL_law_1005 (by decide) ?_
  exact NEXT MX1 MM2 g _ _ _ _ _ hv hMX hMM hw (lv_sub hl [0, 1, 2, 3, 4] rfl) (by omega) (by omega)
set_option maxHeartbeats 4000000 in
set_option maxRecDepth 100000 in
theorem law_case34 {p : Program} {e : Env} {s : State} {m : MethodId} {below : List Frame} {meth : Method} {c : Code} (l : Launch) (hst : l.stackTraces = false) {b L : Nat} {xs : Nat → Int32} {D : va_G} {τ : Nat → ClassId} {A : Nat → Prop} {sA sV : Nat → Nat} {ax am : Nat → Nat} {ao : Nat} (hx : p.tables.exec = Jvm.exec) (hb : c.code = code) (hml : c.maxLocals = 8) (hC : cx D τ s m #[Value.ref b] RL) (hLS : LK A s s.heap sA sV) (hXX : XX A s) (hA : ∀ q : Nat, s.heap.size ≤ q → A q) (hX : va_X b L xs s s.heap) (hbl : b < s.heap.size) (hbA : ¬ A b) (k : Nat) (hk : k < 512) (hkL : 5 * (k : Int) + 5 ≤ L) (hL : L ≤ 2560)
  (NEXT : ∀ (MX MM : Mem) (g : Int → Int) (H : Heap) (locs : List Loc) (ls : Array Slot) (cc ss : Nat), Rel (k + 1) MX MM → MR MX → MR MM → wS D A s.heap (WX τ ax MX ++ (WM τ am MM ++ [OC τ ao g])) H locs → lv_has ls 8 [(4, .int (iI (5 * (k : Int)))), (3, .ref ao), (2, .ref (am 1)), (1, .ref (ax 155)), (0, .ref b)] → cc ≤ 300 + 20 * (k + 1) → ss ≤ 6000 + 120 * (k + 1) → W p l e room_1 s m #[Value.ref b] below meth c H locs cc ss (lw_Z below #[Value.ref b] s) (F0 m 1248 ls []))
  (MX MM : Mem) (g : Int → Int) (H : Heap) (locs : List Loc) (ls : Array Slot) (hR : Rel k MX MM) (hMX : MR MX) (hMM : MR MM) (hw : wS D A s.heap (WX τ ax MX ++ (WM τ am MM ++ [OC τ ao g])) H locs) (hl : lv_has ls 8 [(4, .int (iI (5 * (k : Int)))), (3, .ref ao), (2, .ref (am 1)), (1, .ref (ax 155)), (0, .ref b)]) : W p l e room_1 s m #[Value.ref b] below meth c H locs (300 + 20 * k) (6000 + 120 * k) (lw_Z below #[Value.ref b] s) (F0 m 1008 ls []) := by
  obtain ⟨y1, hy1, ey1⟩ := iI_of (xs (5 * (k : Int) + 1).toNat)
  obtain ⟨y2, hy2, ey2⟩ := iI_of (xs (5 * (k : Int) + 2).toNat)
  obtain ⟨y3, hy3, ey3⟩ := iI_of (xs (5 * (k : Int) + 3).toNat)
  obtain ⟨y4, hy4, ey4⟩ := iI_of (xs (5 * (k : Int) + 4).toNat)
  have hv := Rl_fits k MX MM   hk hMX hMM hR
  refine lv_aload_n hx hb dL_law_1008 rfl (lv_at hl 3 rfl) ?_
  refine s_cVi (Wf := WX τ ax) (As := []) (rest := []) hx hb hml hC hLS hA hw hl.1 (mX11_fits l D τ ax sA sV _   MX hMX _ hv) kX11_fits ml_L_167 rfl (gX_155 τ ax MX) rfl rfl (Nat.le_of_ble_eq_true rfl) ⟨by decide, by decide⟩ ⟨by show 300 + 20 * k ≤ 601024; omega, by show 6000 + 120 * k ≤ 7293034; omega⟩ (cells' := 300 + 20 * k) (slots' := 6000 + 120 * k) rfl rfl dL_law_1009 (fun z1 MX1 H locs hz1 hMX hv hw => ?_)
  refine lv_pop hx hb dL_law_1012 rfl ?_
  refine lv_aload_n hx hb dL_law_1013 rfl (lv_at hl 2 rfl) ?_
  have hw := hw.rot
  refine s_cVi (Wf := WM τ am) (As := []) (rest := []) hx hb hml hC hLS hA hw hl.1 (mX12_fits l D τ am sA sV _   MM hMM _ hv) kX12_fits ml_L_170 rfl (gM_1 τ am MM) rfl rfl (Nat.le_of_ble_eq_true rfl) ⟨by decide, by decide⟩ ⟨by show 300 + 20 * k ≤ 601024; omega, by show 6000 + 120 * k ≤ 7293034; omega⟩ (cells' := 300 + 20 * k) (slots' := 6000 + 120 * k) rfl rfl dL_law_1014 (fun z2 MM2 H locs hz2 hMM hv hw => ?_)
  have hw := hw.rot.rot
  refine lv_pop hx hb dL_law_1017 rfl ?_
  refine lv_goto (tgt := 1248) hx hb dL_law_1018 (by decide) ?_
  exact NEXT MX1 MM2 g _ _ _ _ _ hv hMX hMM hw (lv_sub hl [0, 1, 2, 3, 4] rfl) (by omega) (by omega)
set_option maxHeartbeats 4000000 in
set_option maxRecDepth 100000 in
theorem law_case35 {p : Program} {e : Env} {s : State} {m : MethodId} {below : List Frame} {meth : Method} {c : Code} (l : Launch) (hst : l.stackTraces = false) {b L : Nat} {xs : Nat → Int32} {D : va_G} {τ : Nat → ClassId} {A : Nat → Prop} {sA sV : Nat → Nat} {ax am : Nat → Nat} {ao : Nat} (hx : p.tables.exec = Jvm.exec) (hb : c.code = code) (hml : c.maxLocals = 8) (hC : cx D τ s m #[Value.ref b] RL) (hLS : LK A s s.heap sA sV) (hXX : XX A s) (hA : ∀ q : Nat, s.heap.size ≤ q → A q) (hX : va_X b L xs s s.heap) (hbl : b < s.heap.size) (hbA : ¬ A b) (k : Nat) (hk : k < 512) (hkL : 5 * (k : Int) + 5 ≤ L) (hL : L ≤ 2560)
  (NEXT : ∀ (MX MM : Mem) (g : Int → Int) (H : Heap) (locs : List Loc) (ls : Array Slot) (cc ss : Nat), Rel (k + 1) MX MM → MR MX → MR MM → wS D A s.heap (WX τ ax MX ++ (WM τ am MM ++ [OC τ ao g])) H locs → lv_has ls 8 [(4, .int (iI (5 * (k : Int)))), (3, .ref ao), (2, .ref (am 1)), (1, .ref (ax 155)), (0, .ref b)] → cc ≤ 300 + 20 * (k + 1) → ss ≤ 6000 + 120 * (k + 1) → W p l e room_1 s m #[Value.ref b] below meth c H locs cc ss (lw_Z below #[Value.ref b] s) (F0 m 1248 ls []))
  (MX MM : Mem) (g : Int → Int) (H : Heap) (locs : List Loc) (ls : Array Slot) (hR : Rel k MX MM) (hMX : MR MX) (hMM : MR MM) (hw : wS D A s.heap (WX τ ax MX ++ (WM τ am MM ++ [OC τ ao g])) H locs) (hl : lv_has ls 8 [(4, .int (iI (5 * (k : Int)))), (3, .ref ao), (2, .ref (am 1)), (1, .ref (ax 155)), (0, .ref b)]) : W p l e room_1 s m #[Value.ref b] below meth c H locs (300 + 20 * k) (6000 + 120 * k) (lw_Z below #[Value.ref b] s) (F0 m 1021 ls []) := by
  obtain ⟨y1, hy1, ey1⟩ := iI_of (xs (5 * (k : Int) + 1).toNat)
  obtain ⟨y2, hy2, ey2⟩ := iI_of (xs (5 * (k : Int) + 2).toNat)
  obtain ⟨y3, hy3, ey3⟩ := iI_of (xs (5 * (k : Int) + 3).toNat)
  obtain ⟨y4, hy4, ey4⟩ := iI_of (xs (5 * (k : Int) + 4).toNat)
  have hv := Rl_rains k MX MM y1 y2 y3 hy1 hy2 hy3 hk hMX hMM hR
  refine lv_aload_n hx hb dL_law_1021 rfl (lv_at hl 3 rfl) ?_
  refine lv_aload_n hx hb dL_law_1022 rfl (lv_at hl 4 rfl) ?_
  refine lv_iload hx hb dL_law_1023 (lv_at hl 0 rfl) ?_
  refine r_iconst hx hb dL_law_1025 ?_
  refine r_iadd (z := 5 * (k : Int) + 1) hx hb dL_law_1026 rfl ?_
  refine r_sld hx hb hX hbl hbA hw (by omega) (by omega) (by omega) ey1 dL_law_1027 ?_
  refine lv_aload_n hx hb dL_law_1028 rfl (lv_at hl 4 rfl) ?_
  refine lv_iload hx hb dL_law_1029 (lv_at hl 0 rfl) ?_
  refine r_iconst hx hb dL_law_1031 ?_
  refine r_iadd (z := 5 * (k : Int) + 2) hx hb dL_law_1032 rfl ?_
  refine r_sld hx hb hX hbl hbA hw (by omega) (by omega) (by omega) ey2 dL_law_1033 ?_
  refine lv_aload_n hx hb dL_law_1034 rfl (lv_at hl 4 rfl) ?_
  refine lv_iload hx hb dL_law_1035 (lv_at hl 0 rfl) ?_
  refine r_iconst hx hb dL_law_1037 ?_
  refine r_iadd (z := 5 * (k : Int) + 3) hx hb dL_law_1038 rfl ?_
  refine r_sld hx hb hX hbl hbA hw (by omega) (by omega) (by omega) ey3 dL_law_1039 ?_
  refine s_cVi (Wf := WX τ ax) (As := [.int (iI y1), .int (iI y2), .int (iI y3)]) (rest := []) hx hb hml hC hLS hA hw hl.1 (mX11_rains l D τ ax sA sV _ y1 y2 y3 hy1 hy2 hy3 MX hMX _ hv) kX11_rains ml_L_171 rfl (gX_155 τ ax MX) rfl rfl (Nat.le_of_ble_eq_true rfl) ⟨by decide, by decide⟩ ⟨by show 300 + 20 * k ≤ 601024; omega, by show 6000 + 120 * k ≤ 7293034; omega⟩ (cells' := 300 + 20 * k) (slots' := 6000 + 120 * k) rfl rfl dL_law_1040 (fun z1 MX1 H locs hz1 hMX hv hw => ?_)
  refine lv_pop hx hb dL_law_1043 rfl ?_
  refine lv_aload_n hx hb dL_law_1044 rfl (lv_at hl 2 rfl) ?_
  refine lv_aload_n hx hb dL_law_1045 rfl (lv_at hl 4 rfl) ?_
  refine lv_iload hx hb dL_law_1046 (lv_at hl 0 rfl) ?_
  refine r_iconst hx hb dL_law_1048 ?_
  refine r_iadd (z := 5 * (k : Int) + 1) hx hb dL_law_1049 rfl ?_
  refine r_sld hx hb hX hbl hbA hw (by omega) (by omega) (by omega) ey1 dL_law_1050 ?_
  refine lv_aload_n hx hb dL_law_1051 rfl (lv_at hl 4 rfl) ?_
  refine lv_iload hx hb dL_law_1052 (lv_at hl 0 rfl) ?_
  refine r_iconst hx hb dL_law_1054 ?_
  refine r_iadd (z := 5 * (k : Int) + 2) hx hb dL_law_1055 rfl ?_
  refine r_sld hx hb hX hbl hbA hw (by omega) (by omega) (by omega) ey2 dL_law_1056 ?_
  refine lv_aload_n hx hb dL_law_1057 rfl (lv_at hl 4 rfl) ?_
  refine lv_iload hx hb dL_law_1058 (lv_at hl 0 rfl) ?_
  refine r_iconst hx hb dL_law_1060 ?_
  refine r_iadd (z := 5 * (k : Int) + 3) hx hb dL_law_1061 rfl ?_
  refine r_sld hx hb hX hbl hbA hw (by omega) (by omega) (by omega) ey3 dL_law_1062 ?_
  have hw := hw.rot
  refine s_cVi (Wf := WM τ am) (As := [.int (iI y1), .int (iI y2), .int (iI y3)]) (rest := []) hx hb hml hC hLS hA hw hl.1 (mX12_rains l D τ am sA sV _ y1 y2 y3 hy1 hy2 hy3 MM hMM _ hv) kX12_rains ml_L_175 rfl (gM_1 τ am MM) rfl rfl (Nat.le_of_ble_eq_true rfl) ⟨by decide, by decide⟩ ⟨by show 300 + 20 * k ≤ 601024; omega, by show 6000 + 120 * k ≤ 7293034; omega⟩ (cells' := 300 + 20 * k) (slots' := 6000 + 120 * k) rfl rfl dL_law_1063 (fun z2 MM2 H locs hz2 hMM hv hw => ?_)
  have hw := hw.rot.rot
  refine lv_pop hx hb dL_law_1066 rfl ?_
  refine lv_goto (tgt := 1248) hx hb dL_law_1067 (by decide) ?_
  exact NEXT MX1 MM2 g _ _ _ _ _ hv hMX hMM hw (lv_sub hl [0, 1, 2, 3, 4] rfl) (by omega) (by omega)
set_option maxHeartbeats 4000000 in
set_option maxRecDepth 100000 in
theorem law_case36 {p : Program} {e : Env} {s : State} {m : MethodId} {below : List Frame} {meth : Method} {c : Code} (l : Launch) (hst : l.stackTraces = false) {b L : Nat} {xs : Nat → Int32} {D : va_G} {τ : Nat → ClassId} {A : Nat → Prop} {sA sV : Nat → Nat} {ax am : Nat → Nat} {ao : Nat} (hx : p.tables.exec = Jvm.exec) (hb : c.code = code) (hml : c.maxLocals = 8) (hC : cx D τ s m #[Value.ref b] RL) (hLS : LK A s s.heap sA sV) (hXX : XX A s) (hA : ∀ q : Nat, s.heap.size ≤ q → A q) (hX : va_X b L xs s s.heap) (hbl : b < s.heap.size) (hbA : ¬ A b) (k : Nat) (hk : k < 512) (hkL : 5 * (k : Int) + 5 ≤ L) (hL : L ≤ 2560)
  (NEXT : ∀ (MX MM : Mem) (g : Int → Int) (H : Heap) (locs : List Loc) (ls : Array Slot) (cc ss : Nat), Rel (k + 1) MX MM → MR MX → MR MM → wS D A s.heap (WX τ ax MX ++ (WM τ am MM ++ [OC τ ao g])) H locs → lv_has ls 8 [(4, .int (iI (5 * (k : Int)))), (3, .ref ao), (2, .ref (am 1)), (1, .ref (ax 155)), (0, .ref b)] → cc ≤ 300 + 20 * (k + 1) → ss ≤ 6000 + 120 * (k + 1) → W p l e room_1 s m #[Value.ref b] below meth c H locs cc ss (lw_Z below #[Value.ref b] s) (F0 m 1248 ls []))
  (MX MM : Mem) (g : Int → Int) (H : Heap) (locs : List Loc) (ls : Array Slot) (hR : Rel k MX MM) (hMX : MR MX) (hMM : MR MM) (hw : wS D A s.heap (WX τ ax MX ++ (WM τ am MM ++ [OC τ ao g])) H locs) (hl : lv_has ls 8 [(4, .int (iI (5 * (k : Int)))), (3, .ref ao), (2, .ref (am 1)), (1, .ref (ax 155)), (0, .ref b)]) : W p l e room_1 s m #[Value.ref b] below meth c H locs (300 + 20 * k) (6000 + 120 * k) (lw_Z below #[Value.ref b] s) (F0 m 1070 ls []) := by
  obtain ⟨y1, hy1, ey1⟩ := iI_of (xs (5 * (k : Int) + 1).toNat)
  obtain ⟨y2, hy2, ey2⟩ := iI_of (xs (5 * (k : Int) + 2).toNat)
  obtain ⟨y3, hy3, ey3⟩ := iI_of (xs (5 * (k : Int) + 3).toNat)
  obtain ⟨y4, hy4, ey4⟩ := iI_of (xs (5 * (k : Int) + 4).toNat)
  have hv := Rl_law k MX MM   hk hMX hMM hR
  refine lv_aload_n hx hb dL_law_1070 rfl (lv_at hl 3 rfl) ?_
  refine s_cVi (Wf := WX τ ax) (As := []) (rest := []) hx hb hml hC hLS hA hw hl.1 (mX11_law l D τ ax sA sV _   MX hMX _ hv) kX11_law ml_L_176 rfl (gX_155 τ ax MX) rfl rfl (Nat.le_of_ble_eq_true rfl) ⟨by decide, by decide⟩ ⟨by show 300 + 20 * k ≤ 601024; omega, by show 6000 + 120 * k ≤ 7293034; omega⟩ (cells' := 300 + 20 * k) (slots' := 6000 + 120 * k) rfl rfl dL_law_1071 (fun z1 MX1 H locs hz1 hMX hv hw => ?_)
  refine lv_pop hx hb dL_law_1074 rfl ?_
  refine lv_aload_n hx hb dL_law_1075 rfl (lv_at hl 2 rfl) ?_
  have hw := hw.rot
  refine s_cVi (Wf := WM τ am) (As := []) (rest := []) hx hb hml hC hLS hA hw hl.1 (mX12_law l D τ am sA sV _   MM hMM _ hv) kX12_law ml_L_179 rfl (gM_1 τ am MM) rfl rfl (Nat.le_of_ble_eq_true rfl) ⟨by decide, by decide⟩ ⟨by show 300 + 20 * k ≤ 601024; omega, by show 6000 + 120 * k ≤ 7293034; omega⟩ (cells' := 300 + 20 * k) (slots' := 6000 + 120 * k) rfl rfl dL_law_1076 (fun z2 MM2 H locs hz2 hMM hv hw => ?_)
  have hw := hw.rot.rot
  refine lv_pop hx hb dL_law_1079 rfl ?_
  refine lv_goto (tgt := 1248) hx hb dL_law_1080 (by decide) ?_
  exact NEXT MX1 MM2 g _ _ _ _ _ hv hMX hMM hw (lv_sub hl [0, 1, 2, 3, 4] rfl) (by omega) (by omega)
set_option maxHeartbeats 4000000 in
set_option maxRecDepth 100000 in
theorem law_case37 {p : Program} {e : Env} {s : State} {m : MethodId} {below : List Frame} {meth : Method} {c : Code} (l : Launch) (hst : l.stackTraces = false) {b L : Nat} {xs : Nat → Int32} {D : va_G} {τ : Nat → ClassId} {A : Nat → Prop} {sA sV : Nat → Nat} {ax am : Nat → Nat} {ao : Nat} (hx : p.tables.exec = Jvm.exec) (hb : c.code = code) (hml : c.maxLocals = 8) (hC : cx D τ s m #[Value.ref b] RL) (hLS : LK A s s.heap sA sV) (hXX : XX A s) (hA : ∀ q : Nat, s.heap.size ≤ q → A q) (hX : va_X b L xs s s.heap) (hbl : b < s.heap.size) (hbA : ¬ A b) (k : Nat) (hk : k < 512) (hkL : 5 * (k : Int) + 5 ≤ L) (hL : L ≤ 2560)
  (NEXT : ∀ (MX MM : Mem) (g : Int → Int) (H : Heap) (locs : List Loc) (ls : Array Slot) (cc ss : Nat), Rel (k + 1) MX MM → MR MX → MR MM → wS D A s.heap (WX τ ax MX ++ (WM τ am MM ++ [OC τ ao g])) H locs → lv_has ls 8 [(4, .int (iI (5 * (k : Int)))), (3, .ref ao), (2, .ref (am 1)), (1, .ref (ax 155)), (0, .ref b)] → cc ≤ 300 + 20 * (k + 1) → ss ≤ 6000 + 120 * (k + 1) → W p l e room_1 s m #[Value.ref b] below meth c H locs cc ss (lw_Z below #[Value.ref b] s) (F0 m 1248 ls []))
  (MX MM : Mem) (g : Int → Int) (H : Heap) (locs : List Loc) (ls : Array Slot) (hR : Rel k MX MM) (hMX : MR MX) (hMM : MR MM) (hw : wS D A s.heap (WX τ ax MX ++ (WM τ am MM ++ [OC τ ao g])) H locs) (hl : lv_has ls 8 [(4, .int (iI (5 * (k : Int)))), (3, .ref ao), (2, .ref (am 1)), (1, .ref (ax 155)), (0, .ref b)]) : W p l e room_1 s m #[Value.ref b] below meth c H locs (300 + 20 * k) (6000 + 120 * k) (lw_Z below #[Value.ref b] s) (F0 m 1083 ls []) := by
  obtain ⟨y1, hy1, ey1⟩ := iI_of (xs (5 * (k : Int) + 1).toNat)
  obtain ⟨y2, hy2, ey2⟩ := iI_of (xs (5 * (k : Int) + 2).toNat)
  obtain ⟨y3, hy3, ey3⟩ := iI_of (xs (5 * (k : Int) + 3).toNat)
  obtain ⟨y4, hy4, ey4⟩ := iI_of (xs (5 * (k : Int) + 4).toNat)
  have hv := Rl_rests k MX MM y1 hy1 hk hMX hMM hR
  refine lv_aload_n hx hb dL_law_1083 rfl (lv_at hl 3 rfl) ?_
  refine lv_aload_n hx hb dL_law_1084 rfl (lv_at hl 4 rfl) ?_
  refine lv_iload hx hb dL_law_1085 (lv_at hl 0 rfl) ?_
  refine r_iconst hx hb dL_law_1087 ?_
  refine r_iadd (z := 5 * (k : Int) + 1) hx hb dL_law_1088 rfl ?_
  refine r_sld hx hb hX hbl hbA hw (by omega) (by omega) (by omega) ey1 dL_law_1089 ?_
  refine s_cVi (Wf := WX τ ax) (As := [.int (iI y1)]) (rest := []) hx hb hml hC hLS hA hw hl.1 (mX11_rests l D τ ax sA sV _ y1 hy1 MX hMX _ hv) kX11_rests ml_L_180 rfl (gX_155 τ ax MX) rfl rfl (Nat.le_of_ble_eq_true rfl) ⟨by decide, by decide⟩ ⟨by show 300 + 20 * k ≤ 601024; omega, by show 6000 + 120 * k ≤ 7293034; omega⟩ (cells' := 300 + 20 * k) (slots' := 6000 + 120 * k) rfl rfl dL_law_1090 (fun z1 MX1 H locs hz1 hMX hv hw => ?_)
  refine lv_pop hx hb dL_law_1093 rfl ?_
  refine lv_aload_n hx hb dL_law_1094 rfl (lv_at hl 2 rfl) ?_
  refine lv_aload_n hx hb dL_law_1095 rfl (lv_at hl 4 rfl) ?_
  refine lv_iload hx hb dL_law_1096 (lv_at hl 0 rfl) ?_
  refine r_iconst hx hb dL_law_1098 ?_
  refine r_iadd (z := 5 * (k : Int) + 1) hx hb dL_law_1099 rfl ?_
  refine r_sld hx hb hX hbl hbA hw (by omega) (by omega) (by omega) ey1 dL_law_1100 ?_
  have hw := hw.rot
  refine s_cVi (Wf := WM τ am) (As := [.int (iI y1)]) (rest := []) hx hb hml hC hLS hA hw hl.1 (mX12_rests l D τ am sA sV _ y1 hy1 MM hMM _ hv) kX12_rests ml_L_183 rfl (gM_1 τ am MM) rfl rfl (Nat.le_of_ble_eq_true rfl) ⟨by decide, by decide⟩ ⟨by show 300 + 20 * k ≤ 601024; omega, by show 6000 + 120 * k ≤ 7293034; omega⟩ (cells' := 300 + 20 * k) (slots' := 6000 + 120 * k) rfl rfl dL_law_1101 (fun z2 MM2 H locs hz2 hMM hv hw => ?_)
  have hw := hw.rot.rot
  refine lv_pop hx hb dL_law_1104 rfl ?_
  refine lv_goto (tgt := 1248) hx hb dL_law_1105 (by decide) ?_
  exact NEXT MX1 MM2 g _ _ _ _ _ hv hMX hMM hw (lv_sub hl [0, 1, 2, 3, 4] rfl) (by omega) (by omega)
set_option maxHeartbeats 4000000 in
set_option maxRecDepth 100000 in
theorem law_case38 {p : Program} {e : Env} {s : State} {m : MethodId} {below : List Frame} {meth : Method} {c : Code} (l : Launch) (hst : l.stackTraces = false) {b L : Nat} {xs : Nat → Int32} {D : va_G} {τ : Nat → ClassId} {A : Nat → Prop} {sA sV : Nat → Nat} {ax am : Nat → Nat} {ao : Nat} (hx : p.tables.exec = Jvm.exec) (hb : c.code = code) (hml : c.maxLocals = 8) (hC : cx D τ s m #[Value.ref b] RL) (hLS : LK A s s.heap sA sV) (hXX : XX A s) (hA : ∀ q : Nat, s.heap.size ≤ q → A q) (hX : va_X b L xs s s.heap) (hbl : b < s.heap.size) (hbA : ¬ A b) (k : Nat) (hk : k < 512) (hkL : 5 * (k : Int) + 5 ≤ L) (hL : L ≤ 2560)
  (NEXT : ∀ (MX MM : Mem) (g : Int → Int) (H : Heap) (locs : List Loc) (ls : Array Slot) (cc ss : Nat), Rel (k + 1) MX MM → MR MX → MR MM → wS D A s.heap (WX τ ax MX ++ (WM τ am MM ++ [OC τ ao g])) H locs → lv_has ls 8 [(4, .int (iI (5 * (k : Int)))), (3, .ref ao), (2, .ref (am 1)), (1, .ref (ax 155)), (0, .ref b)] → cc ≤ 300 + 20 * (k + 1) → ss ≤ 6000 + 120 * (k + 1) → W p l e room_1 s m #[Value.ref b] below meth c H locs cc ss (lw_Z below #[Value.ref b] s) (F0 m 1248 ls []))
  (MX MM : Mem) (g : Int → Int) (H : Heap) (locs : List Loc) (ls : Array Slot) (hR : Rel k MX MM) (hMX : MR MX) (hMM : MR MM) (hw : wS D A s.heap (WX τ ax MX ++ (WM τ am MM ++ [OC τ ao g])) H locs) (hl : lv_has ls 8 [(4, .int (iI (5 * (k : Int)))), (3, .ref ao), (2, .ref (am 1)), (1, .ref (ax 155)), (0, .ref b)]) : W p l e room_1 s m #[Value.ref b] below meth c H locs (300 + 20 * k) (6000 + 120 * k) (lw_Z below #[Value.ref b] s) (F0 m 1108 ls []) := by
  obtain ⟨y1, hy1, ey1⟩ := iI_of (xs (5 * (k : Int) + 1).toNat)
  obtain ⟨y2, hy2, ey2⟩ := iI_of (xs (5 * (k : Int) + 2).toNat)
  obtain ⟨y3, hy3, ey3⟩ := iI_of (xs (5 * (k : Int) + 3).toNat)
  obtain ⟨y4, hy4, ey4⟩ := iI_of (xs (5 * (k : Int) + 4).toNat)
  have hv := Rl_years k MX MM y1 y2 hy1 hy2 hk hMX hMM hR
  refine lv_aload_n hx hb dL_law_1108 rfl (lv_at hl 3 rfl) ?_
  refine lv_aload_n hx hb dL_law_1109 rfl (lv_at hl 4 rfl) ?_
  refine lv_iload hx hb dL_law_1110 (lv_at hl 0 rfl) ?_
  refine r_iconst hx hb dL_law_1112 ?_
  refine r_iadd (z := 5 * (k : Int) + 1) hx hb dL_law_1113 rfl ?_
  refine r_sld hx hb hX hbl hbA hw (by omega) (by omega) (by omega) ey1 dL_law_1114 ?_
  refine lv_aload_n hx hb dL_law_1115 rfl (lv_at hl 4 rfl) ?_
  refine lv_iload hx hb dL_law_1116 (lv_at hl 0 rfl) ?_
  refine r_iconst hx hb dL_law_1118 ?_
  refine r_iadd (z := 5 * (k : Int) + 2) hx hb dL_law_1119 rfl ?_
  refine r_sld hx hb hX hbl hbA hw (by omega) (by omega) (by omega) ey2 dL_law_1120 ?_
  refine s_cVi (Wf := WX τ ax) (As := [.int (iI y1), .int (iI y2)]) (rest := []) hx hb hml hC hLS hA hw hl.1 (mX11_years l D τ ax sA sV _ y1 y2 hy1 hy2 MX hMX _ hv) kX11_years ml_L_184 rfl (gX_155 τ ax MX) rfl rfl (Nat.le_of_ble_eq_true rfl) ⟨by decide, by decide⟩ ⟨by show 300 + 20 * k ≤ 601024; omega, by show 6000 + 120 * k ≤ 7293034; omega⟩ (cells' := 300 + 20 * k) (slots' := 6000 + 120 * k) rfl rfl dL_law_1121 (fun z1 MX1 H locs hz1 hMX hv hw => ?_)
  refine lv_pop hx hb dL_law_1124 rfl ?_
  refine lv_aload_n hx hb dL_law_1125 rfl (lv_at hl 2 rfl) ?_
  refine lv_aload_n hx hb dL_law_1126 rfl (lv_at hl 4 rfl) ?_
  refine lv_iload hx hb dL_law_1127 (lv_at hl 0 rfl) ?_
  refine r_iconst hx hb dL_law_1129 ?_
  refine r_iadd (z := 5 * (k : Int) + 1) hx hb dL_law_1130 rfl ?_
  refine r_sld hx hb hX hbl hbA hw (by omega) (by omega) (by omega) ey1 dL_law_1131 ?_
  refine lv_aload_n hx hb dL_law_1132 rfl (lv_at hl 4 rfl) ?_
  refine lv_iload hx hb dL_law_1133 (lv_at hl 0 rfl) ?_
  refine r_iconst hx hb dL_law_1135 ?_
  refine r_iadd (z := 5 * (k : Int) + 2) hx hb dL_law_1136 rfl ?_
  refine r_sld hx hb hX hbl hbA hw (by omega) (by omega) (by omega) ey2 dL_law_1137 ?_
  have hw := hw.rot
  refine s_cVi (Wf := WM τ am) (As := [.int (iI y1), .int (iI y2)]) (rest := []) hx hb hml hC hLS hA hw hl.1 (mX12_years l D τ am sA sV _ y1 y2 hy1 hy2 MM hMM _ hv) kX12_years ml_L_187 rfl (gM_1 τ am MM) rfl rfl (Nat.le_of_ble_eq_true rfl) ⟨by decide, by decide⟩ ⟨by show 300 + 20 * k ≤ 601024; omega, by show 6000 + 120 * k ≤ 7293034; omega⟩ (cells' := 300 + 20 * k) (slots' := 6000 + 120 * k) rfl rfl dL_law_1138 (fun z2 MM2 H locs hz2 hMM hv hw => ?_)
  have hw := hw.rot.rot
  refine lv_pop hx hb dL_law_1141 rfl ?_
  refine lv_goto (tgt := 1248) hx hb dL_law_1142 (by decide) ?_
  exact NEXT MX1 MM2 g _ _ _ _ _ hv hMX hMM hw (lv_sub hl [0, 1, 2, 3, 4] rfl) (by omega) (by omega)
set_option maxHeartbeats 4000000 in
set_option maxRecDepth 100000 in
theorem law_case39 {p : Program} {e : Env} {s : State} {m : MethodId} {below : List Frame} {meth : Method} {c : Code} (l : Launch) (hst : l.stackTraces = false) {b L : Nat} {xs : Nat → Int32} {D : va_G} {τ : Nat → ClassId} {A : Nat → Prop} {sA sV : Nat → Nat} {ax am : Nat → Nat} {ao : Nat} (hx : p.tables.exec = Jvm.exec) (hb : c.code = code) (hml : c.maxLocals = 8) (hC : cx D τ s m #[Value.ref b] RL) (hLS : LK A s s.heap sA sV) (hXX : XX A s) (hA : ∀ q : Nat, s.heap.size ≤ q → A q) (hX : va_X b L xs s s.heap) (hbl : b < s.heap.size) (hbA : ¬ A b) (k : Nat) (hk : k < 512) (hkL : 5 * (k : Int) + 5 ≤ L) (hL : L ≤ 2560)
  (NEXT : ∀ (MX MM : Mem) (g : Int → Int) (H : Heap) (locs : List Loc) (ls : Array Slot) (cc ss : Nat), Rel (k + 1) MX MM → MR MX → MR MM → wS D A s.heap (WX τ ax MX ++ (WM τ am MM ++ [OC τ ao g])) H locs → lv_has ls 8 [(4, .int (iI (5 * (k : Int)))), (3, .ref ao), (2, .ref (am 1)), (1, .ref (ax 155)), (0, .ref b)] → cc ≤ 300 + 20 * (k + 1) → ss ≤ 6000 + 120 * (k + 1) → W p l e room_1 s m #[Value.ref b] below meth c H locs cc ss (lw_Z below #[Value.ref b] s) (F0 m 1248 ls []))
  (MX MM : Mem) (g : Int → Int) (H : Heap) (locs : List Loc) (ls : Array Slot) (hR : Rel k MX MM) (hMX : MR MX) (hMM : MR MM) (hw : wS D A s.heap (WX τ ax MX ++ (WM τ am MM ++ [OC τ ao g])) H locs) (hl : lv_has ls 8 [(4, .int (iI (5 * (k : Int)))), (3, .ref ao), (2, .ref (am 1)), (1, .ref (ax 155)), (0, .ref b)]) : W p l e room_1 s m #[Value.ref b] below meth c H locs (300 + 20 * k) (6000 + 120 * k) (lw_Z below #[Value.ref b] s) (F0 m 1145 ls []) := by
  obtain ⟨y1, hy1, ey1⟩ := iI_of (xs (5 * (k : Int) + 1).toNat)
  obtain ⟨y2, hy2, ey2⟩ := iI_of (xs (5 * (k : Int) + 2).toNat)
  obtain ⟨y3, hy3, ey3⟩ := iI_of (xs (5 * (k : Int) + 3).toNat)
  obtain ⟨y4, hy4, ey4⟩ := iI_of (xs (5 * (k : Int) + 4).toNat)
  have hv := Rl_keep k MX MM y1 hy1 hk hMX hMM hR
  refine lv_aload_n hx hb dL_law_1145 rfl (lv_at hl 3 rfl) ?_
  refine lv_aload_n hx hb dL_law_1146 rfl (lv_at hl 4 rfl) ?_
  refine lv_iload hx hb dL_law_1147 (lv_at hl 0 rfl) ?_
  refine r_iconst hx hb dL_law_1149 ?_
  refine r_iadd (z := 5 * (k : Int) + 1) hx hb dL_law_1150 rfl ?_
  refine r_sld hx hb hX hbl hbA hw (by omega) (by omega) (by omega) ey1 dL_law_1151 ?_
  refine s_cVz (Wf := WX τ ax) (As := [.int (iI y1)]) (rest := []) hx hb hml hC hLS hA hw hl.1 (mX11_keep l D τ ax sA sV _ y1 hy1 MX hMX _ hv) kX11_keep ml_L_188 rfl (gX_155 τ ax MX) rfl rfl (Nat.le_of_ble_eq_true rfl) ⟨by decide, by decide⟩ ⟨by show 300 + 20 * k ≤ 601024; omega, by show 6000 + 120 * k ≤ 7293034; omega⟩ (cells' := 300 + 20 * k) (slots' := 6000 + 120 * k) rfl rfl dL_law_1152 (fun z1 MX1 H locs hz1 h01 hMX hv hw => ?_)
  refine lv_pop hx hb dL_law_1155 rfl ?_
  refine lv_aload_n hx hb dL_law_1156 rfl (lv_at hl 2 rfl) ?_
  refine lv_aload_n hx hb dL_law_1157 rfl (lv_at hl 4 rfl) ?_
  refine lv_iload hx hb dL_law_1158 (lv_at hl 0 rfl) ?_
  refine r_iconst hx hb dL_law_1160 ?_
  refine r_iadd (z := 5 * (k : Int) + 1) hx hb dL_law_1161 rfl ?_
  refine r_sld hx hb hX hbl hbA hw (by omega) (by omega) (by omega) ey1 dL_law_1162 ?_
  have hw := hw.rot
  refine s_cVz (Wf := WM τ am) (As := [.int (iI y1)]) (rest := []) hx hb hml hC hLS hA hw hl.1 (mX12_keep l D τ am sA sV _ y1 hy1 MM hMM _ hv) kX12_keep ml_L_191 rfl (gM_1 τ am MM) rfl rfl (Nat.le_of_ble_eq_true rfl) ⟨by decide, by decide⟩ ⟨by show 300 + 20 * k ≤ 601024; omega, by show 6000 + 120 * k ≤ 7293034; omega⟩ (cells' := 300 + 20 * k) (slots' := 6000 + 120 * k) rfl rfl dL_law_1163 (fun z2 MM2 H locs hz2 h01 hMM hv hw => ?_)
  have hw := hw.rot.rot
  refine lv_pop hx hb dL_law_1166 rfl ?_
  refine lv_goto (tgt := 1248) hx hb dL_law_1167 (by decide) ?_
  exact NEXT MX1 MM2 g _ _ _ _ _ hv hMX hMM hw (lv_sub hl [0, 1, 2, 3, 4] rfl) (by omega) (by omega)
set_option maxHeartbeats 4000000 in
set_option maxRecDepth 100000 in
theorem law_case40 {p : Program} {e : Env} {s : State} {m : MethodId} {below : List Frame} {meth : Method} {c : Code} (l : Launch) (hst : l.stackTraces = false) {b L : Nat} {xs : Nat → Int32} {D : va_G} {τ : Nat → ClassId} {A : Nat → Prop} {sA sV : Nat → Nat} {ax am : Nat → Nat} {ao : Nat} (hx : p.tables.exec = Jvm.exec) (hb : c.code = code) (hml : c.maxLocals = 8) (hC : cx D τ s m #[Value.ref b] RL) (hLS : LK A s s.heap sA sV) (hXX : XX A s) (hA : ∀ q : Nat, s.heap.size ≤ q → A q) (hX : va_X b L xs s s.heap) (hbl : b < s.heap.size) (hbA : ¬ A b) (k : Nat) (hk : k < 512) (hkL : 5 * (k : Int) + 5 ≤ L) (hL : L ≤ 2560)
  (NEXT : ∀ (MX MM : Mem) (g : Int → Int) (H : Heap) (locs : List Loc) (ls : Array Slot) (cc ss : Nat), Rel (k + 1) MX MM → MR MX → MR MM → wS D A s.heap (WX τ ax MX ++ (WM τ am MM ++ [OC τ ao g])) H locs → lv_has ls 8 [(4, .int (iI (5 * (k : Int)))), (3, .ref ao), (2, .ref (am 1)), (1, .ref (ax 155)), (0, .ref b)] → cc ≤ 300 + 20 * (k + 1) → ss ≤ 6000 + 120 * (k + 1) → W p l e room_1 s m #[Value.ref b] below meth c H locs cc ss (lw_Z below #[Value.ref b] s) (F0 m 1248 ls []))
  (MX MM : Mem) (g : Int → Int) (H : Heap) (locs : List Loc) (ls : Array Slot) (hR : Rel k MX MM) (hMX : MR MX) (hMM : MR MM) (hw : wS D A s.heap (WX τ ax MX ++ (WM τ am MM ++ [OC τ ao g])) H locs) (hl : lv_has ls 8 [(4, .int (iI (5 * (k : Int)))), (3, .ref ao), (2, .ref (am 1)), (1, .ref (ax 155)), (0, .ref b)]) : W p l e room_1 s m #[Value.ref b] below meth c H locs (300 + 20 * k) (6000 + 120 * k) (lw_Z below #[Value.ref b] s) (F0 m 1170 ls []) := by
  obtain ⟨y1, hy1, ey1⟩ := iI_of (xs (5 * (k : Int) + 1).toNat)
  obtain ⟨y2, hy2, ey2⟩ := iI_of (xs (5 * (k : Int) + 2).toNat)
  obtain ⟨y3, hy3, ey3⟩ := iI_of (xs (5 * (k : Int) + 3).toNat)
  obtain ⟨y4, hy4, ey4⟩ := iI_of (xs (5 * (k : Int) + 4).toNat)
  have hv := Rl_again k MX MM y1 hy1 hk hMX hMM hR
  refine lv_aload_n hx hb dL_law_1170 rfl (lv_at hl 3 rfl) ?_
  refine lv_aload_n hx hb dL_law_1171 rfl (lv_at hl 4 rfl) ?_
  refine lv_iload hx hb dL_law_1172 (lv_at hl 0 rfl) ?_
  refine r_iconst hx hb dL_law_1174 ?_
  refine r_iadd (z := 5 * (k : Int) + 1) hx hb dL_law_1175 rfl ?_
  refine r_sld hx hb hX hbl hbA hw (by omega) (by omega) (by omega) ey1 dL_law_1176 ?_
  refine s_cVz (Wf := WX τ ax) (As := [.int (iI y1)]) (rest := []) hx hb hml hC hLS hA hw hl.1 (mX11_again l D τ ax sA sV _ y1 hy1 MX hMX _ hv) kX11_again ml_L_192 rfl (gX_155 τ ax MX) rfl rfl (Nat.le_of_ble_eq_true rfl) ⟨by decide, by decide⟩ ⟨by show 300 + 20 * k ≤ 601024; omega, by show 6000 + 120 * k ≤ 7293034; omega⟩ (cells' := 300 + 20 * k) (slots' := 6000 + 120 * k) rfl rfl dL_law_1177 (fun z1 MX1 H locs hz1 h01 hMX hv hw => ?_)
  refine lv_aload_n hx hb dL_law_1180 rfl (lv_at hl 2 rfl) ?_
  refine lv_aload_n hx hb dL_law_1181 rfl (lv_at hl 4 rfl) ?_
  refine lv_iload hx hb dL_law_1182 (lv_at hl 0 rfl) ?_
  refine r_iconst hx hb dL_law_1184 ?_
  refine r_iadd (z := 5 * (k : Int) + 1) hx hb dL_law_1185 rfl ?_
  refine r_sld hx hb hX hbl hbA hw (by omega) (by omega) (by omega) ey1 dL_law_1186 ?_
  have hw := hw.rot
  refine s_cVz (Wf := WM τ am) (As := [.int (iI y1)]) (rest := [.int (iI z1)]) hx hb hml hC hLS hA hw hl.1 (mX12_again l D τ am sA sV _ y1 hy1 MM hMM _ hv) kX12_again ml_L_195 rfl (gM_1 τ am MM) rfl rfl (Nat.le_of_ble_eq_true rfl) ⟨by decide, by decide⟩ ⟨by show 300 + 20 * k ≤ 601024; omega, by show 6000 + 120 * k ≤ 7293034; omega⟩ (cells' := 300 + 20 * k) (slots' := 6000 + 120 * k) rfl rfl dL_law_1187 (fun z2 MM2 H locs hz2 h01 hMM hv hw => ?_)
  have hw := hw.rot.rot
  refine r_icmp_eq (tgt := 1248) hx hb dL_law_1190 (by decide) hz1 hz2 (fun _ => ?_) (fun h => absurd hv.1 h)
  exact NEXT MX1 MM2 g _ _ _ _ _ hv.2 hMX hMM hw (lv_sub hl [0, 1, 2, 3, 4] rfl) (by omega) (by omega)
set_option maxHeartbeats 4000000 in
set_option maxRecDepth 100000 in
theorem law_case41 {p : Program} {e : Env} {s : State} {m : MethodId} {below : List Frame} {meth : Method} {c : Code} (l : Launch) (hst : l.stackTraces = false) {b L : Nat} {xs : Nat → Int32} {D : va_G} {τ : Nat → ClassId} {A : Nat → Prop} {sA sV : Nat → Nat} {ax am : Nat → Nat} {ao : Nat} (hx : p.tables.exec = Jvm.exec) (hb : c.code = code) (hml : c.maxLocals = 8) (hC : cx D τ s m #[Value.ref b] RL) (hLS : LK A s s.heap sA sV) (hXX : XX A s) (hA : ∀ q : Nat, s.heap.size ≤ q → A q) (hX : va_X b L xs s s.heap) (hbl : b < s.heap.size) (hbA : ¬ A b) (k : Nat) (hk : k < 512) (hkL : 5 * (k : Int) + 5 ≤ L) (hL : L ≤ 2560)
  (NEXT : ∀ (MX MM : Mem) (g : Int → Int) (H : Heap) (locs : List Loc) (ls : Array Slot) (cc ss : Nat), Rel (k + 1) MX MM → MR MX → MR MM → wS D A s.heap (WX τ ax MX ++ (WM τ am MM ++ [OC τ ao g])) H locs → lv_has ls 8 [(4, .int (iI (5 * (k : Int)))), (3, .ref ao), (2, .ref (am 1)), (1, .ref (ax 155)), (0, .ref b)] → cc ≤ 300 + 20 * (k + 1) → ss ≤ 6000 + 120 * (k + 1) → W p l e room_1 s m #[Value.ref b] below meth c H locs cc ss (lw_Z below #[Value.ref b] s) (F0 m 1248 ls []))
  (MX MM : Mem) (g : Int → Int) (H : Heap) (locs : List Loc) (ls : Array Slot) (hR : Rel k MX MM) (hMX : MR MX) (hMM : MR MM) (hw : wS D A s.heap (WX τ ax MX ++ (WM τ am MM ++ [OC τ ao g])) H locs) (hl : lv_has ls 8 [(4, .int (iI (5 * (k : Int)))), (3, .ref ao), (2, .ref (am 1)), (1, .ref (ax 155)), (0, .ref b)]) : W p l e room_1 s m #[Value.ref b] below meth c H locs (300 + 20 * k) (6000 + 120 * k) (lw_Z below #[Value.ref b] s) (F0 m 1195 ls []) := by
  obtain ⟨y1, hy1, ey1⟩ := iI_of (xs (5 * (k : Int) + 1).toNat)
  obtain ⟨y2, hy2, ey2⟩ := iI_of (xs (5 * (k : Int) + 2).toNat)
  obtain ⟨y3, hy3, ey3⟩ := iI_of (xs (5 * (k : Int) + 3).toNat)
  obtain ⟨y4, hy4, ey4⟩ := iI_of (xs (5 * (k : Int) + 4).toNat)
  have hv := Rl_count k MX MM y1 hy1 hk hMX hMM hR
  refine lv_aload_n hx hb dL_law_1195 rfl (lv_at hl 3 rfl) ?_
  refine lv_aload_n hx hb dL_law_1196 rfl (lv_at hl 4 rfl) ?_
  refine lv_iload hx hb dL_law_1197 (lv_at hl 0 rfl) ?_
  refine r_iconst hx hb dL_law_1199 ?_
  refine r_iadd (z := 5 * (k : Int) + 1) hx hb dL_law_1200 rfl ?_
  refine r_sld hx hb hX hbl hbA hw (by omega) (by omega) (by omega) ey1 dL_law_1201 ?_
  refine s_cVi (Wf := WX τ ax) (As := [.int (iI y1)]) (rest := []) hx hb hml hC hLS hA hw hl.1 (mX11_count l D τ ax sA sV _ y1 hy1 MX hMX _ hv) kX11_count ml_L_196 rfl (gX_155 τ ax MX) rfl rfl (Nat.le_of_ble_eq_true rfl) ⟨by decide, by decide⟩ ⟨by show 300 + 20 * k ≤ 601024; omega, by show 6000 + 120 * k ≤ 7293034; omega⟩ (cells' := 300 + 20 * k) (slots' := 6000 + 120 * k) rfl rfl dL_law_1202 (fun z1 MX1 H locs hz1 hMX hv hw => ?_)
  refine lv_pop hx hb dL_law_1205 rfl ?_
  refine lv_aload_n hx hb dL_law_1206 rfl (lv_at hl 2 rfl) ?_
  refine lv_aload_n hx hb dL_law_1207 rfl (lv_at hl 4 rfl) ?_
  refine lv_iload hx hb dL_law_1208 (lv_at hl 0 rfl) ?_
  refine r_iconst hx hb dL_law_1210 ?_
  refine r_iadd (z := 5 * (k : Int) + 1) hx hb dL_law_1211 rfl ?_
  refine r_sld hx hb hX hbl hbA hw (by omega) (by omega) (by omega) ey1 dL_law_1212 ?_
  have hw := hw.rot
  refine s_cVi (Wf := WM τ am) (As := [.int (iI y1)]) (rest := []) hx hb hml hC hLS hA hw hl.1 (mX12_count l D τ am sA sV _ y1 hy1 MM hMM _ hv) kX12_count ml_L_199 rfl (gM_1 τ am MM) rfl rfl (Nat.le_of_ble_eq_true rfl) ⟨by decide, by decide⟩ ⟨by show 300 + 20 * k ≤ 601024; omega, by show 6000 + 120 * k ≤ 7293034; omega⟩ (cells' := 300 + 20 * k) (slots' := 6000 + 120 * k) rfl rfl dL_law_1213 (fun z2 MM2 H locs hz2 hMM hv hw => ?_)
  have hw := hw.rot.rot
  refine lv_pop hx hb dL_law_1216 rfl ?_
  refine lv_goto (tgt := 1248) hx hb dL_law_1217 (by decide) ?_
  exact NEXT MX1 MM2 g _ _ _ _ _ hv hMX hMM hw (lv_sub hl [0, 1, 2, 3, 4] rfl) (by omega) (by omega)
set_option maxHeartbeats 4000000 in
set_option maxRecDepth 100000 in
theorem law_case42 {p : Program} {e : Env} {s : State} {m : MethodId} {below : List Frame} {meth : Method} {c : Code} (l : Launch) (hst : l.stackTraces = false) {b L : Nat} {xs : Nat → Int32} {D : va_G} {τ : Nat → ClassId} {A : Nat → Prop} {sA sV : Nat → Nat} {ax am : Nat → Nat} {ao : Nat} (hx : p.tables.exec = Jvm.exec) (hb : c.code = code) (hml : c.maxLocals = 8) (hC : cx D τ s m #[Value.ref b] RL) (hLS : LK A s s.heap sA sV) (hXX : XX A s) (hA : ∀ q : Nat, s.heap.size ≤ q → A q) (hX : va_X b L xs s s.heap) (hbl : b < s.heap.size) (hbA : ¬ A b) (k : Nat) (hk : k < 512) (hkL : 5 * (k : Int) + 5 ≤ L) (hL : L ≤ 2560)
  (NEXT : ∀ (MX MM : Mem) (g : Int → Int) (H : Heap) (locs : List Loc) (ls : Array Slot) (cc ss : Nat), Rel (k + 1) MX MM → MR MX → MR MM → wS D A s.heap (WX τ ax MX ++ (WM τ am MM ++ [OC τ ao g])) H locs → lv_has ls 8 [(4, .int (iI (5 * (k : Int)))), (3, .ref ao), (2, .ref (am 1)), (1, .ref (ax 155)), (0, .ref b)] → cc ≤ 300 + 20 * (k + 1) → ss ≤ 6000 + 120 * (k + 1) → W p l e room_1 s m #[Value.ref b] below meth c H locs cc ss (lw_Z below #[Value.ref b] s) (F0 m 1248 ls []))
  (MX MM : Mem) (g : Int → Int) (H : Heap) (locs : List Loc) (ls : Array Slot) (hR : Rel k MX MM) (hMX : MR MX) (hMM : MR MM) (hw : wS D A s.heap (WX τ ax MX ++ (WM τ am MM ++ [OC τ ao g])) H locs) (hl : lv_has ls 8 [(4, .int (iI (5 * (k : Int)))), (3, .ref ao), (2, .ref (am 1)), (1, .ref (ax 155)), (0, .ref b)]) : W p l e room_1 s m #[Value.ref b] below meth c H locs (300 + 20 * k) (6000 + 120 * k) (lw_Z below #[Value.ref b] s) (F0 m 1220 ls []) := by
  obtain ⟨y1, hy1, ey1⟩ := iI_of (xs (5 * (k : Int) + 1).toNat)
  obtain ⟨y2, hy2, ey2⟩ := iI_of (xs (5 * (k : Int) + 2).toNat)
  obtain ⟨y3, hy3, ey3⟩ := iI_of (xs (5 * (k : Int) + 3).toNat)
  obtain ⟨y4, hy4, ey4⟩ := iI_of (xs (5 * (k : Int) + 4).toNat)
  have hv := Rl_row k MX MM y1 hy1 hk hMX hMM hR
  refine lv_aload_n hx hb dL_law_1220 rfl (lv_at hl 3 rfl) ?_
  refine lv_aload_n hx hb dL_law_1221 rfl (lv_at hl 4 rfl) ?_
  refine lv_iload hx hb dL_law_1222 (lv_at hl 0 rfl) ?_
  refine r_iconst hx hb dL_law_1224 ?_
  refine r_iadd (z := 5 * (k : Int) + 1) hx hb dL_law_1225 rfl ?_
  refine r_sld hx hb hX hbl hbA hw (by omega) (by omega) (by omega) ey1 dL_law_1226 ?_
  refine lv_aload_n hx hb dL_law_1227 rfl (lv_at hl 1 rfl) ?_
  have hw := hw.rot.swap
  refine g_cW (n := 3) (wc := OC τ ao g :: WX τ ax MX) (wr := WM τ am MM) (As := [.ref (ax 155), .int (iI y1), .ref ao]) (rest := []) hx hb hml hC hA hLS hXX hw hl.1 (lw_row l hst D τ ax sA sV _ ao g y1 hy1 MX hMX _ _ hv) g_law_row ⟨by decide +kernel, by decide +kernel, by decide +kernel⟩ (List.range (OC τ ao g :: WX τ ax MX).length) ((List.range (WM τ am MM).length).map (fun i => i + (OC τ ao g :: WX τ ax MX).length)) (pick_l _ _) (pick_r _ _) (va_nd_range _) (nd_of (nodup_shift _ _)) (fun i hi h => by obtain ⟨j, _, rfl⟩ := List.mem_map.mp hi; have := List.mem_range.mp h; omega) rfl rfl (Nat.le_of_ble_eq_true rfl) ⟨by decide, by decide⟩ ⟨by show 300 + 20 * k + 1 ≤ 601024; omega, by show 6000 + 120 * k + 6 ≤ 7293034; omega⟩ (cells' := 300 + 20 * k + 1) (slots' := 6000 + 120 * k + 6) rfl rfl dL_law_1228 (fun z1 w1 H locs hz1 hE hw => ?_)
  obtain ⟨MX1, g1, hMX, hE, rfl⟩ := hE
  have hw : wS D A s.heap (WM τ am MM ++ ([OC τ ao g1] ++ WX τ ax MX1)) H locs := hw
  have hw := hw.rot.rot
  rcases hE with ⟨rfl, v1, hv1, hv, hg1⟩ | ⟨rfl, hv, hg1⟩
  · skip
    refine lv_istore (lv' := [(5, .int (iI 0)), (4, .int (iI (5 * (k : Int)))), (3, .ref ao), (2, .ref (am 1)), (1, .ref (ax 155)), (0, .ref b)]) hx hb dL_law_1231 hl (by decide) rfl (fun ls hl => ?_)
    refine lv_aload_n hx hb dL_law_1233 rfl (lv_at hl 3 rfl) ?_
    refine lv_aload_n hx hb dL_law_1234 rfl (lv_at hl 5 rfl) ?_
    refine lv_iload hx hb dL_law_1235 (lv_at hl 1 rfl) ?_
    refine r_iconst hx hb dL_law_1237 ?_
    refine r_iadd (z := 5 * (k : Int) + 1) hx hb dL_law_1238 rfl ?_
    refine r_sld hx hb hX hbl hbA hw (by omega) (by omega) (by omega) ey1 dL_law_1239 ?_
    have hw := hw.rot
    refine s_cVl (Wf := WM τ am) (As := [.int (iI y1)]) (rest := []) hx hb hml hC hLS hA hw hl.1 (mX12_row l D τ am sA sV _ y1 hy1 MM hMM _ hv) kX12_row ml_L_203 rfl (gM_1 τ am MM) rfl rfl (Nat.le_of_ble_eq_true rfl) ⟨by decide, by decide⟩ ⟨by show 300 + 20 * k + 1 ≤ 601024; omega, by show 6000 + 120 * k + 6 ≤ 7293034; omega⟩ (cells' := 300 + 20 * k + 1) (slots' := 6000 + 120 * k + 6) rfl rfl dL_law_1240 (fun z2 MM2 H locs hz2 hMM hv hw => ?_)
    have hw := hw.rot.rot
    refine lv_lstore (lv' := [(6, .long (lI z2)), (5, .int (iI 0)), (4, .int (iI (5 * (k : Int)))), (3, .ref ao), (2, .ref (am 1)), (1, .ref (ax 155)), (0, .ref b)]) hx hb dL_law_1243 hl (by decide) rfl (fun ls hl => ?_)
    refine lv_goto (tgt := 1248) hx hb dL_law_1245 (by decide) ?_
    exact NEXT MX1 MM2 g1 _ _ _ _ _ hv hMX hMM hw (lv_sub hl [2, 3, 4, 5, 6] rfl) (by omega) (by omega)
  · skip
    refine lv_istore (lv' := [(5, .int (iI 1)), (4, .int (iI (5 * (k : Int)))), (3, .ref ao), (2, .ref (am 1)), (1, .ref (ax 155)), (0, .ref b)]) hx hb dL_law_1231 hl (by decide) rfl (fun ls hl => ?_)
    refine lv_aload_n hx hb dL_law_1233 rfl (lv_at hl 3 rfl) ?_
    refine lv_aload_n hx hb dL_law_1234 rfl (lv_at hl 5 rfl) ?_
    refine lv_iload hx hb dL_law_1235 (lv_at hl 1 rfl) ?_
    refine r_iconst hx hb dL_law_1237 ?_
    refine r_iadd (z := 5 * (k : Int) + 1) hx hb dL_law_1238 rfl ?_
    refine r_sld hx hb hX hbl hbA hw (by omega) (by omega) (by omega) ey1 dL_law_1239 ?_
    have hw := hw.rot
    refine s_cVl (Wf := WM τ am) (As := [.int (iI y1)]) (rest := []) hx hb hml hC hLS hA hw hl.1 (mX12_row l D τ am sA sV _ y1 hy1 MM hMM _ hv) kX12_row ml_L_203 rfl (gM_1 τ am MM) rfl rfl (Nat.le_of_ble_eq_true rfl) ⟨by decide, by decide⟩ ⟨by show 300 + 20 * k + 1 ≤ 601024; omega, by show 6000 + 120 * k + 6 ≤ 7293034; omega⟩ (cells' := 300 + 20 * k + 1) (slots' := 6000 + 120 * k + 6) rfl rfl dL_law_1240 (fun z3 MM3 H locs hz3 hMM hv hw => ?_)
    have hw := hw.rot.rot
    refine lv_lstore (lv' := [(6, .long (lI z3)), (5, .int (iI 1)), (4, .int (iI (5 * (k : Int)))), (3, .ref ao), (2, .ref (am 1)), (1, .ref (ax 155)), (0, .ref b)]) hx hb dL_law_1243 hl (by decide) rfl (fun ls hl => ?_)
    refine lv_goto (tgt := 1248) hx hb dL_law_1245 (by decide) ?_
    exact NEXT MX1 MM3 g1 _ _ _ _ _ hv hMX hMM hw (lv_sub hl [2, 3, 4, 5, 6] rfl) (by omega) (by omega)
end
section
set_option maxHeartbeats 40000000 in
set_option maxRecDepth 100000 in
theorem law_loop {p : Program} {e : Env} {s : State} {m : MethodId} {below : List Frame} {meth : Method} {c : Code} (l : Launch) (hst : l.stackTraces = false) {b L : Nat} {xs : Nat → Int32} {D : va_G} {τ : Nat → ClassId} {A : Nat → Prop} {sA sV : Nat → Nat} {ax am : Nat → Nat} {ao : Nat} (hx : p.tables.exec = Jvm.exec) (hb : c.code = code) (hml : c.maxLocals = 8) (hr : meth.sig.returnType = ret) (hlocks : meth.locks = false) (hC : cx D τ s m #[Value.ref b] RL) (hLS : LK A s s.heap sA sV) (hXX : XX A s) (hA : ∀ q : Nat, s.heap.size ≤ q → A q) (hAr : ∀ q : Nat, A q → s.heap.size ≤ q) (hX : va_X b L xs s s.heap) (hbl : b < s.heap.size) (hbA : ¬ A b) (hL : L ≤ 2560) : ∀ (n k : Nat), n + k = 513 → k ≤ 512 → ∀ (MX MM : Mem) (g : Int → Int) (H : Heap) (locs : List Loc) (ls : Array Slot) (cc ss : Nat), Rel k MX MM → MR MX → MR MM → wS D A s.heap (WX τ ax MX ++ (WM τ am MM ++ [OC τ ao g])) H locs → lv_has ls 8 [(4, .int (iI (5 * (k : Int)))), (3, .ref ao), (2, .ref (am 1)), (1, .ref (ax 155)), (0, .ref b)] → cc ≤ 300 + 20 * k → ss ≤ 6000 + 120 * k → W p l e room_1 s m #[Value.ref b] below meth c H locs cc ss (lw_Z below #[Value.ref b] s) (F0 m 23 ls []) := by
  intro n
  induction n with
  | zero => intro k h1 h2; omega
  | succ n ih =>
    intro k hnk hk MX MM g H locs ls cc ss hR hMX hMM hw hl hcc hss
    refine lv_iload hx hb dL_law_23 (lv_at hl 0 rfl) ?_
    refine lv_aload_n hx hb dL_law_25 rfl (lv_at hl 4 rfl) ?_
    refine r_slen hx hb hX hbl hbA hw dL_law_26 ?_
    refine r_iconst hx hb dL_law_27 ?_
    refine r_isub (z := (L : Int) - 5) hx hb dL_law_28 rfl ?_
    refine r_icmp_gt (tgt := 1254) hx hb dL_law_29 (by decide) (by omega) (by omega) (fun _ => ?_) (fun hge => ?_)
    · refine r_iconst hx hb dL_law_1254 ?_
      refine va_forget (fun q hq => hAr _ (hw.2.2.2.2 q hq)) ?_
      refine W.widen (k := 601024) (n := 7293034) (by omega) (by omega) ?_
      exact lw_ret hx hb hr hlocks dL_law_1255
    have hkL : 5 * (k : Int) + 5 ≤ L := by omega
    have hk2 : k < 512 := by omega
    have NEXT : ∀ (MX MM : Mem) (g : Int → Int) (H : Heap) (locs : List Loc) (ls : Array Slot) (cc ss : Nat), Rel (k + 1) MX MM → MR MX → MR MM → wS D A s.heap (WX τ ax MX ++ (WM τ am MM ++ [OC τ ao g])) H locs → lv_has ls 8 [(4, .int (iI (5 * (k : Int)))), (3, .ref ao), (2, .ref (am 1)), (1, .ref (ax 155)), (0, .ref b)] → cc ≤ 300 + 20 * (k + 1) → ss ≤ 6000 + 120 * (k + 1) → W p l e room_1 s m #[Value.ref b] below meth c H locs cc ss (lw_Z below #[Value.ref b] s) (F0 m 1248 ls []) := by
      intro MX MM g H locs ls cc ss hR hMX hMM hw hl hcc hss
      refine r_iinc (v := 5 * ((k + 1 : Nat) : Int)) (lv' := [(4, .int (iI (5 * ((k + 1 : Nat) : Int)))), (3, .ref ao), (2, .ref (am 1)), (1, .ref (ax 155)), (0, .ref b)]) hx hb dL_law_1248 hl (k := 0) rfl (by omega) (by decide) rfl (fun ls hl => ?_)
      refine lv_goto (tgt := 23) hx hb dL_law_1251 (by decide) ?_
      exact ih (k + 1) (by omega) (by omega) MX MM g H locs ls cc ss hR hMX hMM hw hl hcc hss
    refine lv_aload_n hx hb dL_law_32 rfl (lv_at hl 4 rfl) ?_
    refine lv_iload hx hb dL_law_33 (lv_at hl 0 rfl) ?_
    obtain ⟨y0, hy0, ey0⟩ := iI_of (xs (5 * (k : Int)).toNat)
    refine r_sld hx hb hX hbl hbA hw (by omega) (by omega) (by omega) ey0 dL_law_35 ?_
    refine r_bipush hx hb dL_law_36 (by decide +kernel) ?_
    refine r_iandF hx hb dL_law_38 (fun z0 e0 hz0 => ?_)
    refine W.widen (k := 300 + 20 * k) (n := 6000 + 120 * k) (by omega) (by omega) ?_
    rcases (show (z0 < 0 ∨ 42 < z0) ∨ z0 = 0 ∨ z0 = 1 ∨ z0 = 2 ∨ z0 = 3 ∨ z0 = 4 ∨ z0 = 5 ∨ z0 = 6 ∨ z0 = 7 ∨ z0 = 8 ∨ z0 = 9 ∨ z0 = 10 ∨ z0 = 11 ∨ z0 = 12 ∨ z0 = 13 ∨ z0 = 14 ∨ z0 = 15 ∨ z0 = 16 ∨ z0 = 17 ∨ z0 = 18 ∨ z0 = 19 ∨ z0 = 20 ∨ z0 = 21 ∨ z0 = 22 ∨ z0 = 23 ∨ z0 = 24 ∨ z0 = 25 ∨ z0 = 26 ∨ z0 = 27 ∨ z0 = 28 ∨ z0 = 29 ∨ z0 = 30 ∨ z0 = 31 ∨ z0 = 32 ∨ z0 = 33 ∨ z0 = 34 ∨ z0 = 35 ∨ z0 = 36 ∨ z0 = 37 ∨ z0 = 38 ∨ z0 = 39 ∨ z0 = 40 ∨ z0 = 41 ∨ z0 = 42 by omega) with hs | hs | hs | hs | hs | hs | hs | hs | hs | hs | hs | hs | hs | hs | hs | hs | hs | hs | hs | hs | hs | hs | hs | hs | hs | hs | hs | hs | hs | hs | hs | hs | hs | hs | hs | hs | hs | hs | hs | hs | hs | hs | hs | hs
    · refine r_tblO (tgt := 1248) hx hb dL_law_39 hz0 hs (by decide) ?_
      exact NEXT MX MM g _ _ _ _ _ (Rel_skip hR) hMX hMM hw hl (by omega) (by omega)
    · refine r_tblI (tgt := 224) hx hb dL_law_39 hz0 (by omega) (by omega) (by rw [hs]; first | done | rfl) (by decide) ?_
      exact law_case0 l hst hx hb hml hC hLS hXX hA hX hbl hbA k hk2 hkL hL NEXT MX MM g H locs ls hR hMX hMM hw hl
    · refine r_tblI (tgt := 249) hx hb dL_law_39 hz0 (by omega) (by omega) (by rw [hs]; first | done | rfl) (by decide) ?_
      exact law_case1 l hst hx hb hml hC hLS hXX hA hX hbl hbA k hk2 hkL hL NEXT MX MM g H locs ls hR hMX hMM hw hl
    · refine r_tblI (tgt := 274) hx hb dL_law_39 hz0 (by omega) (by omega) (by rw [hs]; first | done | rfl) (by decide) ?_
      exact law_case2 l hst hx hb hml hC hLS hXX hA hX hbl hbA k hk2 hkL hL NEXT MX MM g H locs ls hR hMX hMM hw hl
    · refine r_tblI (tgt := 287) hx hb dL_law_39 hz0 (by omega) (by omega) (by rw [hs]; first | done | rfl) (by decide) ?_
      exact law_case3 l hst hx hb hml hC hLS hXX hA hX hbl hbA k hk2 hkL hL NEXT MX MM g H locs ls hR hMX hMM hw hl
    · refine r_tblI (tgt := 300) hx hb dL_law_39 hz0 (by omega) (by omega) (by rw [hs]; first | done | rfl) (by decide) ?_
      exact law_case4 l hst hx hb hml hC hLS hXX hA hX hbl hbA k hk2 hkL hL NEXT MX MM g H locs ls hR hMX hMM hw hl
    · refine r_tblI (tgt := 313) hx hb dL_law_39 hz0 (by omega) (by omega) (by rw [hs]; first | done | rfl) (by decide) ?_
      exact law_case5 l hst hx hb hml hC hLS hXX hA hX hbl hbA k hk2 hkL hL NEXT MX MM g H locs ls hR hMX hMM hw hl
    · refine r_tblI (tgt := 326) hx hb dL_law_39 hz0 (by omega) (by omega) (by rw [hs]; first | done | rfl) (by decide) ?_
      exact law_case6 l hst hx hb hml hC hLS hXX hA hX hbl hbA k hk2 hkL hL NEXT MX MM g H locs ls hR hMX hMM hw hl
    · refine r_tblI (tgt := 339) hx hb dL_law_39 hz0 (by omega) (by omega) (by rw [hs]; first | done | rfl) (by decide) ?_
      exact law_case7 l hst hx hb hml hC hLS hXX hA hX hbl hbA k hk2 hkL hL NEXT MX MM g H locs ls hR hMX hMM hw hl
    · refine r_tblI (tgt := 379) hx hb dL_law_39 hz0 (by omega) (by omega) (by rw [hs]; first | done | rfl) (by decide) ?_
      exact law_case8 l hst hx hb hml hC hLS hXX hA hX hbl hbA k hk2 hkL hL NEXT MX MM g H locs ls hR hMX hMM hw hl
    · refine r_tblI (tgt := 419) hx hb dL_law_39 hz0 (by omega) (by omega) (by rw [hs]; first | done | rfl) (by decide) ?_
      exact law_case9 l hst hx hb hml hC hLS hXX hA hX hbl hbA k hk2 hkL hL NEXT MX MM g H locs ls hR hMX hMM hw hl
    · refine r_tblI (tgt := 480) hx hb dL_law_39 hz0 (by omega) (by omega) (by rw [hs]; first | done | rfl) (by decide) ?_
      exact law_case10 l hst hx hb hml hC hLS hXX hA hX hbl hbA k hk2 hkL hL NEXT MX MM g H locs ls hR hMX hMM hw hl
    · refine r_tblI (tgt := 505) hx hb dL_law_39 hz0 (by omega) (by omega) (by rw [hs]; first | done | rfl) (by decide) ?_
      exact law_case11 l hst hx hb hml hC hLS hXX hA hX hbl hbA k hk2 hkL hL NEXT MX MM g H locs ls hR hMX hMM hw hl
    · refine r_tblI (tgt := 530) hx hb dL_law_39 hz0 (by omega) (by omega) (by rw [hs]; first | done | rfl) (by decide) ?_
      exact law_case12 l hst hx hb hml hC hLS hXX hA hX hbl hbA k hk2 hkL hL NEXT MX MM g H locs ls hR hMX hMM hw hl
    · refine r_tblI (tgt := 567) hx hb dL_law_39 hz0 (by omega) (by omega) (by rw [hs]; first | done | rfl) (by decide) ?_
      exact law_case13 l hst hx hb hml hC hLS hXX hA hX hbl hbA k hk2 hkL hL NEXT MX MM g H locs ls hR hMX hMM hw hl
    · refine r_tblI (tgt := 604) hx hb dL_law_39 hz0 (by omega) (by omega) (by rw [hs]; first | done | rfl) (by decide) ?_
      exact law_case14 l hst hx hb hml hC hLS hXX hA hX hbl hbA k hk2 hkL hL NEXT MX MM g H locs ls hR hMX hMM hw hl
    · refine r_tblI (tgt := 617) hx hb dL_law_39 hz0 (by omega) (by omega) (by rw [hs]; first | done | rfl) (by decide) ?_
      exact law_case15 l hst hx hb hml hC hLS hXX hA hX hbl hbA k hk2 hkL hL NEXT MX MM g H locs ls hR hMX hMM hw hl
    · refine r_tblI (tgt := 630) hx hb dL_law_39 hz0 (by omega) (by omega) (by rw [hs]; first | done | rfl) (by decide) ?_
      exact law_case16 l hst hx hb hml hC hLS hXX hA hX hbl hbA k hk2 hkL hL NEXT MX MM g H locs ls hR hMX hMM hw hl
    · refine r_tblI (tgt := 643) hx hb dL_law_39 hz0 (by omega) (by omega) (by rw [hs]; first | done | rfl) (by decide) ?_
      exact law_case17 l hst hx hb hml hC hLS hXX hA hX hbl hbA k hk2 hkL hL NEXT MX MM g H locs ls hR hMX hMM hw hl
    · refine r_tblI (tgt := 668) hx hb dL_law_39 hz0 (by omega) (by omega) (by rw [hs]; first | done | rfl) (by decide) ?_
      exact law_case18 l hst hx hb hml hC hLS hXX hA hX hbl hbA k hk2 hkL hL NEXT MX MM g H locs ls hR hMX hMM hw hl
    · refine r_tblI (tgt := 693) hx hb dL_law_39 hz0 (by omega) (by omega) (by rw [hs]; first | done | rfl) (by decide) ?_
      exact law_case19 l hst hx hb hml hC hLS hXX hA hX hbl hbA k hk2 hkL hL NEXT MX MM g H locs ls hR hMX hMM hw hl
    · refine r_tblI (tgt := 718) hx hb dL_law_39 hz0 (by omega) (by omega) (by rw [hs]; first | done | rfl) (by decide) ?_
      exact law_case20 l hst hx hb hml hC hLS hXX hA hX hbl hbA k hk2 hkL hL NEXT MX MM g H locs ls hR hMX hMM hw hl
    · refine r_tblI (tgt := 755) hx hb dL_law_39 hz0 (by omega) (by omega) (by rw [hs]; first | done | rfl) (by decide) ?_
      exact law_case21 l hst hx hb hml hC hLS hXX hA hX hbl hbA k hk2 hkL hL NEXT MX MM g H locs ls hR hMX hMM hw hl
    · refine r_tblI (tgt := 780) hx hb dL_law_39 hz0 (by omega) (by omega) (by rw [hs]; first | done | rfl) (by decide) ?_
      exact law_case22 l hst hx hb hml hC hLS hXX hA hX hbl hbA k hk2 hkL hL NEXT MX MM g H locs ls hR hMX hMM hw hl
    · refine r_tblI (tgt := 793) hx hb dL_law_39 hz0 (by omega) (by omega) (by rw [hs]; first | done | rfl) (by decide) ?_
      exact law_case23 l hst hx hb hml hC hLS hXX hA hX hbl hbA k hk2 hkL hL NEXT MX MM g H locs ls hR hMX hMM hw hl
    · refine r_tblI (tgt := 806) hx hb dL_law_39 hz0 (by omega) (by omega) (by rw [hs]; first | done | rfl) (by decide) ?_
      exact law_case24 l hst hx hb hml hC hLS hXX hA hX hbl hbA k hk2 hkL hL NEXT MX MM g H locs ls hR hMX hMM hw hl
    · refine r_tblI (tgt := 831) hx hb dL_law_39 hz0 (by omega) (by omega) (by rw [hs]; first | done | rfl) (by decide) ?_
      exact law_case25 l hst hx hb hml hC hLS hXX hA hX hbl hbA k hk2 hkL hL NEXT MX MM g H locs ls hR hMX hMM hw hl
    · refine r_tblI (tgt := 856) hx hb dL_law_39 hz0 (by omega) (by omega) (by rw [hs]; first | done | rfl) (by decide) ?_
      exact law_case26 l hst hx hb hml hC hLS hXX hA hX hbl hbA k hk2 hkL hL NEXT MX MM g H locs ls hR hMX hMM hw hl
    · refine r_tblI (tgt := 881) hx hb dL_law_39 hz0 (by omega) (by omega) (by rw [hs]; first | done | rfl) (by decide) ?_
      exact law_case27 l hst hx hb hml hC hLS hXX hA hX hbl hbA k hk2 hkL hL NEXT MX MM g H locs ls hR hMX hMM hw hl
    · refine r_tblI (tgt := 894) hx hb dL_law_39 hz0 (by omega) (by omega) (by rw [hs]; first | done | rfl) (by decide) ?_
      exact law_case28 l hst hx hb hml hC hLS hXX hA hX hbl hbA k hk2 hkL hL NEXT MX MM g H locs ls hR hMX hMM hw hl
    · refine r_tblI (tgt := 907) hx hb dL_law_39 hz0 (by omega) (by omega) (by rw [hs]; first | done | rfl) (by decide) ?_
      exact law_case29 l hst hx hb hml hC hLS hXX hA hX hbl hbA k hk2 hkL hL NEXT MX MM g H locs ls hR hMX hMM hw hl
    · refine r_tblI (tgt := 932) hx hb dL_law_39 hz0 (by omega) (by omega) (by rw [hs]; first | done | rfl) (by decide) ?_
      exact law_case30 l hst hx hb hml hC hLS hXX hA hX hbl hbA k hk2 hkL hL NEXT MX MM g H locs ls hR hMX hMM hw hl
    · refine r_tblI (tgt := 945) hx hb dL_law_39 hz0 (by omega) (by omega) (by rw [hs]; first | done | rfl) (by decide) ?_
      exact law_case31 l hst hx hb hml hC hLS hXX hA hX hbl hbA k hk2 hkL hL NEXT MX MM g H locs ls hR hMX hMM hw hl
    · refine r_tblI (tgt := 958) hx hb dL_law_39 hz0 (by omega) (by omega) (by rw [hs]; first | done | rfl) (by decide) ?_
      exact law_case32 l hst hx hb hml hC hLS hXX hA hX hbl hbA k hk2 hkL hL NEXT MX MM g H locs ls hR hMX hMM hw hl
    · refine r_tblI (tgt := 995) hx hb dL_law_39 hz0 (by omega) (by omega) (by rw [hs]; first | done | rfl) (by decide) ?_
      exact law_case33 l hst hx hb hml hC hLS hXX hA hX hbl hbA k hk2 hkL hL NEXT MX MM g H locs ls hR hMX hMM hw hl
    · refine r_tblI (tgt := 1008) hx hb dL_law_39 hz0 (by omega) (by omega) (by rw [hs]; first | done | rfl) (by decide) ?_
      exact law_case34 l hst hx hb hml hC hLS hXX hA hX hbl hbA k hk2 hkL hL NEXT MX MM g H locs ls hR hMX hMM hw hl
    · refine r_tblI (tgt := 1021) hx hb dL_law_39 hz0 (by omega) (by omega) (by rw [hs]; first | done | rfl) (by decide) ?_
      exact law_case35 l hst hx hb hml hC hLS hXX hA hX hbl hbA k hk2 hkL hL NEXT MX MM g H locs ls hR hMX hMM hw hl
    · refine r_tblI (tgt := 1070) hx hb dL_law_39 hz0 (by omega) (by omega) (by rw [hs]; first | done | rfl) (by decide) ?_
      exact law_case36 l hst hx hb hml hC hLS hXX hA hX hbl hbA k hk2 hkL hL NEXT MX MM g H locs ls hR hMX hMM hw hl
    · refine r_tblI (tgt := 1083) hx hb dL_law_39 hz0 (by omega) (by omega) (by rw [hs]; first | done | rfl) (by decide) ?_
      exact law_case37 l hst hx hb hml hC hLS hXX hA hX hbl hbA k hk2 hkL hL NEXT MX MM g H locs ls hR hMX hMM hw hl
    · refine r_tblI (tgt := 1108) hx hb dL_law_39 hz0 (by omega) (by omega) (by rw [hs]; first | done | rfl) (by decide) ?_
      exact law_case38 l hst hx hb hml hC hLS hXX hA hX hbl hbA k hk2 hkL hL NEXT MX MM g H locs ls hR hMX hMM hw hl
    · refine r_tblI (tgt := 1145) hx hb dL_law_39 hz0 (by omega) (by omega) (by rw [hs]; first | done | rfl) (by decide) ?_
      exact law_case39 l hst hx hb hml hC hLS hXX hA hX hbl hbA k hk2 hkL hL NEXT MX MM g H locs ls hR hMX hMM hw hl
    · refine r_tblI (tgt := 1170) hx hb dL_law_39 hz0 (by omega) (by omega) (by rw [hs]; first | done | rfl) (by decide) ?_
      exact law_case40 l hst hx hb hml hC hLS hXX hA hX hbl hbA k hk2 hkL hL NEXT MX MM g H locs ls hR hMX hMM hw hl
    · refine r_tblI (tgt := 1195) hx hb dL_law_39 hz0 (by omega) (by omega) (by rw [hs]; first | done | rfl) (by decide) ?_
      exact law_case41 l hst hx hb hml hC hLS hXX hA hX hbl hbA k hk2 hkL hL NEXT MX MM g H locs ls hR hMX hMM hw hl
    · refine r_tblI (tgt := 1220) hx hb dL_law_39 hz0 (by omega) (by omega) (by rw [hs]; first | done | rfl) (by decide) ?_
      exact law_case42 l hst hx hb hml hC hLS hXX hA hX hbl hbA k hk2 hkL hL NEXT MX MM g H locs ls hR hMX hMM hw hl
set_option maxHeartbeats 40000000 in
set_option maxRecDepth 100000 in
theorem whole_start {p : Program} {e : Env} {s : State} {m : MethodId} {below : List Frame} {meth : Method} {c : Code} (l : Launch) (hflags : l.flags = flags0) {b L : Nat} {xs : Nat → Int32} (hL : L ≤ 2560) (C0 : lw_At p s m meth c b L xs) : W p l e room_1 s m #[Value.ref b] below meth c s.heap [] 0 0 (lw_Z below #[Value.ref b] s) (entryFrame m ([Value.ref b] : List Value).toArray 8) := by
  obtain ⟨hx, hb, hr, hml, hown, hts, hX, hbl, hlocks, hgv⟩ := id C0
  obtain ⟨D, τ, hK, hN⟩ := K_init hts
  obtain ⟨A, hAe⟩ : ∃ A : Nat → Prop, A = fun q : Nat => s.heap.size ≤ q := ⟨_, rfl⟩
  have hA : ∀ q : Nat, s.heap.size ≤ q → A q := fun q h => by rw [hAe]; exact h
  have hAr : ∀ q : Nat, A q → s.heap.size ≤ q := fun q h => by rw [hAe] at h; exact h
  have hbA : ¬ A b := fun h => absurd (hAr b h) (Nat.not_le.mpr hbl)
  have hC : cx D τ s m #[Value.ref b] RL := ⟨fun w h => hts w (lw_gt h), hown, hK, hN⟩
  have hw : wS D A s.heap [] s.heap [] := ⟨fun k q h => by simp at h, ⟨fun i j p q h => by simp at h, fun k q h => by simp at h⟩, va_S.rf⟩
  have hl := lv_entry ([.ref b]) (n := 8) (Nat.le_of_ble_eq_true rfl)
  rw [lg_entry_eq]
  generalize (lg_sl ([.ref b]) ++ List.replicate (8 - (lg_sl ([.ref b])).length) Slot.unset).toArray = ls at hl ⊢
  have hl : lv_has ls 8 [(0, .ref b)] := hl
  have hnA : ∀ a : Nat, a < s.heap.size → ¬ A a := fun a h1 h2 => absurd (hAr a h2) (Nat.not_le.mpr h1)
  have hXX : XX A s := XX_of (D := D) (τ := τ) hts hgv hK hnA
  have hst : l.stackTraces = false := by show (!l.flags.contains Jvm.noTraceFlag) = false; rw [hflags]; decide +kernel
  obtain ⟨sA, sV, hLS⟩ := LK_of hts hgv (A := A) hnA
  refine r_new (ci := 12) (fs := [.null, .null, .null, .null, .null, .null, .null, .null, .null, .null, .null, .null, .null, .null, .null, .int (iI 0), .null, .null]) hx hb hC hA hw iX11 tyX11 tyX11_ok rfl cl_L_8 it_X11 in_X11 df_X11 (by decide) (by decide) rfl rfl dL_law_0 (fun a1 H hw => ?_)
  refine lv_dup hx hb dL_law_3 rfl ?_
  refine k_cIv (wr := []) (As := []) (rest := [.ref a1]) hx hb hml hC hLS hA hw hl.1 (c_Main_full l D τ sA sV _ a1 _ Rel_init) kX11_init ml_L_22 [0] [] rfl rfl (by decide) (by decide) (by decide) rfl rfl (Nat.le_of_ble_eq_true rfl) ⟨by decide, by decide⟩ ⟨by decide, by decide⟩ rfl rfl dL_law_4 (fun w5 H locs hE5 hw => ?_)
  obtain ⟨ax, MX, rfl, hMX, hR, rfl⟩ := hE5
  have hw : wS D A s.heap (WX τ ax MX) H locs := hw
  refine lv_astore_n (lv' := [(1, .ref (ax 155)), (0, .ref b)]) hx hb dL_law_7 rfl hl (by decide) rfl (fun ls hl => ?_)
  refine r_new (ci := 13) (fs := [.int (iI 0), .int (iI 0), .null, .int (iI 0), .int (iI 0), .int (iI 0), .int (iI 0), .int (iI 0), .null, .null, .null, .null, .null, .null, .int (iI 0), .int (iI 0), .int (iI 0), .int (iI 0), .null, .null, .int (iI 0), .null, .null, .null, .int (iI 0), .int (iI 0), .null, .null, .int (iI 0), .null, .int (iI 0), .int (iI 0), .null, .null, .null, .int (iI 0), .null, .null, .null, .int (iI 0), .null, .null, .int (iI 0), .null, .null, .int (iI 0), .null, .null, .null, .int (iI 0), .null, .null, .null]) hx hb hC hA hw iX12 tyX12 tyX12_ok rfl cl_L_23 it_X12 in_X12 df_X12 (by decide) (by decide) rfl rfl dL_law_8 (fun a2 H hw => ?_)
  refine lv_dup hx hb dL_law_11 rfl ?_
  refine g_cIv (wr := WX τ ax MX) (As := []) (rest := [.ref a2]) hx hb hml hC hA hw hl.1 (c_Model_init l D τ _ a2) kX12_init ml_L_25 ((List.range 1).map (fun i => i + (WX τ ax MX).length)) (List.range (WX τ ax MX).length) (pick_r _ [_]) (pick_l _ _) (nd_of (nodup_shift _ _)) (va_nd_range _) (fun i hi h => by obtain ⟨j, _, rfl⟩ := List.mem_map.mp h; have := List.mem_range.mp hi; omega) rfl rfl (Nat.le_of_ble_eq_true rfl) ⟨by decide, by decide⟩ ⟨by decide, by decide⟩ rfl rfl dL_law_12 (fun w6 H locs hE6 hw => ?_)
  obtain ⟨qm, rfl⟩ := hE6
  obtain ⟨am, h1, hw2⟩ := WMi_conv2 hw
  clear hw
  subst h1
  have hw := hw2
  refine lv_astore_n (lv' := [(2, .ref (am 1)), (1, .ref (ax 155)), (0, .ref b)]) hx hb dL_law_15 rfl hl (by decide) rfl (fun ls hl => ?_)
  refine r_iconst hx hb dL_law_16 ?_
  refine r_newl (N := 1) hx hb hC hA hw ac_long (by decide) (by decide) (by decide) (by decide) rfl rfl dL_law_17 (fun ao H hw => ?_)
  refine lv_astore_n (lv' := [(3, .ref ao), (2, .ref (am 1)), (1, .ref (ax 155)), (0, .ref b)]) hx hb dL_law_19 rfl hl (by decide) rfl (fun ls hl => ?_)
  refine r_iconst hx hb dL_law_20 ?_
  refine lv_istore (lv' := [(4, .int (iI 0)), (3, .ref ao), (2, .ref (am 1)), (1, .ref (ax 155)), (0, .ref b)]) hx hb dL_law_21 hl (by decide) rfl (fun ls hl => ?_)
  rw [List.append_assoc] at hw
  exact law_loop l hst hx hb hml hr hlocks hC hLS hXX hA hAr hX hbl hbA hL 513 0 rfl (by omega) MX MM0 (fun _ => 0) _ _ _ _ _ hR hMX MM0_R hw hl (by decide) (by decide)
end
