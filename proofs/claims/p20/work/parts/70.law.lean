set_option maxHeartbeats 40000000 in
set_option maxRecDepth 100000 in
theorem law_loop {p : Program} {e : Env} {s : State} {m : MethodId} {below : List Frame} {meth : Method} {c : Code} (l : Launch) (hst : l.stackTraces = false) {b L : Nat} {xs : Nat → Int32} {D : va_G} {τ : Nat → ClassId} {A : Nat → Prop} {sA sV : Nat → Nat} {ax am : Nat → Nat} {ao : Nat} (hx : p.tables.exec = Jvm.exec) (hb : c.code = code) (hml : c.maxLocals = 8) (hr : meth.sig.returnType = ret) (hlocks : meth.locks = false) (hC : cx D τ s m #[Value.ref b] RL) (hLS : LK A s s.heap sA sV) (hXX : XX A s) (hA : ∀ q : Nat, s.heap.size ≤ q → A q) (hAr : ∀ q : Nat, A q → s.heap.size ≤ q) (hX : va_X b L xs s s.heap) (hbl : b < s.heap.size) (hbA : ¬ A b) (hL : L ≤ 2560) : ∀ (n k : Nat), n + k = 513 → k ≤ 512 → ∀ (MX MM : Mem) (g : Int → Int) (H : Heap) (locs : List Loc) (ls : Array Slot) (cc ss : Nat), Rel k MX MM → MR MX → MR MM → wS D A s.heap (WX τ ax MX ++ (WM τ am MM ++ [OC τ ao g])) H locs → lv_has ls 8 [(4, .int (iI (5 * (k : Int)))), (3, .ref ao), (2, .ref (am 1)), (1, .ref (ax 155)), (0, .ref b)] → cc ≤ 300 + 20 * k → ss ≤ 6000 + 120 * k → W p l e room_1 s m #[Value.ref b] below meth c H locs cc ss (lw_Z below #[Value.ref b] s) (F0 m 23 ls []) := by
  intro n
  induction n with
  | zero => intro k h1 h2; omega
  | succ n ih =>
    intro k hnk hk MX MM g H locs ls cc ss hR hMX hMM hw hl hcc hss
    refine lv_iload hx hb dL_law_23 (lv_at hl 0 rfl) ?_
    refine lv_aload_n hx hb dL_law_25 rfl (lv_at hl 4 rfl) ?_
    refine r_slen hx hb hX hbl hbA hw dL_law_26 ?_
    refine r_iconst hx hb dL_law_27 ?_
    refine r_isub (z := (L : Int) - 5) hx hb dL_law_28 rfl ?_
    refine r_icmp_gt (tgt := 1254) hx hb dL_law_29 (by decide) (by omega) (by omega) (fun _ => ?_) (fun hge => ?_)
    · refine r_iconst hx hb dL_law_1254 ?_
      refine va_forget (fun q hq => hAr _ (hw.2.2.2.2 q hq)) ?_
      refine W.widen (k := 601024) (n := 7293034) (by omega) (by omega) ?_
      exact lw_ret hx hb hr hlocks dL_law_1255
    have hkL : 5 * (k : Int) + 5 ≤ L := by omega
    have hk2 : k < 512 := by omega
    have NEXT : ∀ (MX MM : Mem) (g : Int → Int) (H : Heap) (locs : List Loc) (ls : Array Slot) (cc ss : Nat), Rel (k + 1) MX MM → MR MX → MR MM → wS D A s.heap (WX τ ax MX ++ (WM τ am MM ++ [OC τ ao g])) H locs → lv_has ls 8 [(4, .int (iI (5 * (k : Int)))), (3, .ref ao), (2, .ref (am 1)), (1, .ref (ax 155)), (0, .ref b)] → cc ≤ 300 + 20 * (k + 1) → ss ≤ 6000 + 120 * (k + 1) → W p l e room_1 s m #[Value.ref b] below meth c H locs cc ss (lw_Z below #[Value.ref b] s) (F0 m 1248 ls []) := by
      intro MX MM g H locs ls cc ss hR hMX hMM hw hl hcc hss
      refine r_iinc (v := 5 * ((k + 1 : Nat) : Int)) (lv' := [(4, .int (iI (5 * ((k + 1 : Nat) : Int)))), (3, .ref ao), (2, .ref (am 1)), (1, .ref (ax 155)), (0, .ref b)]) hx hb dL_law_1248 hl (k := 0) rfl (by omega) (by decide) rfl (fun ls hl => ?_)
      refine lv_goto (tgt := 23) hx hb dL_law_1251 (by decide) ?_
      exact ih (k + 1) (by omega) (by omega) MX MM g H locs ls cc ss hR hMX hMM hw hl hcc hss
    refine lv_aload_n hx hb dL_law_32 rfl (lv_at hl 4 rfl) ?_
    refine lv_iload hx hb dL_law_33 (lv_at hl 0 rfl) ?_
    obtain ⟨y0, hy0, ey0⟩ := iI_of (xs (5 * (k : Int)).toNat)
    refine r_sld hx hb hX hbl hbA hw (by omega) (by omega) (by omega) ey0 dL_law_35 ?_
    refine r_bipush hx hb dL_law_36 (by decide +kernel) ?_
    refine r_iandF hx hb dL_law_38 (fun z0 e0 hz0 => ?_)
    refine W.widen (k := 300 + 20 * k) (n := 6000 + 120 * k) (by omega) (by omega) ?_
    rcases (show (z0 < 0 ∨ 42 < z0) ∨ z0 = 0 ∨ z0 = 1 ∨ z0 = 2 ∨ z0 = 3 ∨ z0 = 4 ∨ z0 = 5 ∨ z0 = 6 ∨ z0 = 7 ∨ z0 = 8 ∨ z0 = 9 ∨ z0 = 10 ∨ z0 = 11 ∨ z0 = 12 ∨ z0 = 13 ∨ z0 = 14 ∨ z0 = 15 ∨ z0 = 16 ∨ z0 = 17 ∨ z0 = 18 ∨ z0 = 19 ∨ z0 = 20 ∨ z0 = 21 ∨ z0 = 22 ∨ z0 = 23 ∨ z0 = 24 ∨ z0 = 25 ∨ z0 = 26 ∨ z0 = 27 ∨ z0 = 28 ∨ z0 = 29 ∨ z0 = 30 ∨ z0 = 31 ∨ z0 = 32 ∨ z0 = 33 ∨ z0 = 34 ∨ z0 = 35 ∨ z0 = 36 ∨ z0 = 37 ∨ z0 = 38 ∨ z0 = 39 ∨ z0 = 40 ∨ z0 = 41 ∨ z0 = 42 by omega) with hs | hs | hs | hs | hs | hs | hs | hs | hs | hs | hs | hs | hs | hs | hs | hs | hs | hs | hs | hs | hs | hs | hs | hs | hs | hs | hs | hs | hs | hs | hs | hs | hs | hs | hs | hs | hs | hs | hs | hs | hs | hs | hs | hs
    · refine r_tblO (tgt := 1248) hx hb dL_law_39 hz0 hs (by decide) ?_
      exact NEXT MX MM g _ _ _ _ _ (Rel_skip hR) hMX hMM hw hl (by omega) (by omega)
    · refine r_tblI (tgt := 224) hx hb dL_law_39 hz0 (by omega) (by omega) (by rw [hs]; first | done | rfl) (by decide) ?_
      exact law_case0 l hst hx hb hml hC hLS hXX hA hX hbl hbA k hk2 hkL hL NEXT MX MM g H locs ls hR hMX hMM hw hl
    · refine r_tblI (tgt := 249) hx hb dL_law_39 hz0 (by omega) (by omega) (by rw [hs]; first | done | rfl) (by decide) ?_
      exact law_case1 l hst hx hb hml hC hLS hXX hA hX hbl hbA k hk2 hkL hL NEXT MX MM g H locs ls hR hMX hMM hw hl
    · refine r_tblI (tgt := 274) hx hb dL_law_39 hz0 (by omega) (by omega) (by rw [hs]; first | done | rfl) (by decide) ?_
      exact law_case2 l hst hx hb hml hC hLS hXX hA hX hbl hbA k hk2 hkL hL NEXT MX MM g H locs ls hR hMX hMM hw hl
    · refine r_tblI (tgt := 287) hx hb dL_law_39 hz0 (by omega) (by omega) (by rw [hs]; first | done | rfl) (by decide) ?_
      exact law_case3 l hst hx hb hml hC hLS hXX hA hX hbl hbA k hk2 hkL hL NEXT MX MM g H locs ls hR hMX hMM hw hl
    · refine r_tblI (tgt := 300) hx hb dL_law_39 hz0 (by omega) (by omega) (by rw [hs]; first | done | rfl) (by decide) ?_
      exact law_case4 l hst hx hb hml hC hLS hXX hA hX hbl hbA k hk2 hkL hL NEXT MX MM g H locs ls hR hMX hMM hw hl
    · refine r_tblI (tgt := 313) hx hb dL_law_39 hz0 (by omega) (by omega) (by rw [hs]; first | done | rfl) (by decide) ?_
      exact law_case5 l hst hx hb hml hC hLS hXX hA hX hbl hbA k hk2 hkL hL NEXT MX MM g H locs ls hR hMX hMM hw hl
    · refine r_tblI (tgt := 326) hx hb dL_law_39 hz0 (by omega) (by omega) (by rw [hs]; first | done | rfl) (by decide) ?_
      exact law_case6 l hst hx hb hml hC hLS hXX hA hX hbl hbA k hk2 hkL hL NEXT MX MM g H locs ls hR hMX hMM hw hl
    · refine r_tblI (tgt := 339) hx hb dL_law_39 hz0 (by omega) (by omega) (by rw [hs]; first | done | rfl) (by decide) ?_
      exact law_case7 l hst hx hb hml hC hLS hXX hA hX hbl hbA k hk2 hkL hL NEXT MX MM g H locs ls hR hMX hMM hw hl
    · refine r_tblI (tgt := 379) hx hb dL_law_39 hz0 (by omega) (by omega) (by rw [hs]; first | done | rfl) (by decide) ?_
      exact law_case8 l hst hx hb hml hC hLS hXX hA hX hbl hbA k hk2 hkL hL NEXT MX MM g H locs ls hR hMX hMM hw hl
    · refine r_tblI (tgt := 419) hx hb dL_law_39 hz0 (by omega) (by omega) (by rw [hs]; first | done | rfl) (by decide) ?_
      exact law_case9 l hst hx hb hml hC hLS hXX hA hX hbl hbA k hk2 hkL hL NEXT MX MM g H locs ls hR hMX hMM hw hl
    · refine r_tblI (tgt := 480) hx hb dL_law_39 hz0 (by omega) (by omega) (by rw [hs]; first | done | rfl) (by decide) ?_
      exact law_case10 l hst hx hb hml hC hLS hXX hA hX hbl hbA k hk2 hkL hL NEXT MX MM g H locs ls hR hMX hMM hw hl
    · refine r_tblI (tgt := 505) hx hb dL_law_39 hz0 (by omega) (by omega) (by rw [hs]; first | done | rfl) (by decide) ?_
      exact law_case11 l hst hx hb hml hC hLS hXX hA hX hbl hbA k hk2 hkL hL NEXT MX MM g H locs ls hR hMX hMM hw hl
    · refine r_tblI (tgt := 530) hx hb dL_law_39 hz0 (by omega) (by omega) (by rw [hs]; first | done | rfl) (by decide) ?_
      exact law_case12 l hst hx hb hml hC hLS hXX hA hX hbl hbA k hk2 hkL hL NEXT MX MM g H locs ls hR hMX hMM hw hl
    · refine r_tblI (tgt := 567) hx hb dL_law_39 hz0 (by omega) (by omega) (by rw [hs]; first | done | rfl) (by decide) ?_
      exact law_case13 l hst hx hb hml hC hLS hXX hA hX hbl hbA k hk2 hkL hL NEXT MX MM g H locs ls hR hMX hMM hw hl
    · refine r_tblI (tgt := 604) hx hb dL_law_39 hz0 (by omega) (by omega) (by rw [hs]; first | done | rfl) (by decide) ?_
      exact law_case14 l hst hx hb hml hC hLS hXX hA hX hbl hbA k hk2 hkL hL NEXT MX MM g H locs ls hR hMX hMM hw hl
    · refine r_tblI (tgt := 617) hx hb dL_law_39 hz0 (by omega) (by omega) (by rw [hs]; first | done | rfl) (by decide) ?_
      exact law_case15 l hst hx hb hml hC hLS hXX hA hX hbl hbA k hk2 hkL hL NEXT MX MM g H locs ls hR hMX hMM hw hl
    · refine r_tblI (tgt := 630) hx hb dL_law_39 hz0 (by omega) (by omega) (by rw [hs]; first | done | rfl) (by decide) ?_
      exact law_case16 l hst hx hb hml hC hLS hXX hA hX hbl hbA k hk2 hkL hL NEXT MX MM g H locs ls hR hMX hMM hw hl
    · refine r_tblI (tgt := 643) hx hb dL_law_39 hz0 (by omega) (by omega) (by rw [hs]; first | done | rfl) (by decide) ?_
      exact law_case17 l hst hx hb hml hC hLS hXX hA hX hbl hbA k hk2 hkL hL NEXT MX MM g H locs ls hR hMX hMM hw hl
    · refine r_tblI (tgt := 668) hx hb dL_law_39 hz0 (by omega) (by omega) (by rw [hs]; first | done | rfl) (by decide) ?_
      exact law_case18 l hst hx hb hml hC hLS hXX hA hX hbl hbA k hk2 hkL hL NEXT MX MM g H locs ls hR hMX hMM hw hl
    · refine r_tblI (tgt := 693) hx hb dL_law_39 hz0 (by omega) (by omega) (by rw [hs]; first | done | rfl) (by decide) ?_
      exact law_case19 l hst hx hb hml hC hLS hXX hA hX hbl hbA k hk2 hkL hL NEXT MX MM g H locs ls hR hMX hMM hw hl
    · refine r_tblI (tgt := 718) hx hb dL_law_39 hz0 (by omega) (by omega) (by rw [hs]; first | done | rfl) (by decide) ?_
      exact law_case20 l hst hx hb hml hC hLS hXX hA hX hbl hbA k hk2 hkL hL NEXT MX MM g H locs ls hR hMX hMM hw hl
    · refine r_tblI (tgt := 755) hx hb dL_law_39 hz0 (by omega) (by omega) (by rw [hs]; first | done | rfl) (by decide) ?_
      exact law_case21 l hst hx hb hml hC hLS hXX hA hX hbl hbA k hk2 hkL hL NEXT MX MM g H locs ls hR hMX hMM hw hl
    · refine r_tblI (tgt := 780) hx hb dL_law_39 hz0 (by omega) (by omega) (by rw [hs]; first | done | rfl) (by decide) ?_
      exact law_case22 l hst hx hb hml hC hLS hXX hA hX hbl hbA k hk2 hkL hL NEXT MX MM g H locs ls hR hMX hMM hw hl
    · refine r_tblI (tgt := 793) hx hb dL_law_39 hz0 (by omega) (by omega) (by rw [hs]; first | done | rfl) (by decide) ?_
      exact law_case23 l hst hx hb hml hC hLS hXX hA hX hbl hbA k hk2 hkL hL NEXT MX MM g H locs ls hR hMX hMM hw hl
    · refine r_tblI (tgt := 806) hx hb dL_law_39 hz0 (by omega) (by omega) (by rw [hs]; first | done | rfl) (by decide) ?_
      exact law_case24 l hst hx hb hml hC hLS hXX hA hX hbl hbA k hk2 hkL hL NEXT MX MM g H locs ls hR hMX hMM hw hl
    · refine r_tblI (tgt := 831) hx hb dL_law_39 hz0 (by omega) (by omega) (by rw [hs]; first | done | rfl) (by decide) ?_
      exact law_case25 l hst hx hb hml hC hLS hXX hA hX hbl hbA k hk2 hkL hL NEXT MX MM g H locs ls hR hMX hMM hw hl
    · refine r_tblI (tgt := 856) hx hb dL_law_39 hz0 (by omega) (by omega) (by rw [hs]; first | done | rfl) (by decide) ?_
      exact law_case26 l hst hx hb hml hC hLS hXX hA hX hbl hbA k hk2 hkL hL NEXT MX MM g H locs ls hR hMX hMM hw hl
    · refine r_tblI (tgt := 881) hx hb dL_law_39 hz0 (by omega) (by omega) (by rw [hs]; first | done | rfl) (by decide) ?_
      exact law_case27 l hst hx hb hml hC hLS hXX hA hX hbl hbA k hk2 hkL hL NEXT MX MM g H locs ls hR hMX hMM hw hl
    · refine r_tblI (tgt := 894) hx hb dL_law_39 hz0 (by omega) (by omega) (by rw [hs]; first | done | rfl) (by decide) ?_
      exact law_case28 l hst hx hb hml hC hLS hXX hA hX hbl hbA k hk2 hkL hL NEXT MX MM g H locs ls hR hMX hMM hw hl
    · refine r_tblI (tgt := 907) hx hb dL_law_39 hz0 (by omega) (by omega) (by rw [hs]; first | done | rfl) (by decide) ?_
      exact law_case29 l hst hx hb hml hC hLS hXX hA hX hbl hbA k hk2 hkL hL NEXT MX MM g H locs ls hR hMX hMM hw hl
    · refine r_tblI (tgt := 932) hx hb dL_law_39 hz0 (by omega) (by omega) (by rw [hs]; first | done | rfl) (by decide) ?_
      exact law_case30 l hst hx hb hml hC hLS hXX hA hX hbl hbA k hk2 hkL hL NEXT MX MM g H locs ls hR hMX hMM hw hl
    · refine r_tblI (tgt := 945) hx hb dL_law_39 hz0 (by omega) (by omega) (by rw [hs]; first | done | rfl) (by decide) ?_
      exact law_case31 l hst hx hb hml hC hLS hXX hA hX hbl hbA k hk2 hkL hL NEXT MX MM g H locs ls hR hMX hMM hw hl
    · refine r_tblI (tgt := 958) hx hb dL_law_39 hz0 (by omega) (by omega) (by rw [hs]; first | done | rfl) (by decide) ?_
      exact law_case32 l hst hx hb hml hC hLS hXX hA hX hbl hbA k hk2 hkL hL NEXT MX MM g H locs ls hR hMX hMM hw hl
    · refine r_tblI (tgt := 995) hx hb dL_law_39 hz0 (by omega) (by omega) (by rw [hs]; first | done | rfl) (by decide) ?_
      exact law_case33 l hst hx hb hml hC hLS hXX hA hX hbl hbA k hk2 hkL hL NEXT MX MM g H locs ls hR hMX hMM hw hl
    · refine r_tblI (tgt := 1008) hx hb dL_law_39 hz0 (by omega) (by omega) (by rw [hs]; first | done | rfl) (by decide) ?_
      exact law_case34 l hst hx hb hml hC hLS hXX hA hX hbl hbA k hk2 hkL hL NEXT MX MM g H locs ls hR hMX hMM hw hl
    · refine r_tblI (tgt := 1021) hx hb dL_law_39 hz0 (by omega) (by omega) (by rw [hs]; first | done | rfl) (by decide) ?_
      exact law_case35 l hst hx hb hml hC hLS hXX hA hX hbl hbA k hk2 hkL hL NEXT MX MM g H locs ls hR hMX hMM hw hl
    · refine r_tblI (tgt := 1070) hx hb dL_law_39 hz0 (by omega) (by omega) (by rw [hs]; first | done | rfl) (by decide) ?_
      exact law_case36 l hst hx hb hml hC hLS hXX hA hX hbl hbA k hk2 hkL hL NEXT MX MM g H locs ls hR hMX hMM hw hl
    · refine r_tblI (tgt := 1083) hx hb dL_law_39 hz0 (by omega) (by omega) (by rw [hs]; first | done | rfl) (by decide) ?_
      exact law_case37 l hst hx hb hml hC hLS hXX hA hX hbl hbA k hk2 hkL hL NEXT MX MM g H locs ls hR hMX hMM hw hl
    · refine r_tblI (tgt := 1108) hx hb dL_law_39 hz0 (by omega) (by omega) (by rw [hs]; first | done | rfl) (by decide) ?_
      exact law_case38 l hst hx hb hml hC hLS hXX hA hX hbl hbA k hk2 hkL hL NEXT MX MM g H locs ls hR hMX hMM hw hl
    · refine r_tblI (tgt := 1145) hx hb dL_law_39 hz0 (by omega) (by omega) (by rw [hs]; first | done | rfl) (by decide) ?_
      exact law_case39 l hst hx hb hml hC hLS hXX hA hX hbl hbA k hk2 hkL hL NEXT MX MM g H locs ls hR hMX hMM hw hl
    · refine r_tblI (tgt := 1170) hx hb dL_law_39 hz0 (by omega) (by omega) (by rw [hs]; first | done | rfl) (by decide) ?_
      exact law_case40 l hst hx hb hml hC hLS hXX hA hX hbl hbA k hk2 hkL hL NEXT MX MM g H locs ls hR hMX hMM hw hl
    · refine r_tblI (tgt := 1195) hx hb dL_law_39 hz0 (by omega) (by omega) (by rw [hs]; first | done | rfl) (by decide) ?_
      exact law_case41 l hst hx hb hml hC hLS hXX hA hX hbl hbA k hk2 hkL hL NEXT MX MM g H locs ls hR hMX hMM hw hl
    · refine r_tblI (tgt := 1220) hx hb dL_law_39 hz0 (by omega) (by omega) (by rw [hs]; first | done | rfl) (by decide) ?_
      exact law_case42 l hst hx hb hml hC hLS hXX hA hX hbl hbA k hk2 hkL hL NEXT MX MM g H locs ls hR hMX hMM hw hl
set_option maxHeartbeats 40000000 in
set_option maxRecDepth 100000 in
theorem whole_start {p : Program} {e : Env} {s : State} {m : MethodId} {below : List Frame} {meth : Method} {c : Code} (l : Launch) (hflags : l.flags = flags0) {b L : Nat} {xs : Nat → Int32} (hL : L ≤ 2560) (C0 : lw_At p s m meth c b L xs) : W p l e room_1 s m #[Value.ref b] below meth c s.heap [] 0 0 (lw_Z below #[Value.ref b] s) (entryFrame m ([Value.ref b] : List Value).toArray 8) := by
  obtain ⟨hx, hb, hr, hml, hown, hts, hX, hbl, hlocks, hgv⟩ := id C0
  obtain ⟨D, τ, hK, hN⟩ := K_init hts
  obtain ⟨A, hAe⟩ : ∃ A : Nat → Prop, A = fun q : Nat => s.heap.size ≤ q := ⟨_, rfl⟩
  have hA : ∀ q : Nat, s.heap.size ≤ q → A q := fun q h => by rw [hAe]; exact h
  have hAr : ∀ q : Nat, A q → s.heap.size ≤ q := fun q h => by rw [hAe] at h; exact h
  have hbA : ¬ A b := fun h => absurd (hAr b h) (Nat.not_le.mpr hbl)
  have hC : cx D τ s m #[Value.ref b] RL := ⟨fun w h => hts w (lw_gt h), hown, hK, hN⟩
  have hw : wS D A s.heap [] s.heap [] := ⟨fun k q h => by simp at h, ⟨fun i j p q h => by simp at h, fun k q h => by simp at h⟩, va_S.rf⟩
  have hl := lv_entry ([.ref b]) (n := 8) (Nat.le_of_ble_eq_true rfl)
  rw [lg_entry_eq]
  generalize (lg_sl ([.ref b]) ++ List.replicate (8 - (lg_sl ([.ref b])).length) Slot.unset).toArray = ls at hl ⊢
  have hl : lv_has ls 8 [(0, .ref b)] := hl
  have hnA : ∀ a : Nat, a < s.heap.size → ¬ A a := fun a h1 h2 => absurd (hAr a h2) (Nat.not_le.mpr h1)
  have hXX : XX A s := XX_of (D := D) (τ := τ) hts hgv hK hnA
  have hst : l.stackTraces = false := by show (!l.flags.contains Jvm.noTraceFlag) = false; rw [hflags]; decide +kernel
  obtain ⟨sA, sV, hLS⟩ := LK_of hts hgv (A := A) hnA
  refine r_new (ci := 12) (fs := [.null, .null, .null, .null, .null, .null, .null, .null, .null, .null, .null, .null, .null, .null, .null, .int (iI 0), .null, .null]) hx hb hC hA hw iX11 tyX11 tyX11_ok rfl cl_L_8 it_X11 in_X11 df_X11 (by decide) (by decide) rfl rfl dL_law_0 (fun a1 H hw => ?_)
  refine lv_dup hx hb dL_law_3 rfl ?_
  refine k_cIv (wr := []) (As := []) (rest := [.ref a1]) hx hb hml hC hLS hA hw hl.1 (c_Main_full l D τ sA sV _ a1 _ Rel_init) kX11_init ml_L_22 [0] [] rfl rfl (by decide) (by decide) (by decide) rfl rfl (Nat.le_of_ble_eq_true rfl) ⟨by decide, by decide⟩ ⟨by decide, by decide⟩ rfl rfl dL_law_4 (fun w5 H locs hE5 hw => ?_)
  obtain ⟨ax, MX, rfl, hMX, hR, rfl⟩ := hE5
  have hw : wS D A s.heap (WX τ ax MX) H locs := hw
  refine lv_astore_n (lv' := [(1, .ref (ax 155)), (0, .ref b)]) hx hb dL_law_7 rfl hl (by decide) rfl (fun ls hl => ?_)
  refine r_new (ci := 13) (fs := [.int (iI 0), .int (iI 0), .null, .int (iI 0), .int (iI 0), .int (iI 0), .int (iI 0), .int (iI 0), .null, .null, .null, .null, .null, .null, .int (iI 0), .int (iI 0), .int (iI 0), .int (iI 0), .null, .null, .int (iI 0), .null, .null, .null, .int (iI 0), .int (iI 0), .null, .null, .int (iI 0), .null, .int (iI 0), .int (iI 0), .null, .null, .null, .int (iI 0), .null, .null, .null, .int (iI 0), .null, .null, .int (iI 0), .null, .null, .int (iI 0), .null, .null, .null, .int (iI 0), .null, .null, .null]) hx hb hC hA hw iX12 tyX12 tyX12_ok rfl cl_L_23 it_X12 in_X12 df_X12 (by decide) (by decide) rfl rfl dL_law_8 (fun a2 H hw => ?_)
  refine lv_dup hx hb dL_law_11 rfl ?_
  refine g_cIv (wr := WX τ ax MX) (As := []) (rest := [.ref a2]) hx hb hml hC hA hw hl.1 (c_Model_init l D τ _ a2) kX12_init ml_L_25 ((List.range 1).map (fun i => i + (WX τ ax MX).length)) (List.range (WX τ ax MX).length) (pick_r _ [_]) (pick_l _ _) (nd_of (nodup_shift _ _)) (va_nd_range _) (fun i hi h => by obtain ⟨j, _, rfl⟩ := List.mem_map.mp h; have := List.mem_range.mp hi; omega) rfl rfl (Nat.le_of_ble_eq_true rfl) ⟨by decide, by decide⟩ ⟨by decide, by decide⟩ rfl rfl dL_law_12 (fun w6 H locs hE6 hw => ?_)
  obtain ⟨qm, rfl⟩ := hE6
  obtain ⟨am, h1, hw2⟩ := WMi_conv2 hw
  clear hw
  subst h1
  have hw := hw2
  refine lv_astore_n (lv' := [(2, .ref (am 1)), (1, .ref (ax 155)), (0, .ref b)]) hx hb dL_law_15 rfl hl (by decide) rfl (fun ls hl => ?_)
  refine r_iconst hx hb dL_law_16 ?_
  refine r_newl (N := 1) hx hb hC hA hw ac_long (by decide) (by decide) (by decide) (by decide) rfl rfl dL_law_17 (fun ao H hw => ?_)
  refine lv_astore_n (lv' := [(3, .ref ao), (2, .ref (am 1)), (1, .ref (ax 155)), (0, .ref b)]) hx hb dL_law_19 rfl hl (by decide) rfl (fun ls hl => ?_)
  refine r_iconst hx hb dL_law_20 ?_
  refine lv_istore (lv' := [(4, .int (iI 0)), (3, .ref ao), (2, .ref (am 1)), (1, .ref (ax 155)), (0, .ref b)]) hx hb dL_law_21 hl (by decide) rfl (fun ls hl => ?_)
  rw [List.append_assoc] at hw
  exact law_loop l hst hx hb hml hr hlocks hC hLS hXX hA hAr hX hbl hbA hL 513 0 rfl (by omega) MX MM0 (fun _ => 0) _ _ _ _ _ hR hMX MM0_R hw hl (by decide) (by decide)
