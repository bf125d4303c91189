set_option maxHeartbeats 4000000 in
set_option maxRecDepth 100000 in
theorem mX11_mends (l : Launch) (D : va_G) (τ : Nat → ClassId) (ad : Nat → Nat) (sA sV : Nat → Nat) (sz : Nat) (p1 : Int) (hp1 : iR p1) (M : Mem) (hM : MR M) (Q : Int → Mem → Prop) (hv : qX11_mends p1 M Q) : Met l yX11_mends (lw_w yX11_mends cX11_mends 6 (some .int)) (rmk 7 0 0) (kPc D τ sA sV (WX τ ad M) sz [.ref (ad 155), .int (iI p1)]) (gQi D (EQi (WX τ ad) MR Q) (va_A (WX τ ad M) sz)) 0 0 (va_A (WX τ ad M) sz) := by
  refine k_met (ret := (some .int)) (Qc := gQi D (EQi (WX τ ad) MR Q)) (by decide +kernel) (Nat.le_of_ble_eq_true rfl) ?_
  intro p e s m args below meth c A ls hx hb hml hr hlk hnm hC hLS hA hw hl
  have hC : cx D τ s m args RX11 := hC
  have hl : lv_has ls 6 [(0, .ref (ad 155)), (1, .int (iI p1))] := hl
  unfold qX11_mends at hv
  have J70 : ∀ (R : Int → Int → Int → Mem → Prop), (∀ (v2 : Int) (v3 : Int) (v4 : Int) (M : Mem) (H : Heap) (locs : List Loc) (ls : Array Slot), MR M → R v2 v3 v4 M → wS D A s.heap (WX τ ad M) H locs → lv_has ls 6 [(0, .ref (ad 155)), (1, .int (iI p1)), (2, .int (iI v2)), (3, .int (iI v3)), (4, .int (iI v4))] → W p l e (rmk 7 0 0) s m args below meth c H locs 0 0 (MQ below (gQi D (EQi (WX τ ad) MR Q) A) args s 0 0 A) (F0 m 33 ls [])) → ∀ (X98 : Int → Int → Mem → Prop), (∀ (v3 : Int) (v4 : Int) (M : Mem) (H : Heap) (locs : List Loc) (ls : Array Slot), MR M → X98 v3 v4 M → wS D A s.heap (WX τ ad M) H locs → lv_has ls 6 [(0, .ref (ad 155)), (3, .int (iI v3)), (4, .int (iI v4))] → W p l e (rmk 7 0 0) s m args below meth c H locs 0 0 (MQ below (gQi D (EQi (WX τ ad) MR Q) A) args s 0 0 A) (F0 m 98 ls [])) → ∀ (X116 : Int → Int → Mem → Prop), (∀ (v2 : Int) (v3 : Int) (M : Mem) (H : Heap) (locs : List Loc) (ls : Array Slot), MR M → X116 v2 v3 M → wS D A s.heap (WX τ ad M) H locs → lv_has ls 6 [(0, .ref (ad 155)), (1, .int (iI p1)), (2, .int (iI v2)), (3, .int (iI v3))] → W p l e (rmk 7 0 0) s m args below meth c H locs 0 0 (MQ below (gQi D (EQi (WX τ ad) MR Q) A) args s 0 0 A) (F0 m 116 ls [])) → ∀ (v2 : Int) (v3 : Int) (v4 : Int) (t0 : Int) (M : Mem) (H : Heap) (locs : List Loc) (ls : Array Slot), MR M → qX11_mends_J70 p1 R X98 X116 Q v2 v3 v4 t0 M → wS D A s.heap (WX τ ad M) H locs → lv_has ls 6 [(0, .ref (ad 155)), (1, .int (iI p1)), (2, .int (iI v2)), (3, .int (iI v3)), (4, .int (iI v4))] → W p l e (rmk 7 0 0) s m args below meth c H locs 0 0 (MQ below (gQi D (EQi (WX τ ad) MR Q) A) args s 0 0 A) (F0 m 70 ls [.int (iI t0)]) := by
    intro R hR X98 hX98 X116 hX116 v2 v3 v4 t0 M H locs ls hM hv hw hl
    unfold qX11_mends_J70 at hv
    refine lv_istore (lv' := [(5, .int (iI t0)), (0, .ref (ad 155)), (1, .int (iI p1)), (2, .int (iI v2)), (3, .int (iI v3)), (4, .int (iI v4))]) hx hb dX11_mends_70 hl (by decide) rfl (fun ls hl => ?_)
    refine lv_iload hx hb dX11_mends_72 (lv_at hl 0 rfl) ?_
    obtain ⟨c14, hv⟩ := hv
    refine r_if_eq (tgt := 110) hx hb dX11_mends_74 (by decide) c14  (fun b15 => ?_) (fun b15 => ?_)
    · have hv := hv.1 b15
      refine r_iinc (v := (v4 + 1)) (lv' := [(4, .int (iI (v4 + 1))), (5, .int (iI t0)), (0, .ref (ad 155)), (1, .int (iI p1)), (2, .int (iI v2)), (3, .int (iI v3))]) hx hb dX11_mends_110 hl (k := 5) rfl rfl (by decide) rfl (fun ls hl => ?_)
      refine lv_goto (tgt := 33) hx hb dX11_mends_113 (by decide) ?_
      exact hR v2 v3 (v4 + 1) M _ _ _ hM hv hw (lv_sub hl [2, 3, 4, 5, 0] rfl)
    · have hv := hv.2 b15
      refine lv_aload_n hx hb dX11_mends_77 rfl (lv_at hl 1 rfl) ?_
      refine lv_iload hx hb dX11_mends_78 (lv_at hl 5 rfl) ?_
      obtain ⟨c16, hv⟩ := hv
      refine k_cVv (wq_X τ ad) hx hb hml hC hLS hA hw hl.1 (mX11_turnInTrial l D τ ad sA sV _ v4 c16 M hM _ hv) kX11_turnInTrial ml_X11_429 rfl (gX_155 τ ad M) rfl rfl (Nat.le_of_ble_eq_true rfl) (rm_ok (by decide) (by decide)) ⟨Nat.zero_le _, Nat.zero_le _⟩ dX11_mends_80 (fun M17 H locs hM hv hw => ?_)
      refine lv_aload_n hx hb dX11_mends_83 rfl (lv_at hl 1 rfl) ?_
      refine lv_aload_n hx hb dX11_mends_84 rfl (lv_at hl 1 rfl) ?_
      refine gf_X11_105 hx hb hC hw 155 (gX_155 τ ad M17) rfl dX11_mends_85 ?_
      obtain ⟨c18, hv⟩ := hv
      refine k_cVi (wq_X τ ad) hx hb hml hC hLS hA hw hl.1 (mX11_rightOnesOfTrial l D τ ad sA sV _ (M17 155 16).toNat c18 M17 hM _ hv) kX11_rightOnesOfTrial ml_X11_382 rfl (gX_155 τ ad M17) rfl rfl (Nat.le_of_ble_eq_true rfl) (rm_ok (by decide) (by decide)) ⟨Nat.zero_le _, Nat.zero_le _⟩ dX11_mends_88 (fun x19 M19 H locs g19 hM hv hw => ?_)
      have hv := hv g19
      refine k_cSi (wq_X τ ad) hx hb hml hC hLS hA hw hl.1 (mJ6_bitCount_0f7a4X l D τ ad sA sV _ x19 g19 M19 hM _ hv) kJ6_bitCount_0f7a4 ml_X11_389 rfl rfl (Nat.le_of_ble_eq_true rfl) (rm_ok (by decide) (by decide)) ⟨Nat.zero_le _, Nat.zero_le _⟩ dX11_mends_91 (fun x20 M20 H locs g20 hM hv hw => ?_)
      have hv := hv g20
      refine lv_iload_n hx hb dX11_mends_94 rfl (lv_at hl 2 rfl) ?_
      refine r_icmp_lt (tgt := 110) hx hb dX11_mends_95 (by decide) g20 hp1 (fun b21 => ?_) (fun b21 => ?_)
      · have hv := hv.1 b21
        refine r_iinc (v := (v4 + 1)) (lv' := [(4, .int (iI (v4 + 1))), (5, .int (iI t0)), (0, .ref (ad 155)), (1, .int (iI p1)), (2, .int (iI v2)), (3, .int (iI v3))]) hx hb dX11_mends_110 hl (k := 5) rfl rfl (by decide) rfl (fun ls hl => ?_)
        refine lv_goto (tgt := 33) hx hb dX11_mends_113 (by decide) ?_
        exact hR v2 v3 (v4 + 1) M20 _ _ _ hM hv hw (lv_sub hl [2, 3, 4, 5, 0] rfl)
      · have hv := hv.2 b21
        exact hX98 v3 v4 M20 _ _ _ hM hv hw (lv_sub hl [1, 4, 5] rfl)
  have J69 : ∀ (R : Int → Int → Int → Mem → Prop), (∀ (v2 : Int) (v3 : Int) (v4 : Int) (M : Mem) (H : Heap) (locs : List Loc) (ls : Array Slot), MR M → R v2 v3 v4 M → wS D A s.heap (WX τ ad M) H locs → lv_has ls 6 [(0, .ref (ad 155)), (1, .int (iI p1)), (2, .int (iI v2)), (3, .int (iI v3)), (4, .int (iI v4))] → W p l e (rmk 7 0 0) s m args below meth c H locs 0 0 (MQ below (gQi D (EQi (WX τ ad) MR Q) A) args s 0 0 A) (F0 m 33 ls [])) → ∀ (X98 : Int → Int → Mem → Prop), (∀ (v3 : Int) (v4 : Int) (M : Mem) (H : Heap) (locs : List Loc) (ls : Array Slot), MR M → X98 v3 v4 M → wS D A s.heap (WX τ ad M) H locs → lv_has ls 6 [(0, .ref (ad 155)), (3, .int (iI v3)), (4, .int (iI v4))] → W p l e (rmk 7 0 0) s m args below meth c H locs 0 0 (MQ below (gQi D (EQi (WX τ ad) MR Q) A) args s 0 0 A) (F0 m 98 ls [])) → ∀ (X116 : Int → Int → Mem → Prop), (∀ (v2 : Int) (v3 : Int) (M : Mem) (H : Heap) (locs : List Loc) (ls : Array Slot), MR M → X116 v2 v3 M → wS D A s.heap (WX τ ad M) H locs → lv_has ls 6 [(0, .ref (ad 155)), (1, .int (iI p1)), (2, .int (iI v2)), (3, .int (iI v3))] → W p l e (rmk 7 0 0) s m args below meth c H locs 0 0 (MQ below (gQi D (EQi (WX τ ad) MR Q) A) args s 0 0 A) (F0 m 116 ls [])) → ∀ (v2 : Int) (v3 : Int) (v4 : Int) (M : Mem) (H : Heap) (locs : List Loc) (ls : Array Slot), MR M → qX11_mends_J69 p1 R X98 X116 Q v2 v3 v4 M → wS D A s.heap (WX τ ad M) H locs → lv_has ls 6 [(0, .ref (ad 155)), (1, .int (iI p1)), (2, .int (iI v2)), (3, .int (iI v3)), (4, .int (iI v4))] → W p l e (rmk 7 0 0) s m args below meth c H locs 0 0 (MQ below (gQi D (EQi (WX τ ad) MR Q) A) args s 0 0 A) (F0 m 69 ls []) := by
    intro R hR X98 hX98 X116 hX116 v2 v3 v4 M H locs ls hM hv hw hl
    unfold qX11_mends_J69 at hv
    refine r_iconst hx hb dX11_mends_69 ?_
    exact J70 _ hR _ hX98 _ hX116 v2 v3 v4 0 M _ _ _ hM hv hw (lv_sub hl [0, 1, 2, 3, 4] rfl)
  have L33 : ∀ (X98 : Int → Int → Mem → Prop), (∀ (v3 : Int) (v4 : Int) (M : Mem) (H : Heap) (locs : List Loc) (ls : Array Slot), MR M → X98 v3 v4 M → wS D A s.heap (WX τ ad M) H locs → lv_has ls 6 [(0, .ref (ad 155)), (3, .int (iI v3)), (4, .int (iI v4))] → W p l e (rmk 7 0 0) s m args below meth c H locs 0 0 (MQ below (gQi D (EQi (WX τ ad) MR Q) A) args s 0 0 A) (F0 m 98 ls [])) → ∀ (X116 : Int → Int → Mem → Prop), (∀ (v2 : Int) (v3 : Int) (M : Mem) (H : Heap) (locs : List Loc) (ls : Array Slot), MR M → X116 v2 v3 M → wS D A s.heap (WX τ ad M) H locs → lv_has ls 6 [(0, .ref (ad 155)), (1, .int (iI p1)), (2, .int (iI v2)), (3, .int (iI v3))] → W p l e (rmk 7 0 0) s m args below meth c H locs 0 0 (MQ below (gQi D (EQi (WX τ ad) MR Q) A) args s 0 0 A) (F0 m 116 ls [])) → ∀ (n : Nat) (v2 : Int) (v3 : Int) (v4 : Int) (M : Mem) (H : Heap) (locs : List Loc) (ls : Array Slot), MR M → qX11_mends_L33 p1 X98 X116 Q n v2 v3 v4 M → wS D A s.heap (WX τ ad M) H locs → lv_has ls 6 [(0, .ref (ad 155)), (1, .int (iI p1)), (2, .int (iI v2)), (3, .int (iI v3)), (4, .int (iI v4))] → W p l e (rmk 7 0 0) s m args below meth c H locs 0 0 (MQ below (gQi D (EQi (WX τ ad) MR Q) A) args s 0 0 A) (F0 m 33 ls []) := by
    intro X98 hX98 X116 hX116 n
    induction n with
    | zero => intro v2 v3 v4 M H locs ls hM hv; rw [qX11_mends_L33] at hv; exact hv.elim
    | succ n ih =>
      intro v2 v3 v4 M H locs ls hM hv hw hl
      rw [qX11_mends_L33] at hv
      refine lv_iload hx hb dX11_mends_33 (lv_at hl 4 rfl) ?_
      refine r_iconst hx hb dX11_mends_35 ?_
      refine lv_aload_n hx hb dX11_mends_36 rfl (lv_at hl 0 rfl) ?_
      refine gf_X11_26 hx hb hC hw 155 (gX_155 τ ad M) rfl dX11_mends_37 ?_
      refine gf_X11_191 hx hb hC hw 1 (gS_X (by decide) τ ad M) rfl dX11_mends_40 ?_
      refine r_top (fun x7 e7 => ?_)
      have g7 : iR x7 := by rw [e7]; exact hM.get (by decide) _
      have hv := hv x7 e7 g7
      refine r_ishlF hx hb dX11_mends_43 (fun x8 e8 g8 => ?_)
      have hv := hv x8 e8 g8
      obtain ⟨c9, hv⟩ := hv
      refine r_icmp_ge (tgt := 116) hx hb dX11_mends_44 (by decide) c9 g8 (fun b10 => ?_) (fun b10 => ?_)
      · have hv := hv.1 b10
        exact hX116 v2 v3 M _ _ _ hM hv hw (lv_sub hl [0, 1, 2, 3] rfl)
      · have hv := hv.2 b10
        refine lv_iload hx hb dX11_mends_47 (lv_at hl 4 rfl) ?_
        refine lv_iload_n hx hb dX11_mends_49 rfl (lv_at hl 2 rfl) ?_
        refine r_iconst hx hb dX11_mends_50 ?_
        refine r_ixorF hx hb dX11_mends_51 (fun x11 e11 g11 => ?_)
        have hv := hv x11 e11 g11
        refine r_iandF hx hb dX11_mends_52 (fun x12 e12 g12 => ?_)
        have hv := hv x12 e12 g12
        refine r_if_ne (tgt := 69) hx hb dX11_mends_53 (by decide) g12  (fun b13 => ?_) (fun b13 => ?_)
        · have hv := hv.1 b13
          exact J69 _ ih _ hX98 _ hX116 v2 v3 v4 M _ _ _ hM hv hw (lv_sub hl [0, 1, 2, 3, 4] rfl)
        · have hv := hv.2 b13
          refine lv_iload hx hb dX11_mends_56 (lv_at hl 4 rfl) ?_
          refine k_cSi (wq_X τ ad) hx hb hml hC hLS hA hw hl.1 (mJ6_bitCount_0f7a4X l D τ ad sA sV _ v4 c9 M hM _ hv) kJ6_bitCount_0f7a4 ml_X11_389 rfl rfl (Nat.le_of_ble_eq_true rfl) (rm_ok (by decide) (by decide)) ⟨Nat.zero_le _, Nat.zero_le _⟩ dX11_mends_58 (fun x22 M22 H locs g22 hM hv hw => ?_)
          have hv := hv g22
          refine lv_iload_n hx hb dX11_mends_61 rfl (lv_at hl 3 rfl) ?_
          obtain ⟨c23, hv⟩ := hv
          refine r_icmp_ne (tgt := 69) hx hb dX11_mends_62 (by decide) g22 c23 (fun b24 => ?_) (fun b24 => ?_)
          · have hv := hv.1 b24
            exact J69 _ ih _ hX98 _ hX116 v2 v3 v4 M22 _ _ _ hM hv hw (lv_sub hl [0, 1, 2, 3, 4] rfl)
          · have hv := hv.2 b24
            refine r_iconst hx hb dX11_mends_65 ?_
            refine lv_goto (tgt := 70) hx hb dX11_mends_66 (by decide) ?_
            exact J70 _ ih _ hX98 _ hX116 v2 v3 v4 1 M22 _ _ _ hM hv hw (lv_sub hl [0, 1, 2, 3, 4] rfl)
  have L19 : ∀ (X98 : Int → Int → Mem → Prop), (∀ (v3 : Int) (v4 : Int) (M : Mem) (H : Heap) (locs : List Loc) (ls : Array Slot), MR M → X98 v3 v4 M → wS D A s.heap (WX τ ad M) H locs → lv_has ls 6 [(0, .ref (ad 155)), (3, .int (iI v3)), (4, .int (iI v4))] → W p l e (rmk 7 0 0) s m args below meth c H locs 0 0 (MQ below (gQi D (EQi (WX τ ad) MR Q) A) args s 0 0 A) (F0 m 98 ls [])) → ∀ (n : Nat) (v2 : Int) (v3 : Int) (M : Mem) (H : Heap) (locs : List Loc) (ls : Array Slot), MR M → qX11_mends_L19 p1 X98 Q n v2 v3 M → wS D A s.heap (WX τ ad M) H locs → lv_has ls 6 [(0, .ref (ad 155)), (1, .int (iI p1)), (2, .int (iI v2)), (3, .int (iI v3))] → W p l e (rmk 7 0 0) s m args below meth c H locs 0 0 (MQ below (gQi D (EQi (WX τ ad) MR Q) A) args s 0 0 A) (F0 m 19 ls []) := by
    intro X98 hX98 n
    induction n with
    | zero => intro v2 v3 M H locs ls hM hv; rw [qX11_mends_L19] at hv; exact hv.elim
    | succ n ih =>
      intro v2 v3 M H locs ls hM hv hw hl
      rw [qX11_mends_L19] at hv
      refine lv_iload_n hx hb dX11_mends_19 rfl (lv_at hl 3 rfl) ?_
      refine lv_aload_n hx hb dX11_mends_20 rfl (lv_at hl 0 rfl) ?_
      refine gf_X11_26 hx hb hC hw 155 (gX_155 τ ad M) rfl dX11_mends_21 ?_
      refine gf_X11_191 hx hb hC hw 1 (gS_X (by decide) τ ad M) rfl dX11_mends_24 ?_
      refine r_top (fun x4 e4 => ?_)
      have g4 : iR x4 := by rw [e4]; exact hM.get (by decide) _
      have hv := hv x4 e4 g4
      obtain ⟨c5, hv⟩ := hv
      refine r_icmp_gt (tgt := 122) hx hb dX11_mends_27 (by decide) c5 g4 (fun b6 => ?_) (fun b6 => ?_)
      · have hv := hv.1 b6
        refine r_bipush hx hb dX11_mends_122 (by decide +kernel) ?_
        exact k_iret (wq_X τ ad) hx hb hr hlk hw hM (by decide) hv dX11_mends_124
      · have hv := hv.2 b6
        refine r_iconst hx hb dX11_mends_30 ?_
        refine lv_istore (lv' := [(4, .int (iI 0)), (0, .ref (ad 155)), (1, .int (iI p1)), (2, .int (iI v2)), (3, .int (iI v3))]) hx hb dX11_mends_31 hl (by decide) rfl (fun ls hl => ?_)
        obtain ⟨n25, hv⟩ := hv
        refine L33 _ ?_ _ ?_ n25 v2 v3 0 M _ _ _ hM hv hw (lv_sub hl [1, 2, 3, 4, 0] rfl)
        · intro v3 v4 M H locs ls hM hv hw hl
          exact hX98 v3 v4 M _ _ _ hM hv hw (lv_sub hl [0, 1, 2] rfl)
        · intro v2 v3 M H locs ls hM hv hw hl
          refine r_iinc (v := (v3 + 1)) (lv' := [(3, .int (iI (v3 + 1))), (0, .ref (ad 155)), (1, .int (iI p1)), (2, .int (iI v2))]) hx hb dX11_mends_116 hl (k := 3) rfl rfl (by decide) rfl (fun ls hl => ?_)
          refine lv_goto (tgt := 19) hx hb dX11_mends_119 (by decide) ?_
          exact ih v2 (v3 + 1) M _ _ _ hM hv hw (lv_sub hl [1, 2, 3, 0] rfl)
  refine lv_iload_n hx hb dX11_mends_0 rfl (lv_at hl 1 rfl) ?_
  refine r_if_lt (tgt := 10) hx hb dX11_mends_1 (by decide) hp1  (fun b1 => ?_) (fun b1 => ?_)
  · have hv := hv.1 b1
    refine r_iconst hx hb dX11_mends_10 ?_
    exact k_iret (wq_X τ ad) hx hb hr hlk hw hM (by decide) hv dX11_mends_11
  · have hv := hv.2 b1
    refine lv_iload_n hx hb dX11_mends_4 rfl (lv_at hl 1 rfl) ?_
    refine r_bipush hx hb dX11_mends_5 (by decide +kernel) ?_
    refine r_icmp_le (tgt := 12) hx hb dX11_mends_7 (by decide) hp1 (by decide) (fun b2 => ?_) (fun b2 => ?_)
    · have hv := hv.1 b2
      refine lv_aload_n hx hb dX11_mends_12 rfl (lv_at hl 0 rfl) ?_
      refine k_cVi (wq_X τ ad) hx hb hml hC hLS hA hw hl.1 (mX11_ableToTurn l D τ ad sA sV _   M hM _ hv) kX11_ableToTurn ml_X11_426 rfl (gX_155 τ ad M) rfl rfl (Nat.le_of_ble_eq_true rfl) (rm_ok (by decide) (by decide)) ⟨Nat.zero_le _, Nat.zero_le _⟩ dX11_mends_13 (fun x3 M3 H locs g3 hM hv hw => ?_)
      have hv := hv g3
      refine lv_istore_n (lv' := [(2, .int (iI x3)), (0, .ref (ad 155)), (1, .int (iI p1))]) hx hb dX11_mends_16 rfl hl (by decide) rfl (fun ls hl => ?_)
      refine r_iconst hx hb dX11_mends_17 ?_
      refine lv_istore_n (lv' := [(3, .int (iI 0)), (2, .int (iI x3)), (0, .ref (ad 155)), (1, .int (iI p1))]) hx hb dX11_mends_18 rfl hl (by decide) rfl (fun ls hl => ?_)
      obtain ⟨n26, hv⟩ := hv
      refine L19 _ ?_ n26 x3 0 M3 _ _ _ hM hv hw (lv_sub hl [2, 3, 1, 0] rfl)
      · intro v3 v4 M H locs ls hM hv hw hl
        refine lv_aload_n hx hb dX11_mends_98 rfl (lv_at hl 0 rfl) ?_
        refine gf_X11_66 hx hb hC hw 155 (gX_155 τ ad M) rfl dX11_mends_99 ?_
        refine lv_iload hx hb dX11_mends_102 (lv_at hl 2 rfl) ?_
        obtain ⟨c27, hv⟩ := hv
        refine r_i2l hx hb dX11_mends_104 c27 ?_
        refine k_cVv (wq_X τ ad) hx hb hml hC hLS hA hw hl.1 (mX4_tellOne l D τ ad sA sV _ v4 (iR_lR c27) M hM _ hv) kX4_tellOne ml_X11_366 rfl (gX_167 τ ad M) rfl rfl (Nat.le_of_ble_eq_true rfl) (rm_ok (by decide) (by decide)) ⟨Nat.zero_le _, Nat.zero_le _⟩ dX11_mends_105 (fun M28 H locs hM hv hw => ?_)
        refine lv_iload_n hx hb dX11_mends_108 rfl (lv_at hl 1 rfl) ?_
        obtain ⟨c29, hv⟩ := hv
        exact k_iret (wq_X τ ad) hx hb hr hlk hw hM c29 hv dX11_mends_109
    · have hv := hv.2 b2
      refine r_iconst hx hb dX11_mends_10 ?_
      exact k_iret (wq_X τ ad) hx hb hr hlk hw hM (by decide) hv dX11_mends_11
set_option maxHeartbeats 4000000 in
set_option maxRecDepth 100000 in
theorem mX6_takeAway (l : Launch) (D : va_G) (τ : Nat → ClassId) (ad : Nat → Nat) (sA sV : Nat → Nat) (sz : Nat) (k0 : Nat) (p1 : Int) (hk0 : isS k0) (hp1 : iR p1) (M : Mem) (hM : MR M) (Q : Mem → Prop) (hv : qX6_takeAway k0 p1 M Q) : Met l yX6_takeAway (lw_w yX6_takeAway cX6_takeAway 3 none) (rmk 2 0 0) (kPc D τ sA sV (WX τ ad M) sz [.ref (ad k0), .int (iI p1)]) (gQv D (EQv (WX τ ad) MR Q) (va_A (WX τ ad M) sz)) 0 0 (va_A (WX τ ad M) sz) := by
  refine k_met (ret := none) (Qc := gQv D (EQv (WX τ ad) MR Q)) (by decide +kernel) (Nat.le_of_ble_eq_true rfl) ?_
  intro p e s m args below meth c A ls hx hb hml hr hlk hnm hC hLS hA hw hl
  have hC : cx D τ s m args RX6 := hC
  have hl : lv_has ls 3 [(0, .ref (ad k0)), (1, .int (iI p1))] := hl
  unfold qX6_takeAway at hv
  have L7 : ∀ (n : Nat) (v2 : Int) (M : Mem) (H : Heap) (locs : List Loc) (ls : Array Slot), MR M → qX6_takeAway_L7 k0 p1  Q n v2 M → wS D A s.heap (WX τ ad M) H locs → lv_has ls 3 [(0, .ref (ad k0)), (1, .int (iI p1)), (2, .int (iI v2))] → W p l e (rmk 2 0 0) s m args below meth c H locs 0 0 (MQ below (gQv D (EQv (WX τ ad) MR Q) A) args s 0 0 A) (F0 m 7 ls []) := by
    intro n
    induction n with
    | zero => intro v2 M H locs ls hM hv; rw [qX6_takeAway_L7] at hv; exact hv.elim
    | succ n ih =>
      intro v2 M H locs ls hM hv hw hl
      rw [qX6_takeAway_L7] at hv
      refine lv_iload_n hx hb dX6_takeAway_7 rfl (lv_at hl 2 rfl) ?_
      refine lv_aload_n hx hb dX6_takeAway_8 rfl (lv_at hl 0 rfl) ?_
      refine gf_X6_34 hx hb hC hw k0 (gS_X hk0 τ ad M) rfl dX6_takeAway_9 ?_
      refine r_top (fun x2 e2 => ?_)
      have g2 : iR x2 := by rw [e2]; exact hM.get hk0.pos _
      have hv := hv x2 e2 g2
      obtain ⟨c3, hv⟩ := hv
      refine r_icmp_ge (tgt := 38) hx hb dX6_takeAway_12 (by decide) c3 g2 (fun b4 => ?_) (fun b4 => ?_)
      · have hv := hv.1 b4
        exact k_vret (wq_X τ ad) hx hb hr hlk hw hM hv dX6_takeAway_38
      · have hv := hv.2 b4
        refine lv_aload_n hx hb dX6_takeAway_15 rfl (lv_at hl 0 rfl) ?_
        refine gf_X6_24 hx hb hC hw k0 (gS_X hk0 τ ad M) rfl dX6_takeAway_16 ?_
        refine lv_iload_n hx hb dX6_takeAway_19 rfl (lv_at hl 2 rfl) ?_
        obtain ⟨c5, hv⟩ := hv
        obtain ⟨c6, hv⟩ := hv
        refine r_iald hx hb hC hw (k0 + 5) (gI_X (isS_f4 hk0) τ ad M) c5 c6 (by decide) dX6_takeAway_20 ?_
        refine r_top (fun x7 e7 => ?_)
        have g7 : iR x7 := by rw [e7]; exact hM.get (isS_f4 hk0).pos _
        have hv := hv x7 e7 g7
        refine lv_iload_n hx hb dX6_takeAway_21 rfl (lv_at hl 1 rfl) ?_
        refine r_icmp_ne (tgt := 32) hx hb dX6_takeAway_22 (by decide) g7 hp1 (fun b8 => ?_) (fun b8 => ?_)
        · have hv := hv.1 b8
          refine r_iinc (v := (v2 + 1)) (lv' := [(2, .int (iI (v2 + 1))), (0, .ref (ad k0)), (1, .int (iI p1))]) hx hb dX6_takeAway_32 hl (k := 2) rfl rfl (by decide) rfl (fun ls hl => ?_)
          refine lv_goto (tgt := 7) hx hb dX6_takeAway_35 (by decide) ?_
          exact ih (v2 + 1) M _ _ _ hM hv hw (lv_sub hl [1, 2, 0] rfl)
        · have hv := hv.2 b8
          refine lv_aload_n hx hb dX6_takeAway_25 rfl (lv_at hl 0 rfl) ?_
          refine gf_X6_24 hx hb hC hw k0 (gS_X hk0 τ ad M) rfl dX6_takeAway_26 ?_
          refine lv_iload_n hx hb dX6_takeAway_29 rfl (lv_at hl 2 rfl) ?_
          refine r_iconst hx hb dX6_takeAway_30 ?_
          obtain ⟨M9, e9⟩ : ∃ M9 : Mem, M9 = up2 M (k0 + 5) v2 (-1) := ⟨_, rfl⟩
          have hv := hv M9 e9
          refine r_iast (ws' := (WX τ ad M9)) hx hb hC hw (k0 + 5) (gI_X (isS_f4 hk0) τ ad M) c5 c6 (by decide) (by rw [e9]; exact sI_X (isS_f4 hk0) τ ad M _ _) dX6_takeAway_31 (fun H locs hw => ?_)
          have hM : MR M9 := by rw [e9]; exact hM.put (isS_f4 hk0).pos (by decide)
          refine r_iinc (v := (v2 + 1)) (lv' := [(2, .int (iI (v2 + 1))), (0, .ref (ad k0)), (1, .int (iI p1))]) hx hb dX6_takeAway_32 hl (k := 2) rfl rfl (by decide) rfl (fun ls hl => ?_)
          refine lv_goto (tgt := 7) hx hb dX6_takeAway_35 (by decide) ?_
          exact ih (v2 + 1) M9 _ _ _ hM hv hw (lv_sub hl [1, 2, 0] rfl)
  refine lv_aload_n hx hb dX6_takeAway_0 rfl (lv_at hl 0 rfl) ?_
  refine lv_iload_n hx hb dX6_takeAway_1 rfl (lv_at hl 1 rfl) ?_
  refine k_cVv (wq_X τ ad) hx hb hml hC hLS hA hw hl.1 (mX6_arrive l D τ ad sA sV _ k0 p1 hk0 hp1 M hM _ hv) kX6_arrive ml_X6_52 rfl (gS_X hk0 τ ad M) rfl rfl (Nat.le_of_ble_eq_true rfl) (rm_ok (by decide) (by decide)) ⟨Nat.zero_le _, Nat.zero_le _⟩ dX6_takeAway_2 (fun M1 H locs hM hv hw => ?_)
  refine r_iconst hx hb dX6_takeAway_5 ?_
  refine lv_istore_n (lv' := [(2, .int (iI 0)), (0, .ref (ad k0)), (1, .int (iI p1))]) hx hb dX6_takeAway_6 rfl hl (by decide) rfl (fun ls hl => ?_)
  obtain ⟨n10, hv⟩ := hv
  refine L7  n10 0 M1 _ _ _ hM hv hw (lv_sub hl [1, 2, 0] rfl)
set_option maxHeartbeats 4000000 in
set_option maxRecDepth 100000 in
theorem mX11_misleads (l : Launch) (D : va_G) (τ : Nat → ClassId) (ad : Nat → Nat) (sA sV : Nat → Nat) (sz : Nat)   (M : Mem) (hM : MR M) (Q : Int → Mem → Prop) (hv : qX11_misleads  M Q) : Met l yX11_misleads (lw_w yX11_misleads cX11_misleads 6 (some .int)) (rmk 7 0 0) (kPc D τ sA sV (WX τ ad M) sz [.ref (ad 155)]) (gQi D (EQi (WX τ ad) MR Q) (va_A (WX τ ad M) sz)) 0 0 (va_A (WX τ ad M) sz) := by
  refine k_met (ret := (some .int)) (Qc := gQi D (EQi (WX τ ad) MR Q)) (by decide +kernel) (Nat.le_of_ble_eq_true rfl) ?_
  intro p e s m args below meth c A ls hx hb hml hr hlk hnm hC hLS hA hw hl
  have hC : cx D τ s m args RX11 := hC
  have hl : lv_has ls 6 [(0, .ref (ad 155))] := hl
  unfold qX11_misleads at hv
  have J115 : ∀ (R : Int → Int → Int → Int → Mem → Prop), (∀ (v1 : Int) (v2 : Int) (v3 : Int) (v4 : Int) (M : Mem) (H : Heap) (locs : List Loc) (ls : Array Slot), MR M → R v1 v2 v3 v4 M → wS D A s.heap (WX τ ad M) H locs → lv_has ls 6 [(0, .ref (ad 155)), (1, .int (iI v1)), (2, .int (iI v2)), (3, .int (iI v3)), (4, .int (iI v4))] → W p l e (rmk 7 0 0) s m args below meth c H locs 0 0 (MQ below (gQi D (EQi (WX τ ad) MR Q) A) args s 0 0 A) (F0 m 27 ls [])) → ∀ (X129 : Int → Int → Int → Mem → Prop), (∀ (v1 : Int) (v2 : Int) (v3 : Int) (M : Mem) (H : Heap) (locs : List Loc) (ls : Array Slot), MR M → X129 v1 v2 v3 M → wS D A s.heap (WX τ ad M) H locs → lv_has ls 6 [(0, .ref (ad 155)), (1, .int (iI v1)), (2, .int (iI v2)), (3, .int (iI v3))] → W p l e (rmk 7 0 0) s m args below meth c H locs 0 0 (MQ below (gQi D (EQi (WX τ ad) MR Q) A) args s 0 0 A) (F0 m 129 ls [])) → ∀ (v1 : Int) (v3 : Int) (v4 : Int) (v5 : Int) (t0 : Int) (M : Mem) (H : Heap) (locs : List Loc) (ls : Array Slot), MR M → qX11_misleads_J115  R X129 Q v1 v3 v4 v5 t0 M → wS D A s.heap (WX τ ad M) H locs → lv_has ls 6 [(0, .ref (ad 155)), (1, .int (iI v1)), (3, .int (iI v3)), (4, .int (iI v4)), (5, .int (iI v5))] → W p l e (rmk 7 0 0) s m args below meth c H locs 0 0 (MQ below (gQi D (EQi (WX τ ad) MR Q) A) args s 0 0 A) (F0 m 115 ls [.int (iI t0)]) := by
    intro R hR X129 hX129 v1 v3 v4 v5 t0 M H locs ls hM hv hw hl
    unfold qX11_misleads_J115 at hv
    refine lv_istore_n (lv' := [(2, .int (iI t0)), (0, .ref (ad 155)), (1, .int (iI v1)), (3, .int (iI v3)), (4, .int (iI v4)), (5, .int (iI v5))]) hx hb dX11_misleads_115 rfl hl (by decide) rfl (fun ls hl => ?_)
    refine lv_iload_n hx hb dX11_misleads_116 rfl (lv_at hl 3 rfl) ?_
    refine lv_iload hx hb dX11_misleads_117 (lv_at hl 5 rfl) ?_
    obtain ⟨c19, hv⟩ := hv
    obtain ⟨c20, hv⟩ := hv
    refine r_mmaxF hx hb hml hC hl.1 ml_X11_435 sm_max in_J9 cd_max (by decide) (Nat.le_of_ble_eq_true rfl) (Nat.zero_le _) (Nat.zero_le _) c19 c20 dX11_misleads_119 (fun x21 e21 g21 => ?_)
    have hv := hv x21 e21 g21
    refine lv_istore_n (lv' := [(3, .int (iI x21)), (2, .int (iI t0)), (0, .ref (ad 155)), (1, .int (iI v1)), (4, .int (iI v4)), (5, .int (iI v5))]) hx hb dX11_misleads_122 rfl hl (by decide) rfl (fun ls hl => ?_)
    refine r_iinc (v := (v4 + 1)) (lv' := [(4, .int (iI (v4 + 1))), (3, .int (iI x21)), (2, .int (iI t0)), (0, .ref (ad 155)), (1, .int (iI v1)), (5, .int (iI v5))]) hx hb dX11_misleads_123 hl (k := 4) rfl rfl (by decide) rfl (fun ls hl => ?_)
    refine lv_goto (tgt := 27) hx hb dX11_misleads_126 (by decide) ?_
    exact hR v1 t0 x21 (v4 + 1) M _ _ _ hM hv hw (lv_sub hl [3, 4, 2, 1, 0] rfl)
  have L27 : ∀ (X129 : Int → Int → Int → Mem → Prop), (∀ (v1 : Int) (v2 : Int) (v3 : Int) (M : Mem) (H : Heap) (locs : List Loc) (ls : Array Slot), MR M → X129 v1 v2 v3 M → wS D A s.heap (WX τ ad M) H locs → lv_has ls 6 [(0, .ref (ad 155)), (1, .int (iI v1)), (2, .int (iI v2)), (3, .int (iI v3))] → W p l e (rmk 7 0 0) s m args below meth c H locs 0 0 (MQ below (gQi D (EQi (WX τ ad) MR Q) A) args s 0 0 A) (F0 m 129 ls [])) → ∀ (n : Nat) (v1 : Int) (v2 : Int) (v3 : Int) (v4 : Int) (M : Mem) (H : Heap) (locs : List Loc) (ls : Array Slot), MR M → qX11_misleads_L27  X129 Q n v1 v2 v3 v4 M → wS D A s.heap (WX τ ad M) H locs → lv_has ls 6 [(0, .ref (ad 155)), (1, .int (iI v1)), (2, .int (iI v2)), (3, .int (iI v3)), (4, .int (iI v4))] → W p l e (rmk 7 0 0) s m args below meth c H locs 0 0 (MQ below (gQi D (EQi (WX τ ad) MR Q) A) args s 0 0 A) (F0 m 27 ls []) := by
    intro X129 hX129 n
    induction n with
    | zero => intro v1 v2 v3 v4 M H locs ls hM hv; rw [qX11_misleads_L27] at hv; exact hv.elim
    | succ n ih =>
      intro v1 v2 v3 v4 M H locs ls hM hv hw hl
      rw [qX11_misleads_L27] at hv
      refine lv_iload hx hb dX11_misleads_27 (lv_at hl 4 rfl) ?_
      refine lv_aload_n hx hb dX11_misleads_29 rfl (lv_at hl 0 rfl) ?_
      refine gf_X11_26 hx hb hC hw 155 (gX_155 τ ad M) rfl dX11_misleads_30 ?_
      refine gf_X11_176 hx hb hC hw 1 (gS_X (by decide) τ ad M) rfl dX11_misleads_33 ?_
      refine r_top (fun x4 e4 => ?_)
      have g4 : iR x4 := by rw [e4]; exact hM.get (by decide) _
      have hv := hv x4 e4 g4
      obtain ⟨c5, hv⟩ := hv
      refine r_icmp_ge (tgt := 129) hx hb dX11_misleads_36 (by decide) c5 g4 (fun b6 => ?_) (fun b6 => ?_)
      · have hv := hv.1 b6
        exact hX129 v1 v2 v3 M _ _ _ hM hv hw (lv_sub hl [0, 1, 2, 3] rfl)
      · have hv := hv.2 b6
        refine lv_aload_n hx hb dX11_misleads_39 rfl (lv_at hl 0 rfl) ?_
        refine gf_X11_26 hx hb hC hw 155 (gX_155 τ ad M) rfl dX11_misleads_40 ?_
        refine lv_iload hx hb dX11_misleads_43 (lv_at hl 4 rfl) ?_
        refine k_cVz (wq_X τ ad) hx hb hml hC hLS hA hw hl.1 (mX6_hasArrived l D τ ad sA sV _ 1 v4 (by decide) c5 M hM _ hv) kX6_hasArrived ml_X11_255 rfl (gS_X (by decide) τ ad M) rfl rfl (Nat.le_of_ble_eq_true rfl) (rm_ok (by decide) (by decide)) ⟨Nat.zero_le _, Nat.zero_le _⟩ dX11_misleads_45 (fun x7 M7 H locs g7 z7 hM hv hw => ?_)
        have hv := hv g7 z7
        refine r_if_ne (tgt := 123) hx hb dX11_misleads_48 (by decide) g7  (fun b8 => ?_) (fun b8 => ?_)
        · have hv := hv.1 b8
          refine r_iinc (v := (v4 + 1)) (lv' := [(4, .int (iI (v4 + 1))), (0, .ref (ad 155)), (1, .int (iI v1)), (2, .int (iI v2)), (3, .int (iI v3))]) hx hb dX11_misleads_123 hl (k := 4) rfl rfl (by decide) rfl (fun ls hl => ?_)
          refine lv_goto (tgt := 27) hx hb dX11_misleads_126 (by decide) ?_
          exact ih v1 v2 v3 (v4 + 1) M7 _ _ _ hM hv hw (lv_sub hl [1, 2, 3, 4, 0] rfl)
        · have hv := hv.2 b8
          refine lv_aload_n hx hb dX11_misleads_51 rfl (lv_at hl 0 rfl) ?_
          refine gf_X11_30 hx hb hC hw 155 (gX_155 τ ad M7) rfl dX11_misleads_52 ?_
          refine lv_aload_n hx hb dX11_misleads_55 rfl (lv_at hl 0 rfl) ?_
          refine gf_X11_26 hx hb hC hw 155 (gX_155 τ ad M7) rfl dX11_misleads_56 ?_
          refine k_cVv (wq_X τ ad) hx hb hml hC hLS hA hw hl.1 (mX6_copyFrom l D τ ad sA sV _ 8 1 (by decide) (by decide) M7 hM _ hv) kX6_copyFrom ml_X11_153 rfl (gS_X (by decide) τ ad M7) rfl rfl (Nat.le_of_ble_eq_true rfl) (rm_ok (by decide) (by decide)) ⟨Nat.zero_le _, Nat.zero_le _⟩ dX11_misleads_59 (fun M9 H locs hM hv hw => ?_)
          refine lv_aload_n hx hb dX11_misleads_62 rfl (lv_at hl 0 rfl) ?_
          refine gf_X11_30 hx hb hC hw 155 (gX_155 τ ad M9) rfl dX11_misleads_63 ?_
          refine lv_iload hx hb dX11_misleads_66 (lv_at hl 4 rfl) ?_
          refine k_cVv (wq_X τ ad) hx hb hml hC hLS hA hw hl.1 (mX6_takeAway l D τ ad sA sV _ 8 v4 (by decide) c5 M9 hM _ hv) kX6_takeAway ml_X11_432 rfl (gS_X (by decide) τ ad M9) rfl rfl (Nat.le_of_ble_eq_true rfl) (rm_ok (by decide) (by decide)) ⟨Nat.zero_le _, Nat.zero_le _⟩ dX11_misleads_68 (fun M10 H locs hM hv hw => ?_)
          refine lv_aload_n hx hb dX11_misleads_71 rfl (lv_at hl 0 rfl) ?_
          refine lv_aload_n hx hb dX11_misleads_72 rfl (lv_at hl 0 rfl) ?_
          refine gf_X11_105 hx hb hC hw 155 (gX_155 τ ad M10) rfl dX11_misleads_73 ?_
          obtain ⟨c11, hv⟩ := hv
          refine k_cVi (wq_X τ ad) hx hb hml hC hLS hA hw hl.1 (mX11_rightOnesOfTrial l D τ ad sA sV _ (M10 155 16).toNat c11 M10 hM _ hv) kX11_rightOnesOfTrial ml_X11_382 rfl (gX_155 τ ad M10) rfl rfl (Nat.le_of_ble_eq_true rfl) (rm_ok (by decide) (by decide)) ⟨Nat.zero_le _, Nat.zero_le _⟩ dX11_misleads_76 (fun x12 M12 H locs g12 hM hv hw => ?_)
          have hv := hv g12
          refine lv_aload_n hx hb dX11_misleads_79 rfl (lv_at hl 0 rfl) ?_
          refine gf_X11_26 hx hb hC hw 155 (gX_155 τ ad M12) rfl dX11_misleads_80 ?_
          refine lv_aload_n hx hb dX11_misleads_83 rfl (lv_at hl 0 rfl) ?_
          refine gf_X11_26 hx hb hC hw 155 (gX_155 τ ad M12) rfl dX11_misleads_84 ?_
          refine gf_X11_250 hx hb hC hw 1 (gS_X (by decide) τ ad M12) rfl dX11_misleads_87 ?_
          refine lv_iload hx hb dX11_misleads_90 (lv_at hl 4 rfl) ?_
          refine k_cVi (wq_X τ ad) hx hb hml hC hLS hA hw hl.1 (mX6_bitsOf l D τ ad sA sV _ 1 5 v4 (by decide) (isS_f3 (by decide)) c5 M12 hM _ hv) kX6_bitsOf ml_X11_243 rfl (gS_X (by decide) τ ad M12) rfl rfl (Nat.le_of_ble_eq_true rfl) (rm_ok (by decide) (by decide)) ⟨Nat.zero_le _, Nat.zero_le _⟩ dX11_misleads_92 (fun x13 M13 H locs g13 hM hv hw => ?_)
          have hv := hv g13
          refine r_iconst hx hb dX11_misleads_95 ?_
          refine r_ixorF hx hb dX11_misleads_96 (fun x14 e14 g14 => ?_)
          have hv := hv x14 e14 g14
          refine r_iandF hx hb dX11_misleads_97 (fun x15 e15 g15 => ?_)
          have hv := hv x15 e15 g15
          refine k_cSi (wq_X τ ad) hx hb hml hC hLS hA hw hl.1 (mJ6_bitCount_0f7a4X l D τ ad sA sV _ x15 g15 M13 hM _ hv) kJ6_bitCount_0f7a4 ml_X11_389 rfl rfl (Nat.le_of_ble_eq_true rfl) (rm_ok (by decide) (by decide)) ⟨Nat.zero_le _, Nat.zero_le _⟩ dX11_misleads_98 (fun x16 M16 H locs g16 hM hv hw => ?_)
          have hv := hv g16
          refine lv_istore (lv' := [(5, .int (iI x16)), (0, .ref (ad 155)), (1, .int (iI v1)), (2, .int (iI v2)), (3, .int (iI v3)), (4, .int (iI v4))]) hx hb dX11_misleads_101 hl (by decide) rfl (fun ls hl => ?_)
          refine lv_iload hx hb dX11_misleads_103 (lv_at hl 0 rfl) ?_
          refine lv_iload_n hx hb dX11_misleads_105 rfl (lv_at hl 4 rfl) ?_
          obtain ⟨c17, hv⟩ := hv
          refine r_icmp_le (tgt := 114) hx hb dX11_misleads_106 (by decide) g16 c17 (fun b18 => ?_) (fun b18 => ?_)
          · have hv := hv.1 b18
            refine lv_iload_n hx hb dX11_misleads_114 rfl (lv_at hl 3 rfl) ?_
            exact J115 _ ih _ hX129 v1 v3 v4 x16 v2 M16 _ _ _ hM hv hw (lv_sub hl [1, 2, 4, 5, 0] rfl)
          · have hv := hv.2 b18
            refine lv_iload hx hb dX11_misleads_109 (lv_at hl 5 rfl) ?_
            refine lv_goto (tgt := 115) hx hb dX11_misleads_111 (by decide) ?_
            exact J115 _ ih _ hX129 v1 v3 v4 x16 v4 M16 _ _ _ hM hv hw (lv_sub hl [1, 2, 4, 5, 0] rfl)
  refine lv_aload_n hx hb dX11_misleads_0 rfl (lv_at hl 0 rfl) ?_
  refine gf_X11_30 hx hb hC hw 155 (gX_155 τ ad M) rfl dX11_misleads_1 ?_
  refine lv_aload_n hx hb dX11_misleads_4 rfl (lv_at hl 0 rfl) ?_
  refine gf_X11_26 hx hb hC hw 155 (gX_155 τ ad M) rfl dX11_misleads_5 ?_
  refine k_cVv (wq_X τ ad) hx hb hml hC hLS hA hw hl.1 (mX6_copyFrom l D τ ad sA sV _ 8 1 (by decide) (by decide) M hM _ hv) kX6_copyFrom ml_X11_153 rfl (gS_X (by decide) τ ad M) rfl rfl (Nat.le_of_ble_eq_true rfl) (rm_ok (by decide) (by decide)) ⟨Nat.zero_le _, Nat.zero_le _⟩ dX11_misleads_8 (fun M1 H locs hM hv hw => ?_)
  refine lv_aload_n hx hb dX11_misleads_11 rfl (lv_at hl 0 rfl) ?_
  refine lv_aload_n hx hb dX11_misleads_12 rfl (lv_at hl 0 rfl) ?_
  refine gf_X11_105 hx hb hC hw 155 (gX_155 τ ad M1) rfl dX11_misleads_13 ?_
  obtain ⟨c2, hv⟩ := hv
  refine k_cVi (wq_X τ ad) hx hb hml hC hLS hA hw hl.1 (mX11_rightOnesOfTrial l D τ ad sA sV _ (M1 155 16).toNat c2 M1 hM _ hv) kX11_rightOnesOfTrial ml_X11_382 rfl (gX_155 τ ad M1) rfl rfl (Nat.le_of_ble_eq_true rfl) (rm_ok (by decide) (by decide)) ⟨Nat.zero_le _, Nat.zero_le _⟩ dX11_misleads_16 (fun x3 M3 H locs g3 hM hv hw => ?_)
  have hv := hv g3
  refine lv_istore_n (lv' := [(1, .int (iI x3)), (0, .ref (ad 155))]) hx hb dX11_misleads_19 rfl hl (by decide) rfl (fun ls hl => ?_)
  refine r_iconst hx hb dX11_misleads_20 ?_
  refine lv_istore_n (lv' := [(2, .int (iI (-1))), (1, .int (iI x3)), (0, .ref (ad 155))]) hx hb dX11_misleads_21 rfl hl (by decide) rfl (fun ls hl => ?_)
  refine r_iconst hx hb dX11_misleads_22 ?_
  refine lv_istore_n (lv' := [(3, .int (iI (-1))), (2, .int (iI (-1))), (1, .int (iI x3)), (0, .ref (ad 155))]) hx hb dX11_misleads_23 rfl hl (by decide) rfl (fun ls hl => ?_)
  refine r_iconst hx hb dX11_misleads_24 ?_
  refine lv_istore (lv' := [(4, .int (iI 0)), (3, .int (iI (-1))), (2, .int (iI (-1))), (1, .int (iI x3)), (0, .ref (ad 155))]) hx hb dX11_misleads_25 hl (by decide) rfl (fun ls hl => ?_)
  obtain ⟨n22, hv⟩ := hv
  refine L27 _ ?_ n22 x3 (-1) (-1) 0 M3 _ _ _ hM hv hw (lv_sub hl [4, 3, 2, 1, 0] rfl)
  · intro v1 v2 v3 M H locs ls hM hv hw hl
    refine lv_iload_n hx hb dX11_misleads_129 rfl (lv_at hl 2 rfl) ?_
    refine r_iconst hx hb dX11_misleads_130 ?_
    obtain ⟨c23, hv⟩ := hv
    refine r_icmp_ne (tgt := 137) hx hb dX11_misleads_131 (by decide) c23 (by decide) (fun b24 => ?_) (fun b24 => ?_)
    · have hv := hv.1 b24
      refine lv_aload_n hx hb dX11_misleads_137 rfl (lv_at hl 0 rfl) ?_
      refine gf_X11_66 hx hb hC hw 155 (gX_155 τ ad M) rfl dX11_misleads_138 ?_
      refine lv_iload_n hx hb dX11_misleads_141 rfl (lv_at hl 3 rfl) ?_
      obtain ⟨c25, hv⟩ := hv
      refine r_i2l hx hb dX11_misleads_142 c25 ?_
      refine lv_iload_n hx hb dX11_misleads_143 rfl (lv_at hl 1 rfl) ?_
      refine lv_aload_n hx hb dX11_misleads_144 rfl (lv_at hl 0 rfl) ?_
      refine gf_X11_26 hx hb hC hw 155 (gX_155 τ ad M) rfl dX11_misleads_145 ?_
      refine lv_aload_n hx hb dX11_misleads_148 rfl (lv_at hl 0 rfl) ?_
      refine gf_X11_26 hx hb hC hw 155 (gX_155 τ ad M) rfl dX11_misleads_149 ?_
      refine gf_X11_250 hx hb hC hw 1 (gS_X (by decide) τ ad M) rfl dX11_misleads_152 ?_
      refine lv_iload_n hx hb dX11_misleads_155 rfl (lv_at hl 2 rfl) ?_
      refine k_cVi (wq_X τ ad) hx hb hml hC hLS hA hw hl.1 (mX6_bitsOf l D τ ad sA sV _ 1 5 v2 (by decide) (isS_f3 (by decide)) c23 M hM _ hv) kX6_bitsOf ml_X11_243 rfl (gS_X (by decide) τ ad M) rfl rfl (Nat.le_of_ble_eq_true rfl) (rm_ok (by decide) (by decide)) ⟨Nat.zero_le _, Nat.zero_le _⟩ dX11_misleads_156 (fun x26 M26 H locs g26 hM hv hw => ?_)
      have hv := hv g26
      refine r_iconst hx hb dX11_misleads_159 ?_
      refine r_ixorF hx hb dX11_misleads_160 (fun x27 e27 g27 => ?_)
      have hv := hv x27 e27 g27
      refine r_iandF hx hb dX11_misleads_161 (fun x28 e28 g28 => ?_)
      have hv := hv x28 e28 g28
      refine k_cSi (wq_X τ ad) hx hb hml hC hLS hA hw hl.1 (mJ6_bitCount_0f7a4X l D τ ad sA sV _ x28 g28 M26 hM _ hv) kJ6_bitCount_0f7a4 ml_X11_389 rfl rfl (Nat.le_of_ble_eq_true rfl) (rm_ok (by decide) (by decide)) ⟨Nat.zero_le _, Nat.zero_le _⟩ dX11_misleads_162 (fun x29 M29 H locs g29 hM hv hw => ?_)
      have hv := hv g29
      refine r_i2l hx hb dX11_misleads_165 g29 ?_
      refine k_cVv (wq_X τ ad) hx hb hml hC hLS hA hw hl.1 (mX4_tellTwo l D τ ad sA sV _ v3 x29 (iR_lR c25) (iR_lR g29) M29 hM _ hv) kX4_tellTwo ml_X11_298 rfl (gX_167 τ ad M29) rfl rfl (Nat.le_of_ble_eq_true rfl) (rm_ok (by decide) (by decide)) ⟨Nat.zero_le _, Nat.zero_le _⟩ dX11_misleads_166 (fun M30 H locs hM hv hw => ?_)
      refine lv_iload_n hx hb dX11_misleads_169 rfl (lv_at hl 2 rfl) ?_
      exact k_iret (wq_X τ ad) hx hb hr hlk hw hM c23 hv dX11_misleads_170
    · have hv := hv.2 b24
      refine r_bipush hx hb dX11_misleads_134 (by decide +kernel) ?_
      exact k_iret (wq_X τ ad) hx hb hr hlk hw hM (by decide) hv dX11_misleads_136
set_option maxHeartbeats 4000000 in
set_option maxRecDepth 100000 in
theorem mX11_crowd (l : Launch) (D : va_G) (τ : Nat → ClassId) (ad : Nat → Nat) (sA sV : Nat → Nat) (sz : Nat)   (M : Mem) (hM : MR M) (Q : Int → Mem → Prop) (hv : qX11_crowd  M Q) : Met l yX11_crowd (lw_w yX11_crowd cX11_crowd 5 (some .int)) (rmk 6 0 0) (kPc D τ sA sV (WX τ ad M) sz [.ref (ad 155)]) (gQi D (EQi (WX τ ad) MR Q) (va_A (WX τ ad M) sz)) 0 0 (va_A (WX τ ad M) sz) := by
  refine k_met (ret := (some .int)) (Qc := gQi D (EQi (WX τ ad) MR Q)) (by decide +kernel) (Nat.le_of_ble_eq_true rfl) ?_
  intro p e s m args below meth c A ls hx hb hml hr hlk hnm hC hLS hA hw hl
  have hC : cx D τ s m args RX11 := hC
  have hl : lv_has ls 5 [(0, .ref (ad 155))] := hl
  unfold qX11_crowd at hv
  have J87 : ∀ (R : Int → Int → Int → Mem → Prop), (∀ (v1 : Int) (v2 : Int) (v3 : Int) (M : Mem) (H : Heap) (locs : List Loc) (ls : Array Slot), MR M → R v1 v2 v3 M → wS D A s.heap (WX τ ad M) H locs → lv_has ls 5 [(0, .ref (ad 155)), (1, .int (iI v1)), (2, .int (iI v2)), (3, .int (iI v3))] → W p l e (rmk 6 0 0) s m args below meth c H locs 0 0 (MQ below (gQi D (EQi (WX τ ad) MR Q) A) args s 0 0 A) (F0 m 45 ls [])) → ∀ (X101 : Int → Int → Mem → Prop), (∀ (v1 : Int) (v2 : Int) (M : Mem) (H : Heap) (locs : List Loc) (ls : Array Slot), MR M → X101 v1 v2 M → wS D A s.heap (WX τ ad M) H locs → lv_has ls 5 [(0, .ref (ad 155)), (1, .int (iI v1)), (2, .int (iI v2))] → W p l e (rmk 6 0 0) s m args below meth c H locs 0 0 (MQ below (gQi D (EQi (WX τ ad) MR Q) A) args s 0 0 A) (F0 m 101 ls [])) → ∀ (v2 : Int) (v3 : Int) (v4 : Int) (t0 : Int) (M : Mem) (H : Heap) (locs : List Loc) (ls : Array Slot), MR M → qX11_crowd_J87  R X101 Q v2 v3 v4 t0 M → wS D A s.heap (WX τ ad M) H locs → lv_has ls 5 [(0, .ref (ad 155)), (2, .int (iI v2)), (3, .int (iI v3)), (4, .int (iI v4))] → W p l e (rmk 6 0 0) s m args below meth c H locs 0 0 (MQ below (gQi D (EQi (WX τ ad) MR Q) A) args s 0 0 A) (F0 m 87 ls [.int (iI t0)]) := by
    intro R hR X101 hX101 v2 v3 v4 t0 M H locs ls hM hv hw hl
    unfold qX11_crowd_J87 at hv
    refine lv_istore_n (lv' := [(1, .int (iI t0)), (0, .ref (ad 155)), (2, .int (iI v2)), (3, .int (iI v3)), (4, .int (iI v4))]) hx hb dX11_crowd_87 rfl hl (by decide) rfl (fun ls hl => ?_)
    refine lv_iload_n hx hb dX11_crowd_88 rfl (lv_at hl 2 rfl) ?_
    refine lv_iload hx hb dX11_crowd_89 (lv_at hl 4 rfl) ?_
    obtain ⟨c13, hv⟩ := hv
    obtain ⟨c14, hv⟩ := hv
    refine r_mmaxF hx hb hml hC hl.1 ml_X11_435 sm_max in_J9 cd_max (by decide) (Nat.le_of_ble_eq_true rfl) (Nat.zero_le _) (Nat.zero_le _) c13 c14 dX11_crowd_91 (fun x15 e15 g15 => ?_)
    have hv := hv x15 e15 g15
    refine lv_istore_n (lv' := [(2, .int (iI x15)), (1, .int (iI t0)), (0, .ref (ad 155)), (3, .int (iI v3)), (4, .int (iI v4))]) hx hb dX11_crowd_94 rfl hl (by decide) rfl (fun ls hl => ?_)
    refine r_iinc (v := (v3 + 1)) (lv' := [(3, .int (iI (v3 + 1))), (2, .int (iI x15)), (1, .int (iI t0)), (0, .ref (ad 155)), (4, .int (iI v4))]) hx hb dX11_crowd_95 hl (k := 3) rfl rfl (by decide) rfl (fun ls hl => ?_)
    refine lv_goto (tgt := 45) hx hb dX11_crowd_98 (by decide) ?_
    exact hR t0 x15 (v3 + 1) M _ _ _ hM hv hw (lv_sub hl [3, 2, 1, 0] rfl)
  have L45 : ∀ (X101 : Int → Int → Mem → Prop), (∀ (v1 : Int) (v2 : Int) (M : Mem) (H : Heap) (locs : List Loc) (ls : Array Slot), MR M → X101 v1 v2 M → wS D A s.heap (WX τ ad M) H locs → lv_has ls 5 [(0, .ref (ad 155)), (1, .int (iI v1)), (2, .int (iI v2))] → W p l e (rmk 6 0 0) s m args below meth c H locs 0 0 (MQ below (gQi D (EQi (WX τ ad) MR Q) A) args s 0 0 A) (F0 m 101 ls [])) → ∀ (n : Nat) (v1 : Int) (v2 : Int) (v3 : Int) (M : Mem) (H : Heap) (locs : List Loc) (ls : Array Slot), MR M → qX11_crowd_L45  X101 Q n v1 v2 v3 M → wS D A s.heap (WX τ ad M) H locs → lv_has ls 5 [(0, .ref (ad 155)), (1, .int (iI v1)), (2, .int (iI v2)), (3, .int (iI v3))] → W p l e (rmk 6 0 0) s m args below meth c H locs 0 0 (MQ below (gQi D (EQi (WX τ ad) MR Q) A) args s 0 0 A) (F0 m 45 ls []) := by
    intro X101 hX101 n
    induction n with
    | zero => intro v1 v2 v3 M H locs ls hM hv; rw [qX11_crowd_L45] at hv; exact hv.elim
    | succ n ih =>
      intro v1 v2 v3 M H locs ls hM hv hw hl
      rw [qX11_crowd_L45] at hv
      refine lv_iload_n hx hb dX11_crowd_45 rfl (lv_at hl 3 rfl) ?_
      refine lv_aload_n hx hb dX11_crowd_46 rfl (lv_at hl 0 rfl) ?_
      refine gf_X11_30 hx hb hC hw 155 (gX_155 τ ad M) rfl dX11_crowd_47 ?_
      refine gf_X11_176 hx hb hC hw 8 (gS_X (by decide) τ ad M) rfl dX11_crowd_50 ?_
      refine r_top (fun x6 e6 => ?_)
      have g6 : iR x6 := by rw [e6]; exact hM.get (by decide) _
      have hv := hv x6 e6 g6
      obtain ⟨c7, hv⟩ := hv
      refine r_icmp_ge (tgt := 101) hx hb dX11_crowd_53 (by decide) c7 g6 (fun b8 => ?_) (fun b8 => ?_)
      · have hv := hv.1 b8
        exact hX101 v1 v2 M _ _ _ hM hv hw (lv_sub hl [0, 1, 2] rfl)
      · have hv := hv.2 b8
        refine lv_aload_n hx hb dX11_crowd_56 rfl (lv_at hl 0 rfl) ?_
        refine gf_X11_30 hx hb hC hw 155 (gX_155 τ ad M) rfl dX11_crowd_57 ?_
        refine lv_aload_n hx hb dX11_crowd_60 rfl (lv_at hl 0 rfl) ?_
        refine gf_X11_30 hx hb hC hw 155 (gX_155 τ ad M) rfl dX11_crowd_61 ?_
        refine gf_X11_247 hx hb hC hw 8 (gS_X (by decide) τ ad M) rfl dX11_crowd_64 ?_
        refine lv_iload_n hx hb dX11_crowd_67 rfl (lv_at hl 3 rfl) ?_
        refine k_cVi (wq_X τ ad) hx hb hml hC hLS hA hw hl.1 (mX6_bitsOf l D τ ad sA sV _ 8 14 v3 (by decide) (isS_f5 (by decide)) c7 M hM _ hv) kX6_bitsOf ml_X11_243 rfl (gS_X (by decide) τ ad M) rfl rfl (Nat.le_of_ble_eq_true rfl) (rm_ok (by decide) (by decide)) ⟨Nat.zero_le _, Nat.zero_le _⟩ dX11_crowd_68 (fun x9 M9 H locs g9 hM hv hw => ?_)
        have hv := hv g9
        refine k_cSi (wq_X τ ad) hx hb hml hC hLS hA hw hl.1 (mJ6_bitCount_0f7a4X l D τ ad sA sV _ x9 g9 M9 hM _ hv) kJ6_bitCount_0f7a4 ml_X11_389 rfl rfl (Nat.le_of_ble_eq_true rfl) (rm_ok (by decide) (by decide)) ⟨Nat.zero_le _, Nat.zero_le _⟩ dX11_crowd_71 (fun x10 M10 H locs g10 hM hv hw => ?_)
        have hv := hv g10
        refine lv_istore (lv' := [(4, .int (iI x10)), (0, .ref (ad 155)), (1, .int (iI v1)), (2, .int (iI v2)), (3, .int (iI v3))]) hx hb dX11_crowd_74 hl (by decide) rfl (fun ls hl => ?_)
        refine lv_iload hx hb dX11_crowd_76 (lv_at hl 0 rfl) ?_
        refine lv_iload_n hx hb dX11_crowd_78 rfl (lv_at hl 3 rfl) ?_
        obtain ⟨c11, hv⟩ := hv
        refine r_icmp_le (tgt := 86) hx hb dX11_crowd_79 (by decide) g10 c11 (fun b12 => ?_) (fun b12 => ?_)
        · have hv := hv.1 b12
          refine lv_iload_n hx hb dX11_crowd_86 rfl (lv_at hl 2 rfl) ?_
          exact J87 _ ih _ hX101 v2 v3 x10 v1 M10 _ _ _ hM hv hw (lv_sub hl [1, 3, 4, 0] rfl)
        · have hv := hv.2 b12
          refine lv_iload_n hx hb dX11_crowd_82 rfl (lv_at hl 4 rfl) ?_
          refine lv_goto (tgt := 87) hx hb dX11_crowd_83 (by decide) ?_
          exact J87 _ ih _ hX101 v2 v3 x10 v3 M10 _ _ _ hM hv hw (lv_sub hl [1, 3, 4, 0] rfl)
  refine lv_aload_n hx hb dX11_crowd_0 rfl (lv_at hl 0 rfl) ?_
  refine gf_X11_26 hx hb hC hw 155 (gX_155 τ ad M) rfl dX11_crowd_1 ?_
  refine gf_X11_176 hx hb hC hw 1 (gS_X (by decide) τ ad M) rfl dX11_crowd_4 ?_
  refine r_top (fun x1 e1 => ?_)
  have g1 : iR x1 := by rw [e1]; exact hM.get (by decide) _
  have hv := hv x1 e1 g1
  refine r_if_ne (tgt := 13) hx hb dX11_crowd_7 (by decide) g1  (fun b2 => ?_) (fun b2 => ?_)
  · have hv := hv.1 b2
    refine lv_aload_n hx hb dX11_crowd_13 rfl (lv_at hl 0 rfl) ?_
    refine gf_X11_30 hx hb hC hw 155 (gX_155 τ ad M) rfl dX11_crowd_14 ?_
    refine lv_aload_n hx hb dX11_crowd_17 rfl (lv_at hl 0 rfl) ?_
    refine gf_X11_26 hx hb hC hw 155 (gX_155 τ ad M) rfl dX11_crowd_18 ?_
    refine k_cVv (wq_X τ ad) hx hb hml hC hLS hA hw hl.1 (mX6_copyFrom l D τ ad sA sV _ 8 1 (by decide) (by decide) M hM _ hv) kX6_copyFrom ml_X11_153 rfl (gS_X (by decide) τ ad M) rfl rfl (Nat.le_of_ble_eq_true rfl) (rm_ok (by decide) (by decide)) ⟨Nat.zero_le _, Nat.zero_le _⟩ dX11_crowd_21 (fun M3 H locs hM hv hw => ?_)
    refine lv_aload_n hx hb dX11_crowd_24 rfl (lv_at hl 0 rfl) ?_
    refine gf_X11_44 hx hb hC hw 155 (gX_155 τ ad M3) rfl dX11_crowd_25 ?_
    refine lv_aload_n hx hb dX11_crowd_28 rfl (lv_at hl 0 rfl) ?_
    refine gf_X11_30 hx hb hC hw 155 (gX_155 τ ad M3) rfl dX11_crowd_29 ?_
    refine lv_aload_n hx hb dX11_crowd_32 rfl (lv_at hl 0 rfl) ?_
    refine gf_X11_105 hx hb hC hw 155 (gX_155 τ ad M3) rfl dX11_crowd_33 ?_
    obtain ⟨c4, hv⟩ := hv
    refine k_cVv (wq_X τ ad) hx hb hml hC hLS hA hw hl.1 (mX10_toEnd l D τ ad sA sV _ 8 (M3 155 16).toNat (by decide) c4 M3 hM _ hv) kX10_toEnd ml_X11_394 rfl (gX_160 τ ad M3) rfl rfl (Nat.le_of_ble_eq_true rfl) (rm_ok (by decide) (by decide)) ⟨Nat.zero_le _, Nat.zero_le _⟩ dX11_crowd_36 (fun M5 H locs hM hv hw => ?_)
    refine r_iconst hx hb dX11_crowd_39 ?_
    refine lv_istore_n (lv' := [(1, .int (iI 0)), (0, .ref (ad 155))]) hx hb dX11_crowd_40 rfl hl (by decide) rfl (fun ls hl => ?_)
    refine r_iconst hx hb dX11_crowd_41 ?_
    refine lv_istore_n (lv' := [(2, .int (iI (-1))), (1, .int (iI 0)), (0, .ref (ad 155))]) hx hb dX11_crowd_42 rfl hl (by decide) rfl (fun ls hl => ?_)
    refine r_iconst hx hb dX11_crowd_43 ?_
    refine lv_istore_n (lv' := [(3, .int (iI 0)), (2, .int (iI (-1))), (1, .int (iI 0)), (0, .ref (ad 155))]) hx hb dX11_crowd_44 rfl hl (by decide) rfl (fun ls hl => ?_)
    obtain ⟨n16, hv⟩ := hv
    refine L45 _ ?_ n16 0 (-1) 0 M5 _ _ _ hM hv hw (lv_sub hl [3, 2, 1, 0] rfl)
    · intro v1 v2 M H locs ls hM hv hw hl
      refine lv_aload_n hx hb dX11_crowd_101 rfl (lv_at hl 0 rfl) ?_
      refine gf_X11_66 hx hb hC hw 155 (gX_155 τ ad M) rfl dX11_crowd_102 ?_
      refine lv_iload_n hx hb dX11_crowd_105 rfl (lv_at hl 2 rfl) ?_
      obtain ⟨c17, hv⟩ := hv
      refine r_i2l hx hb dX11_crowd_106 c17 ?_
      refine lv_aload_n hx hb dX11_crowd_107 rfl (lv_at hl 0 rfl) ?_
      refine gf_X11_30 hx hb hC hw 155 (gX_155 τ ad M) rfl dX11_crowd_108 ?_
      refine k_cVi (wq_X τ ad) hx hb hml hC hLS hA hw hl.1 (mX6_rightBits l D τ ad sA sV _ 8 (by decide) M hM _ hv) kX6_rightBits ml_X11_397 rfl (gS_X (by decide) τ ad M) rfl rfl (Nat.le_of_ble_eq_true rfl) (rm_ok (by decide) (by decide)) ⟨Nat.zero_le _, Nat.zero_le _⟩ dX11_crowd_111 (fun x18 M18 H locs g18 hM hv hw => ?_)
      have hv := hv g18
      refine lv_aload_n hx hb dX11_crowd_114 rfl (lv_at hl 0 rfl) ?_
      refine gf_X11_30 hx hb hC hw 155 (gX_155 τ ad M18) rfl dX11_crowd_115 ?_
      refine lv_aload_n hx hb dX11_crowd_118 rfl (lv_at hl 0 rfl) ?_
      refine gf_X11_30 hx hb hC hw 155 (gX_155 τ ad M18) rfl dX11_crowd_119 ?_
      refine gf_X11_250 hx hb hC hw 8 (gS_X (by decide) τ ad M18) rfl dX11_crowd_122 ?_
      refine lv_iload_n hx hb dX11_crowd_125 rfl (lv_at hl 1 rfl) ?_
      obtain ⟨c19, hv⟩ := hv
      refine k_cVi (wq_X τ ad) hx hb hml hC hLS hA hw hl.1 (mX6_bitsOf l D τ ad sA sV _ 8 12 v1 (by decide) (isS_f3 (by decide)) c19 M18 hM _ hv) kX6_bitsOf ml_X11_243 rfl (gS_X (by decide) τ ad M18) rfl rfl (Nat.le_of_ble_eq_true rfl) (rm_ok (by decide) (by decide)) ⟨Nat.zero_le _, Nat.zero_le _⟩ dX11_crowd_126 (fun x20 M20 H locs g20 hM hv hw => ?_)
      have hv := hv g20
      refine r_iandF hx hb dX11_crowd_129 (fun x21 e21 g21 => ?_)
      have hv := hv x21 e21 g21
      refine k_cSi (wq_X τ ad) hx hb hml hC hLS hA hw hl.1 (mJ6_bitCount_0f7a4X l D τ ad sA sV _ x21 g21 M20 hM _ hv) kJ6_bitCount_0f7a4 ml_X11_389 rfl rfl (Nat.le_of_ble_eq_true rfl) (rm_ok (by decide) (by decide)) ⟨Nat.zero_le _, Nat.zero_le _⟩ dX11_crowd_130 (fun x22 M22 H locs g22 hM hv hw => ?_)
      have hv := hv g22
      refine r_i2l hx hb dX11_crowd_133 g22 ?_
      refine k_cVv (wq_X τ ad) hx hb hml hC hLS hA hw hl.1 (mX4_tellTwo l D τ ad sA sV _ v2 x22 (iR_lR c17) (iR_lR g22) M22 hM _ hv) kX4_tellTwo ml_X11_298 rfl (gX_167 τ ad M22) rfl rfl (Nat.le_of_ble_eq_true rfl) (rm_ok (by decide) (by decide)) ⟨Nat.zero_le _, Nat.zero_le _⟩ dX11_crowd_134 (fun M23 H locs hM hv hw => ?_)
      refine lv_iload_n hx hb dX11_crowd_137 rfl (lv_at hl 1 rfl) ?_
      exact k_iret (wq_X τ ad) hx hb hr hlk hw hM c19 hv dX11_crowd_138
  · have hv := hv.2 b2
    refine r_bipush hx hb dX11_crowd_10 (by decide +kernel) ?_
    exact k_iret (wq_X τ ad) hx hb hr hlk hw hM (by decide) hv dX11_crowd_12
set_option maxHeartbeats 4000000 in
set_option maxRecDepth 100000 in
theorem mX7_canHave (l : Launch) (D : va_G) (τ : Nat → ClassId) (ad : Nat → Nat) (sA sV : Nat → Nat) (sz : Nat) (k1 : Nat) (p2 : Int) (p3 : Int) (p4 : Int) (hk1 : isS k1) (hp2 : iR p2) (hp3 : iR p3) (hp4 : iR p4) (M : Mem) (hM : MR M) (Q : Int → Mem → Prop) (hv : qX7_canHave k1 p2 p3 p4 M Q) : Met l yX7_canHave (lw_w yX7_canHave cX7_canHave 5 (some .boolean)) (rmk 2 0 0) (kPc D τ sA sV (WX τ ad M) sz [.ref (ad 168), .ref (ad k1), .int (iI p2), .int (iI p3), .int (iI p4)]) (gQi D (EQz (WX τ ad) MR Q) (va_A (WX τ ad M) sz)) 0 0 (va_A (WX τ ad M) sz) := by
  refine k_met (ret := (some .boolean)) (Qc := gQi D (EQz (WX τ ad) MR Q)) (by decide +kernel) (Nat.le_of_ble_eq_true rfl) ?_
  intro p e s m args below meth c A ls hx hb hml hr hlk hnm hC hLS hA hw hl
  have hC : cx D τ s m args RX7 := hC
  have hl : lv_has ls 5 [(0, .ref (ad 168)), (1, .ref (ad k1)), (2, .int (iI p2)), (3, .int (iI p3)), (4, .int (iI p4))] := hl
  unfold qX7_canHave at hv
  refine lv_iload hx hb dX7_canHave_0 (lv_at hl 4 rfl) ?_
  refine lv_iload_n hx hb dX7_canHave_2 rfl (lv_at hl 3 rfl) ?_
  refine r_ishrF hx hb dX7_canHave_3 (fun x1 e1 g1 => ?_)
  have hv := hv x1 e1 g1
  refine r_iconst hx hb dX7_canHave_4 ?_
  refine r_iandF hx hb dX7_canHave_5 (fun x2 e2 g2 => ?_)
  have hv := hv x2 e2 g2
  refine r_if_ne (tgt := 52) hx hb dX7_canHave_6 (by decide) g2  (fun b3 => ?_) (fun b3 => ?_)
  · have hv := hv.1 b3
    refine r_iconst hx hb dX7_canHave_52 ?_
    exact k_zret (wq_X τ ad) hx hb hr hlk hw hM (by decide) (by decide) hv dX7_canHave_53
  · have hv := hv.2 b3
    refine lv_aload_n hx hb dX7_canHave_9 rfl (lv_at hl 1 rfl) ?_
    refine lv_iload_n hx hb dX7_canHave_10 rfl (lv_at hl 2 rfl) ?_
    refine k_cVz (wq_X τ ad) hx hb hml hC hLS hA hw hl.1 (mX6_hasEnded l D τ ad sA sV _ k1 p2 hk1 hp2 M hM _ hv) kX6_hasEnded ml_X7_42 rfl (gS_X hk1 τ ad M) rfl rfl (Nat.le_of_ble_eq_true rfl) (rm_ok (by decide) (by decide)) ⟨Nat.zero_le _, Nat.zero_le _⟩ dX7_canHave_11 (fun x4 M4 H locs g4 z4 hM hv hw => ?_)
    have hv := hv g4 z4
    refine r_if_ne (tgt := 52) hx hb dX7_canHave_14 (by decide) g4  (fun b5 => ?_) (fun b5 => ?_)
    · have hv := hv.1 b5
      refine r_iconst hx hb dX7_canHave_52 ?_
      exact k_zret (wq_X τ ad) hx hb hr hlk hw hM (by decide) (by decide) hv dX7_canHave_53
    · have hv := hv.2 b5
      refine lv_aload_n hx hb dX7_canHave_17 rfl (lv_at hl 1 rfl) ?_
      refine lv_iload_n hx hb dX7_canHave_18 rfl (lv_at hl 3 rfl) ?_
      refine k_cVz (wq_X τ ad) hx hb hml hC hLS hA hw hl.1 (mX6_hasArrived l D τ ad sA sV _ k1 p3 hk1 hp3 M4 hM _ hv) kX6_hasArrived ml_X7_46 rfl (gS_X hk1 τ ad M4) rfl rfl (Nat.le_of_ble_eq_true rfl) (rm_ok (by decide) (by decide)) ⟨Nat.zero_le _, Nat.zero_le _⟩ dX7_canHave_19 (fun x6 M6 H locs g6 z6 hM hv hw => ?_)
      have hv := hv g6 z6
      refine r_if_ne (tgt := 52) hx hb dX7_canHave_22 (by decide) g6  (fun b7 => ?_) (fun b7 => ?_)
      · have hv := hv.1 b7
        refine r_iconst hx hb dX7_canHave_52 ?_
        exact k_zret (wq_X τ ad) hx hb hr hlk hw hM (by decide) (by decide) hv dX7_canHave_53
      · have hv := hv.2 b7
        refine lv_aload_n hx hb dX7_canHave_25 rfl (lv_at hl 1 rfl) ?_
        refine gf_X7_49 hx hb hC hw k1 (gS_X hk1 τ ad M6) rfl dX7_canHave_26 ?_
        refine lv_iload_n hx hb dX7_canHave_29 rfl (lv_at hl 3 rfl) ?_
        obtain ⟨c8, hv⟩ := hv
        obtain ⟨c9, hv⟩ := hv
        refine r_iald hx hb hC hw (k1 + 1) (gI_X (isS_f0 hk1) τ ad M6) c8 c9 (by decide) dX7_canHave_30 ?_
        refine r_top (fun x10 e10 => ?_)
        have g10 : iR x10 := by rw [e10]; exact hM.get (isS_f0 hk1).pos _
        have hv := hv x10 e10 g10
        refine lv_aload_n hx hb dX7_canHave_31 rfl (lv_at hl 1 rfl) ?_
        refine gf_X7_53 hx hb hC hw k1 (gS_X hk1 τ ad M6) rfl dX7_canHave_32 ?_
        refine lv_iload_n hx hb dX7_canHave_35 rfl (lv_at hl 2 rfl) ?_
        obtain ⟨c11, hv⟩ := hv
        obtain ⟨c12, hv⟩ := hv
        refine r_iald hx hb hC hw (k1 + 3) (gI_X (isS_f2 hk1) τ ad M6) c11 c12 (by decide) dX7_canHave_36 ?_
        refine r_top (fun x13 e13 => ?_)
        have g13 : iR x13 := by rw [e13]; exact hM.get (isS_f2 hk1).pos _
        have hv := hv x13 e13 g13
        refine r_isub (z := (x10 - x13)) hx hb dX7_canHave_37 rfl ?_
        obtain ⟨c14, hv⟩ := hv
        refine r_mabs hx hb hml hC hl.1 ml_X7_56 sm_abs in_J9 cd_abs (by decide) (Nat.le_of_ble_eq_true rfl) (Nat.zero_le _) (Nat.zero_le _) c14 dX7_canHave_38 (fun x15 e15 g15 => ?_)
        have hv := hv x15 e15 g15
        refine lv_aload_n hx hb dX7_canHave_41 rfl (lv_at hl 0 rfl) ?_
        refine gf_X7_16 hx hb hC hw 168 (gX_168 τ ad M6) rfl dX7_canHave_42 ?_
        refine r_top (fun x16 e16 => ?_)
        have g16 : iR x16 := by rw [e16]; exact hM.get (by decide) _
        have hv := hv x16 e16 g16
        obtain ⟨c17, hv⟩ := hv
        refine r_icmp_gt (tgt := 52) hx hb dX7_canHave_45 (by decide) c17 g16 (fun b18 => ?_) (fun b18 => ?_)
        · have hv := hv.1 b18
          refine r_iconst hx hb dX7_canHave_52 ?_
          exact k_zret (wq_X τ ad) hx hb hr hlk hw hM (by decide) (by decide) hv dX7_canHave_53
        · have hv := hv.2 b18
          refine r_iconst hx hb dX7_canHave_48 ?_
          refine lv_goto (tgt := 53) hx hb dX7_canHave_49 (by decide) ?_
          exact k_zret (wq_X τ ad) hx hb hr hlk hw hM (by decide) (by decide) hv dX7_canHave_53
set_option maxHeartbeats 4000000 in
set_option maxRecDepth 100000 in
theorem mX7_choice (l : Launch) (D : va_G) (τ : Nat → ClassId) (ad : Nat → Nat) (sA sV : Nat → Nat) (sz : Nat) (k1 : Nat) (p2 : Int) (p3 : Int) (hk1 : isS k1) (hp2 : iR p2) (hp3 : iR p3) (M : Mem) (hM : MR M) (Q : Int → Mem → Prop) (hv : qX7_choice k1 p2 p3 M Q) : Met l yX7_choice (lw_w yX7_choice cX7_choice 6 (some .int)) (rmk 3 0 0) (kPc D τ sA sV (WX τ ad M) sz [.ref (ad 168), .ref (ad k1), .int (iI p2), .int (iI p3)]) (gQi D (EQi (WX τ ad) MR Q) (va_A (WX τ ad M) sz)) 0 0 (va_A (WX τ ad M) sz) := by
  refine k_met (ret := (some .int)) (Qc := gQi D (EQi (WX τ ad) MR Q)) (by decide +kernel) (Nat.le_of_ble_eq_true rfl) ?_
  intro p e s m args below meth c A ls hx hb hml hr hlk hnm hC hLS hA hw hl
  have hC : cx D τ s m args RX7 := hC
  have hl : lv_has ls 6 [(0, .ref (ad 168)), (1, .ref (ad k1)), (2, .int (iI p2)), (3, .int (iI p3))] := hl
  unfold qX7_choice at hv
  have L30 : ∀ (n : Nat) (v4 : Int) (v5 : Int) (M : Mem) (H : Heap) (locs : List Loc) (ls : Array Slot), MR M → qX7_choice_L30 k1 p2 p3  Q n v4 v5 M → wS D A s.heap (WX τ ad M) H locs → lv_has ls 6 [(0, .ref (ad 168)), (1, .ref (ad k1)), (2, .int (iI p2)), (3, .int (iI p3)), (4, .int (iI v4)), (5, .int (iI v5))] → W p l e (rmk 3 0 0) s m args below meth c H locs 0 0 (MQ below (gQi D (EQi (WX τ ad) MR Q) A) args s 0 0 A) (F0 m 30 ls []) := by
    intro n
    induction n with
    | zero => intro v4 v5 M H locs ls hM hv; rw [qX7_choice_L30] at hv; exact hv.elim
    | succ n ih =>
      intro v4 v5 M H locs ls hM hv hw hl
      rw [qX7_choice_L30] at hv
      refine lv_iload hx hb dX7_choice_30 (lv_at hl 5 rfl) ?_
      refine lv_aload_n hx hb dX7_choice_32 rfl (lv_at hl 1 rfl) ?_
      refine gf_X7_20 hx hb hC hw k1 (gS_X hk1 τ ad M) rfl dX7_choice_33 ?_
      refine r_top (fun x10 e10 => ?_)
      have g10 : iR x10 := by rw [e10]; exact hM.get hk1.pos _
      have hv := hv x10 e10 g10
      obtain ⟨c11, hv⟩ := hv
      refine r_icmp_ge (tgt := 82) hx hb dX7_choice_36 (by decide) c11 g10 (fun b12 => ?_) (fun b12 => ?_)
      · have hv := hv.1 b12
        refine r_iconst hx hb dX7_choice_82 ?_
        exact k_iret (wq_X τ ad) hx hb hr hlk hw hM (by decide) hv dX7_choice_83
      · have hv := hv.2 b12
        refine lv_aload_n hx hb dX7_choice_39 rfl (lv_at hl 0 rfl) ?_
        refine lv_aload_n hx hb dX7_choice_40 rfl (lv_at hl 1 rfl) ?_
        refine lv_iload_n hx hb dX7_choice_41 rfl (lv_at hl 2 rfl) ?_
        refine lv_iload hx hb dX7_choice_42 (lv_at hl 5 rfl) ?_
        refine lv_iload_n hx hb dX7_choice_44 rfl (lv_at hl 3 rfl) ?_
        refine k_cVz (wq_X τ ad) hx hb hml hC hLS hA hw hl.1 (mX7_canHave l D τ ad sA sV _ k1 p2 v5 p3 hk1 hp2 c11 hp3 M hM _ hv) kX7_canHave ml_X7_32 rfl (gX_168 τ ad M) rfl rfl (Nat.le_of_ble_eq_true rfl) (rm_ok (by decide) (by decide)) ⟨Nat.zero_le _, Nat.zero_le _⟩ dX7_choice_45 (fun x13 M13 H locs g13 z13 hM hv hw => ?_)
        have hv := hv g13 z13
        refine r_if_eq (tgt := 76) hx hb dX7_choice_48 (by decide) g13  (fun b14 => ?_) (fun b14 => ?_)
        · have hv := hv.1 b14
          refine r_iinc (v := (v5 + 1)) (lv' := [(5, .int (iI (v5 + 1))), (0, .ref (ad 168)), (1, .ref (ad k1)), (2, .int (iI p2)), (3, .int (iI p3)), (4, .int (iI v4))]) hx hb dX7_choice_76 hl (k := 5) rfl rfl (by decide) rfl (fun ls hl => ?_)
          refine lv_goto (tgt := 30) hx hb dX7_choice_79 (by decide) ?_
          exact ih v4 (v5 + 1) M13 _ _ _ hM hv hw (lv_sub hl [1, 2, 3, 4, 5, 0] rfl)
        · have hv := hv.2 b14
          refine r_iconst hx hb dX7_choice_51 ?_
          refine lv_aload_n hx hb dX7_choice_52 rfl (lv_at hl 0 rfl) ?_
          refine gf_X7_11 hx hb hC hw 168 (gX_168 τ ad M13) rfl dX7_choice_53 ?_
          refine lv_iload_n hx hb dX7_choice_56 rfl (lv_at hl 2 rfl) ?_
          refine r_iconst hx hb dX7_choice_57 ?_
          refine r_iadd (z := (p2 + 1)) hx hb dX7_choice_58 rfl ?_
          obtain ⟨c15, hv⟩ := hv
          obtain ⟨c16, hv⟩ := hv
          refine r_aaldM (f := fun i => some (ad (170 + i))) (v := .ref (ad (170 + (p2 + 1).toNat))) hx hb hC hw 169 (gR_169 τ ad M13) c15 c16 (by decide) rfl dX7_choice_59 ?_
          refine lv_iload_n hx hb dX7_choice_60 rfl (lv_at hl 3 rfl) ?_
          refine r_iconst hx hb dX7_choice_61 ?_
          refine lv_iload hx hb dX7_choice_62 (lv_at hl 5 rfl) ?_
          refine r_ishlF hx hb dX7_choice_64 (fun x17 e17 g17 => ?_)
          have hv := hv x17 e17 g17
          refine r_iorF hx hb dX7_choice_65 (fun x18 e18 g18 => ?_)
          have hv := hv x18 e18 g18
          obtain ⟨c19, hv⟩ := hv
          obtain ⟨c20, hv⟩ := hv
          refine r_iald hx hb hC hw (170 + (p2 + 1).toNat) (gI_X (XI_most c15 c16) τ ad M13) c19 c20 (by decide) dX7_choice_66 ?_
          refine r_top (fun x21 e21 => ?_)
          have g21 : iR x21 := by rw [e21]; exact hM.get (XI_most c15 c16).pos _
          have hv := hv x21 e21 g21
          refine r_iadd (z := (1 + x21)) hx hb dX7_choice_67 rfl ?_
          refine lv_iload hx hb dX7_choice_68 (lv_at hl 4 rfl) ?_
          obtain ⟨c22, hv⟩ := hv
          obtain ⟨c23, hv⟩ := hv
          refine r_icmp_ne (tgt := 76) hx hb dX7_choice_70 (by decide) c22 c23 (fun b24 => ?_) (fun b24 => ?_)
          · have hv := hv.1 b24
            refine r_iinc (v := (v5 + 1)) (lv' := [(5, .int (iI (v5 + 1))), (0, .ref (ad 168)), (1, .ref (ad k1)), (2, .int (iI p2)), (3, .int (iI p3)), (4, .int (iI v4))]) hx hb dX7_choice_76 hl (k := 5) rfl rfl (by decide) rfl (fun ls hl => ?_)
            refine lv_goto (tgt := 30) hx hb dX7_choice_79 (by decide) ?_
            exact ih v4 (v5 + 1) M13 _ _ _ hM hv hw (lv_sub hl [1, 2, 3, 4, 5, 0] rfl)
          · have hv := hv.2 b24
            refine lv_iload hx hb dX7_choice_73 (lv_at hl 5 rfl) ?_
            exact k_iret (wq_X τ ad) hx hb hr hlk hw hM c11 hv dX7_choice_75
  refine lv_aload_n hx hb dX7_choice_0 rfl (lv_at hl 0 rfl) ?_
  refine gf_X7_11 hx hb hC hw 168 (gX_168 τ ad M) rfl dX7_choice_1 ?_
  refine lv_iload_n hx hb dX7_choice_4 rfl (lv_at hl 2 rfl) ?_
  obtain ⟨c1, hv⟩ := hv
  obtain ⟨c2, hv⟩ := hv
  refine r_aaldM (f := fun i => some (ad (170 + i))) (v := .ref (ad (170 + p2.toNat))) hx hb hC hw 169 (gR_169 τ ad M) c1 c2 (by decide) rfl dX7_choice_5 ?_
  refine lv_iload_n hx hb dX7_choice_6 rfl (lv_at hl 3 rfl) ?_
  obtain ⟨c3, hv⟩ := hv
  obtain ⟨c4, hv⟩ := hv
  refine r_iald hx hb hC hw (170 + p2.toNat) (gI_X (XI_most c1 c2) τ ad M) c3 c4 (by decide) dX7_choice_7 ?_
  refine r_top (fun x5 e5 => ?_)
  have g5 : iR x5 := by rw [e5]; exact hM.get (XI_most c1 c2).pos _
  have hv := hv x5 e5 g5
  refine lv_istore (lv' := [(4, .int (iI x5)), (0, .ref (ad 168)), (1, .ref (ad k1)), (2, .int (iI p2)), (3, .int (iI p3))]) hx hb dX7_choice_8 hl (by decide) rfl (fun ls hl => ?_)
  refine lv_aload_n hx hb dX7_choice_10 rfl (lv_at hl 1 rfl) ?_
  refine gf_X7_11 hx hb hC hw 168 (gX_168 τ ad M) rfl dX7_choice_11 ?_
  refine lv_iload_n hx hb dX7_choice_14 rfl (lv_at hl 3 rfl) ?_
  refine r_iconst hx hb dX7_choice_15 ?_
  refine r_iadd (z := (p2 + 1)) hx hb dX7_choice_16 rfl ?_
  obtain ⟨c6, hv⟩ := hv
  obtain ⟨c7, hv⟩ := hv
  refine r_aaldM (f := fun i => some (ad (170 + i))) (v := .ref (ad (170 + (p2 + 1).toNat))) hx hb hC hw 169 (gR_169 τ ad M) c6 c7 (by decide) rfl dX7_choice_17 ?_
  refine lv_iload_n hx hb dX7_choice_18 rfl (lv_at hl 4 rfl) ?_
  refine r_iald hx hb hC hw (170 + (p2 + 1).toNat) (gI_X (XI_most c6 c7) τ ad M) c3 c4 (by decide) dX7_choice_19 ?_
  refine r_top (fun x8 e8 => ?_)
  have g8 : iR x8 := by rw [e8]; exact hM.get (XI_most c6 c7).pos _
  have hv := hv x8 e8 g8
  refine lv_iload hx hb dX7_choice_20 (lv_at hl 0 rfl) ?_
  refine r_icmp_ne (tgt := 27) hx hb dX7_choice_22 (by decide) g8 g5 (fun b9 => ?_) (fun b9 => ?_)
  · have hv := hv.1 b9
    refine r_iconst hx hb dX7_choice_27 ?_
    refine lv_istore (lv' := [(5, .int (iI 0)), (4, .int (iI x5)), (0, .ref (ad 168)), (1, .ref (ad k1)), (2, .int (iI p2)), (3, .int (iI p3))]) hx hb dX7_choice_28 hl (by decide) rfl (fun ls hl => ?_)
    obtain ⟨n25, hv⟩ := hv
    refine L30  n25 x5 0 M _ _ _ hM hv hw (lv_sub hl [2, 3, 4, 5, 1, 0] rfl)
  · have hv := hv.2 b9
    refine r_iconst hx hb dX7_choice_25 ?_
    exact k_iret (wq_X τ ad) hx hb hr hlk hw hM (by decide) hv dX7_choice_26
set_option maxHeartbeats 4000000 in
set_option maxRecDepth 100000 in
theorem mX7_mostFrom (l : Launch) (D : va_G) (τ : Nat → ClassId) (ad : Nat → Nat) (sA sV : Nat → Nat) (sz : Nat) (k1 : Nat) (p2 : Int) (p3 : Int) (hk1 : isS k1) (hp2 : iR p2) (hp3 : iR p3) (M : Mem) (hM : MR M) (Q : Int → Mem → Prop) (hv : qX7_mostFrom k1 p2 p3 M Q) : Met l yX7_mostFrom (lw_w yX7_mostFrom cX7_mostFrom 6 (some .int)) (rmk 3 0 0) (kPc D τ sA sV (WX τ ad M) sz [.ref (ad 168), .ref (ad k1), .int (iI p2), .int (iI p3)]) (gQi D (EQi (WX τ ad) MR Q) (va_A (WX τ ad M) sz)) 0 0 (va_A (WX τ ad M) sz) := by
  refine k_met (ret := (some .int)) (Qc := gQi D (EQi (WX τ ad) MR Q)) (by decide +kernel) (Nat.le_of_ble_eq_true rfl) ?_
  intro p e s m args below meth c A ls hx hb hml hr hlk hnm hC hLS hA hw hl
  have hC : cx D τ s m args RX7 := hC
  have hl : lv_has ls 6 [(0, .ref (ad 168)), (1, .ref (ad k1)), (2, .int (iI p2)), (3, .int (iI p3))] := hl
  unfold qX7_mostFrom at hv
  have L15 : ∀ (n : Nat) (v4 : Int) (v5 : Int) (M : Mem) (H : Heap) (locs : List Loc) (ls : Array Slot), MR M → qX7_mostFrom_L15 k1 p2 p3  Q n v4 v5 M → wS D A s.heap (WX τ ad M) H locs → lv_has ls 6 [(0, .ref (ad 168)), (1, .ref (ad k1)), (2, .int (iI p2)), (3, .int (iI p3)), (4, .int (iI v4)), (5, .int (iI v5))] → W p l e (rmk 3 0 0) s m args below meth c H locs 0 0 (MQ below (gQi D (EQi (WX τ ad) MR Q) A) args s 0 0 A) (F0 m 15 ls []) := by
    intro n
    induction n with
    | zero => intro v4 v5 M H locs ls hM hv; rw [qX7_mostFrom_L15] at hv; exact hv.elim
    | succ n ih =>
      intro v4 v5 M H locs ls hM hv hw hl
      rw [qX7_mostFrom_L15] at hv
      refine lv_iload hx hb dX7_mostFrom_15 (lv_at hl 5 rfl) ?_
      refine lv_aload_n hx hb dX7_mostFrom_17 rfl (lv_at hl 1 rfl) ?_
      refine gf_X7_20 hx hb hC hw k1 (gS_X hk1 τ ad M) rfl dX7_mostFrom_18 ?_
      refine r_top (fun x6 e6 => ?_)
      have g6 : iR x6 := by rw [e6]; exact hM.get hk1.pos _
      have hv := hv x6 e6 g6
      obtain ⟨c7, hv⟩ := hv
      refine r_icmp_ge (tgt := 66) hx hb dX7_mostFrom_21 (by decide) c7 g6 (fun b8 => ?_) (fun b8 => ?_)
      · have hv := hv.1 b8
        refine lv_iload hx hb dX7_mostFrom_66 (lv_at hl 4 rfl) ?_
        obtain ⟨c9, hv⟩ := hv
        exact k_iret (wq_X τ ad) hx hb hr hlk hw hM c9 hv dX7_mostFrom_68
      · have hv := hv.2 b8
        refine lv_aload_n hx hb dX7_mostFrom_24 rfl (lv_at hl 0 rfl) ?_
        refine lv_aload_n hx hb dX7_mostFrom_25 rfl (lv_at hl 1 rfl) ?_
        refine lv_iload_n hx hb dX7_mostFrom_26 rfl (lv_at hl 2 rfl) ?_
        refine lv_iload hx hb dX7_mostFrom_27 (lv_at hl 5 rfl) ?_
        refine lv_iload_n hx hb dX7_mostFrom_29 rfl (lv_at hl 3 rfl) ?_
        refine k_cVz (wq_X τ ad) hx hb hml hC hLS hA hw hl.1 (mX7_canHave l D τ ad sA sV _ k1 p2 v5 p3 hk1 hp2 c7 hp3 M hM _ hv) kX7_canHave ml_X7_32 rfl (gX_168 τ ad M) rfl rfl (Nat.le_of_ble_eq_true rfl) (rm_ok (by decide) (by decide)) ⟨Nat.zero_le _, Nat.zero_le _⟩ dX7_mostFrom_30 (fun x10 M10 H locs g10 z10 hM hv hw => ?_)
        have hv := hv g10 z10
        refine r_if_eq (tgt := 60) hx hb dX7_mostFrom_33 (by decide) g10  (fun b11 => ?_) (fun b11 => ?_)
        · have hv := hv.1 b11
          refine r_iinc (v := (v5 + 1)) (lv' := [(5, .int (iI (v5 + 1))), (0, .ref (ad 168)), (1, .ref (ad k1)), (2, .int (iI p2)), (3, .int (iI p3)), (4, .int (iI v4))]) hx hb dX7_mostFrom_60 hl (k := 5) rfl rfl (by decide) rfl (fun ls hl => ?_)
          refine lv_goto (tgt := 15) hx hb dX7_mostFrom_63 (by decide) ?_
          exact ih v4 (v5 + 1) M10 _ _ _ hM hv hw (lv_sub hl [1, 2, 3, 4, 5, 0] rfl)
        · have hv := hv.2 b11
          refine lv_iload hx hb dX7_mostFrom_36 (lv_at hl 4 rfl) ?_
          refine r_iconst hx hb dX7_mostFrom_38 ?_
          refine lv_aload_n hx hb dX7_mostFrom_39 rfl (lv_at hl 0 rfl) ?_
          refine gf_X7_11 hx hb hC hw 168 (gX_168 τ ad M10) rfl dX7_mostFrom_40 ?_
          refine lv_iload_n hx hb dX7_mostFrom_43 rfl (lv_at hl 2 rfl) ?_
          refine r_iconst hx hb dX7_mostFrom_44 ?_
          refine r_iadd (z := (p2 + 1)) hx hb dX7_mostFrom_45 rfl ?_
          obtain ⟨c12, hv⟩ := hv
          obtain ⟨c13, hv⟩ := hv
          refine r_aaldM (f := fun i => some (ad (170 + i))) (v := .ref (ad (170 + (p2 + 1).toNat))) hx hb hC hw 169 (gR_169 τ ad M10) c12 c13 (by decide) rfl dX7_mostFrom_46 ?_
          refine lv_iload_n hx hb dX7_mostFrom_47 rfl (lv_at hl 3 rfl) ?_
          refine r_iconst hx hb dX7_mostFrom_48 ?_
          refine lv_iload hx hb dX7_mostFrom_49 (lv_at hl 5 rfl) ?_
          refine r_ishlF hx hb dX7_mostFrom_51 (fun x14 e14 g14 => ?_)
          have hv := hv x14 e14 g14
          refine r_iorF hx hb dX7_mostFrom_52 (fun x15 e15 g15 => ?_)
          have hv := hv x15 e15 g15
          obtain ⟨c16, hv⟩ := hv
          obtain ⟨c17, hv⟩ := hv
          refine r_iald hx hb hC hw (170 + (p2 + 1).toNat) (gI_X (XI_most c12 c13) τ ad M10) c16 c17 (by decide) dX7_mostFrom_53 ?_
          refine r_top (fun x18 e18 => ?_)
          have g18 : iR x18 := by rw [e18]; exact hM.get (XI_most c12 c13).pos _
          have hv := hv x18 e18 g18
          refine r_iadd (z := (1 + x18)) hx hb dX7_mostFrom_54 rfl ?_
          obtain ⟨c19, hv⟩ := hv
          obtain ⟨c20, hv⟩ := hv
          refine r_mmaxF hx hb hml hC hl.1 ml_X7_36 sm_max in_J9 cd_max (by decide) (Nat.le_of_ble_eq_true rfl) (Nat.zero_le _) (Nat.zero_le _) c19 c20 dX7_mostFrom_55 (fun x21 e21 g21 => ?_)
          have hv := hv x21 e21 g21
          refine lv_istore (lv' := [(4, .int (iI x21)), (0, .ref (ad 168)), (1, .ref (ad k1)), (2, .int (iI p2)), (3, .int (iI p3)), (5, .int (iI v5))]) hx hb dX7_mostFrom_58 hl (by decide) rfl (fun ls hl => ?_)
          refine r_iinc (v := (v5 + 1)) (lv' := [(5, .int (iI (v5 + 1))), (4, .int (iI x21)), (0, .ref (ad 168)), (1, .ref (ad k1)), (2, .int (iI p2)), (3, .int (iI p3))]) hx hb dX7_mostFrom_60 hl (k := 5) rfl rfl (by decide) rfl (fun ls hl => ?_)
          refine lv_goto (tgt := 15) hx hb dX7_mostFrom_63 (by decide) ?_
          exact ih x21 (v5 + 1) M10 _ _ _ hM hv hw (lv_sub hl [2, 3, 4, 5, 1, 0] rfl)
  refine lv_aload_n hx hb dX7_mostFrom_0 rfl (lv_at hl 0 rfl) ?_
  refine gf_X7_11 hx hb hC hw 168 (gX_168 τ ad M) rfl dX7_mostFrom_1 ?_
  refine lv_iload_n hx hb dX7_mostFrom_4 rfl (lv_at hl 2 rfl) ?_
  refine r_iconst hx hb dX7_mostFrom_5 ?_
  refine r_iadd (z := (p2 + 1)) hx hb dX7_mostFrom_6 rfl ?_
  obtain ⟨c1, hv⟩ := hv
  obtain ⟨c2, hv⟩ := hv
  refine r_aaldM (f := fun i => some (ad (170 + i))) (v := .ref (ad (170 + (p2 + 1).toNat))) hx hb hC hw 169 (gR_169 τ ad M) c1 c2 (by decide) rfl dX7_mostFrom_7 ?_
  refine lv_iload_n hx hb dX7_mostFrom_8 rfl (lv_at hl 3 rfl) ?_
  obtain ⟨c3, hv⟩ := hv
  obtain ⟨c4, hv⟩ := hv
  refine r_iald hx hb hC hw (170 + (p2 + 1).toNat) (gI_X (XI_most c1 c2) τ ad M) c3 c4 (by decide) dX7_mostFrom_9 ?_
  refine r_top (fun x5 e5 => ?_)
  have g5 : iR x5 := by rw [e5]; exact hM.get (XI_most c1 c2).pos _
  have hv := hv x5 e5 g5
  refine lv_istore (lv' := [(4, .int (iI x5)), (0, .ref (ad 168)), (1, .ref (ad k1)), (2, .int (iI p2)), (3, .int (iI p3))]) hx hb dX7_mostFrom_10 hl (by decide) rfl (fun ls hl => ?_)
  refine r_iconst hx hb dX7_mostFrom_12 ?_
  refine lv_istore (lv' := [(5, .int (iI 0)), (4, .int (iI x5)), (0, .ref (ad 168)), (1, .ref (ad k1)), (2, .int (iI p2)), (3, .int (iI p3))]) hx hb dX7_mostFrom_13 hl (by decide) rfl (fun ls hl => ?_)
  obtain ⟨n22, hv⟩ := hv
  refine L15  n22 x5 0 M _ _ _ hM hv hw (lv_sub hl [2, 3, 4, 5, 1, 0] rfl)
set_option maxHeartbeats 4000000 in
set_option maxRecDepth 100000 in
theorem mX7_weigh (l : Launch) (D : va_G) (τ : Nat → ClassId) (ad : Nat → Nat) (sA sV : Nat → Nat) (sz : Nat) (k1 : Nat) (p2 : Int) (hk1 : isS k1) (hp2 : iR p2) (M : Mem) (hM : MR M) (Q : Int → Mem → Prop) (hv : qX7_weigh k1 p2 M Q) : Met l yX7_weigh (lw_w yX7_weigh cX7_weigh 6 (some .int)) (rmk 4 0 0) (kPc D τ sA sV (WX τ ad M) sz [.ref (ad 168), .ref (ad k1), .int (iI p2)]) (gQi D (EQi (WX τ ad) MR Q) (va_A (WX τ ad M) sz)) 0 0 (va_A (WX τ ad M) sz) := by
  refine k_met (ret := (some .int)) (Qc := gQi D (EQi (WX τ ad) MR Q)) (by decide +kernel) (Nat.le_of_ble_eq_true rfl) ?_
  intro p e s m args below meth c A ls hx hb hml hr hlk hnm hC hLS hA hw hl
  have hC : cx D τ s m args RX7 := hC
  have hl : lv_has ls 6 [(0, .ref (ad 168)), (1, .ref (ad k1)), (2, .int (iI p2))] := hl
  unfold qX7_weigh at hv
  have L15 : ∀ (X40 : Int → Mem → Prop), (∀ (v3 : Int) (M : Mem) (H : Heap) (locs : List Loc) (ls : Array Slot), MR M → X40 v3 M → wS D A s.heap (WX τ ad M) H locs → lv_has ls 6 [(0, .ref (ad 168)), (1, .ref (ad k1)), (3, .int (iI v3))] → W p l e (rmk 4 0 0) s m args below meth c H locs 0 0 (MQ below (gQi D (EQi (WX τ ad) MR Q) A) args s 0 0 A) (F0 m 40 ls [])) → ∀ (n : Nat) (v3 : Int) (v4 : Int) (M : Mem) (H : Heap) (locs : List Loc) (ls : Array Slot), MR M → qX7_weigh_L15 k1 p2 X40 Q n v3 v4 M → wS D A s.heap (WX τ ad M) H locs → lv_has ls 6 [(0, .ref (ad 168)), (1, .ref (ad k1)), (3, .int (iI v3)), (4, .int (iI v4))] → W p l e (rmk 4 0 0) s m args below meth c H locs 0 0 (MQ below (gQi D (EQi (WX τ ad) MR Q) A) args s 0 0 A) (F0 m 15 ls []) := by
    intro X40 hX40 n
    induction n with
    | zero => intro v3 v4 M H locs ls hM hv; rw [qX7_weigh_L15] at hv; exact hv.elim
    | succ n ih =>
      intro v3 v4 M H locs ls hM hv hw hl
      rw [qX7_weigh_L15] at hv
      refine lv_iload hx hb dX7_weigh_15 (lv_at hl 3 rfl) ?_
      refine lv_iload_n hx hb dX7_weigh_17 rfl (lv_at hl 2 rfl) ?_
      obtain ⟨c4, hv⟩ := hv
      obtain ⟨c5, hv⟩ := hv
      refine r_icmp_ge (tgt := 40) hx hb dX7_weigh_18 (by decide) c4 c5 (fun b6 => ?_) (fun b6 => ?_)
      · have hv := hv.1 b6
        exact hX40 v3 M _ _ _ hM hv hw (lv_sub hl [0, 1, 2] rfl)
      · have hv := hv.2 b6
        refine lv_aload_n hx hb dX7_weigh_21 rfl (lv_at hl 0 rfl) ?_
        refine gf_X7_11 hx hb hC hw 168 (gX_168 τ ad M) rfl dX7_weigh_22 ?_
        refine lv_aload_n hx hb dX7_weigh_25 rfl (lv_at hl 1 rfl) ?_
        refine gf_X7_25 hx hb hC hw k1 (gS_X hk1 τ ad M) rfl dX7_weigh_26 ?_
        refine r_top (fun x7 e7 => ?_)
        have g7 : iR x7 := by rw [e7]; exact hM.get hk1.pos _
        have hv := hv x7 e7 g7
        obtain ⟨c8, hv⟩ := hv
        obtain ⟨c9, hv⟩ := hv
        refine r_aaldM (f := fun i => some (ad (170 + i))) (v := .ref (ad (170 + x7.toNat))) hx hb hC hw 169 (gR_169 τ ad M) c8 c9 (by decide) rfl dX7_weigh_29 ?_
        refine lv_iload hx hb dX7_weigh_30 (lv_at hl 3 rfl) ?_
        refine r_iconst hx hb dX7_weigh_32 ?_
        obtain ⟨c10, hv⟩ := hv
        obtain ⟨c11, hv⟩ := hv
        obtain ⟨M12, e12⟩ : ∃ M12 : Mem, M12 = up2 M (170 + x7.toNat) v4 0 := ⟨_, rfl⟩
        have hv := hv M12 e12
        refine r_iast (ws' := (WX τ ad M12)) hx hb hC hw (170 + x7.toNat) (gI_X (XI_most c8 c9) τ ad M) c10 c11 (by decide) (by rw [e12]; exact sI_X (XI_most c8 c9) τ ad M _ _) dX7_weigh_33 (fun H locs hw => ?_)
        have hM : MR M12 := by rw [e12]; exact hM.put (XI_most c8 c9).pos (by decide)
        refine r_iinc (v := (v4 + 1)) (lv' := [(4, .int (iI (v4 + 1))), (0, .ref (ad 168)), (1, .ref (ad k1)), (3, .int (iI v3))]) hx hb dX7_weigh_34 hl (k := 3) rfl rfl (by decide) rfl (fun ls hl => ?_)
        refine lv_goto (tgt := 15) hx hb dX7_weigh_37 (by decide) ?_
        exact ih v3 (v4 + 1) M12 _ _ _ hM hv hw (lv_sub hl [1, 2, 3, 0] rfl)
  have L56 : ∀ (X87 : Int → Int → Mem → Prop), (∀ (v3 : Int) (v4 : Int) (M : Mem) (H : Heap) (locs : List Loc) (ls : Array Slot), MR M → X87 v3 v4 M → wS D A s.heap (WX τ ad M) H locs → lv_has ls 6 [(0, .ref (ad 168)), (1, .ref (ad k1)), (3, .int (iI v3)), (4, .int (iI v4))] → W p l e (rmk 4 0 0) s m args below meth c H locs 0 0 (MQ below (gQi D (EQi (WX τ ad) MR Q) A) args s 0 0 A) (F0 m 87 ls [])) → ∀ (n : Nat) (v3 : Int) (v4 : Int) (v5 : Int) (M : Mem) (H : Heap) (locs : List Loc) (ls : Array Slot), MR M → qX7_weigh_L56 k1 p2 X87 Q n v3 v4 v5 M → wS D A s.heap (WX τ ad M) H locs → lv_has ls 6 [(0, .ref (ad 168)), (1, .ref (ad k1)), (3, .int (iI v3)), (4, .int (iI v4)), (5, .int (iI v5))] → W p l e (rmk 4 0 0) s m args below meth c H locs 0 0 (MQ below (gQi D (EQi (WX τ ad) MR Q) A) args s 0 0 A) (F0 m 56 ls []) := by
    intro X87 hX87 n
    induction n with
    | zero => intro v3 v4 v5 M H locs ls hM hv; rw [qX7_weigh_L56] at hv; exact hv.elim
    | succ n ih =>
      intro v3 v4 v5 M H locs ls hM hv hw hl
      rw [qX7_weigh_L56] at hv
      refine lv_iload hx hb dX7_weigh_56 (lv_at hl 4 rfl) ?_
      refine lv_iload_n hx hb dX7_weigh_58 rfl (lv_at hl 2 rfl) ?_
      obtain ⟨c18, hv⟩ := hv
      obtain ⟨c19, hv⟩ := hv
      refine r_icmp_ge (tgt := 87) hx hb dX7_weigh_59 (by decide) c18 c19 (fun b20 => ?_) (fun b20 => ?_)
      · have hv := hv.1 b20
        exact hX87 v3 v4 M _ _ _ hM hv hw (lv_sub hl [0, 1, 2, 3] rfl)
      · have hv := hv.2 b20
        refine lv_aload_n hx hb dX7_weigh_62 rfl (lv_at hl 0 rfl) ?_
        refine gf_X7_11 hx hb hC hw 168 (gX_168 τ ad M) rfl dX7_weigh_63 ?_
        refine lv_iload hx hb dX7_weigh_66 (lv_at hl 3 rfl) ?_
        obtain ⟨c21, hv⟩ := hv
        obtain ⟨c22, hv⟩ := hv
        refine r_aaldM (f := fun i => some (ad (170 + i))) (v := .ref (ad (170 + v4.toNat))) hx hb hC hw 169 (gR_169 τ ad M) c21 c22 (by decide) rfl dX7_weigh_68 ?_
        refine lv_iload hx hb dX7_weigh_69 (lv_at hl 4 rfl) ?_
        refine lv_aload_n hx hb dX7_weigh_71 rfl (lv_at hl 0 rfl) ?_
        refine lv_aload_n hx hb dX7_weigh_72 rfl (lv_at hl 1 rfl) ?_
        refine lv_iload hx hb dX7_weigh_73 (lv_at hl 3 rfl) ?_
        refine lv_iload hx hb dX7_weigh_75 (lv_at hl 4 rfl) ?_
        obtain ⟨c23, hv⟩ := hv
        refine k_cVi (wq_X τ ad) hx hb hml hC hLS hA hw hl.1 (mX7_mostFrom l D τ ad sA sV _ k1 v4 v5 hk1 c23 c18 M hM _ hv) kX7_mostFrom ml_X7_28 rfl (gX_168 τ ad M) rfl rfl (Nat.le_of_ble_eq_true rfl) (rm_ok (by decide) (by decide)) ⟨Nat.zero_le _, Nat.zero_le _⟩ dX7_weigh_77 (fun x24 M24 H locs g24 hM hv hw => ?_)
        have hv := hv g24
        obtain ⟨c25, hv⟩ := hv
        obtain ⟨c26, hv⟩ := hv
        obtain ⟨M27, e27⟩ : ∃ M27 : Mem, M27 = up2 M24 (170 + v4.toNat) v5 x24 := ⟨_, rfl⟩
        have hv := hv M27 e27
        refine r_iast (ws' := (WX τ ad M27)) hx hb hC hw (170 + v4.toNat) (gI_X (XI_most c21 c22) τ ad M24) c25 c26 (by decide) (by rw [e27]; exact sI_X (XI_most c21 c22) τ ad M24 _ _) dX7_weigh_80 (fun H locs hw => ?_)
        have hM : MR M27 := by rw [e27]; exact hM.put (XI_most c21 c22).pos g24
        refine r_iinc (v := (v5 + 1)) (lv' := [(5, .int (iI (v5 + 1))), (0, .ref (ad 168)), (1, .ref (ad k1)), (3, .int (iI v3)), (4, .int (iI v4))]) hx hb dX7_weigh_81 hl (k := 4) rfl rfl (by decide) rfl (fun ls hl => ?_)
        refine lv_goto (tgt := 56) hx hb dX7_weigh_84 (by decide) ?_
        exact ih v3 v4 (v5 + 1) M27 _ _ _ hM hv hw (lv_sub hl [1, 2, 3, 4, 0] rfl)
  have L48 : ∀ (n : Nat) (v3 : Int) (v4 : Int) (M : Mem) (H : Heap) (locs : List Loc) (ls : Array Slot), MR M → qX7_weigh_L48 k1 p2  Q n v3 v4 M → wS D A s.heap (WX τ ad M) H locs → lv_has ls 6 [(0, .ref (ad 168)), (1, .ref (ad k1)), (3, .int (iI v3)), (4, .int (iI v4))] → W p l e (rmk 4 0 0) s m args below meth c H locs 0 0 (MQ below (gQi D (EQi (WX τ ad) MR Q) A) args s 0 0 A) (F0 m 48 ls []) := by
    intro n
    induction n with
    | zero => intro v3 v4 M H locs ls hM hv; rw [qX7_weigh_L48] at hv; exact hv.elim
    | succ n ih =>
      intro v3 v4 M H locs ls hM hv hw hl
      rw [qX7_weigh_L48] at hv
      refine lv_iload hx hb dX7_weigh_48 (lv_at hl 3 rfl) ?_
      obtain ⟨c15, hv⟩ := hv
      refine r_if_lt (tgt := 93) hx hb dX7_weigh_50 (by decide) c15  (fun b16 => ?_) (fun b16 => ?_)
      · have hv := hv.1 b16
        refine lv_aload_n hx hb dX7_weigh_93 rfl (lv_at hl 0 rfl) ?_
        refine gf_X7_11 hx hb hC hw 168 (gX_168 τ ad M) rfl dX7_weigh_94 ?_
        refine r_iconst hx hb dX7_weigh_97 ?_
        refine r_aaldM (f := fun i => some (ad (170 + i))) (v := .ref (ad 170)) hx hb hC hw 169 (gR_169 τ ad M) (by decide) (by decide) (by decide) rfl dX7_weigh_98 ?_
        refine r_iconst hx hb dX7_weigh_99 ?_
        refine r_iald hx hb hC hw 170 (gI_X aX_170 τ ad M) (by decide) (by decide) (by decide) dX7_weigh_100 ?_
        refine r_top (fun x17 e17 => ?_)
        have g17 : iR x17 := by rw [e17]; exact hM.get aX_170.pos _
        have hv := hv x17 e17 g17
        exact k_iret (wq_X τ ad) hx hb hr hlk hw hM g17 hv dX7_weigh_101
      · have hv := hv.2 b16
        refine r_iconst hx hb dX7_weigh_53 ?_
        refine lv_istore (lv' := [(5, .int (iI 0)), (0, .ref (ad 168)), (1, .ref (ad k1)), (3, .int (iI v3)), (4, .int (iI v4))]) hx hb dX7_weigh_54 hl (by decide) rfl (fun ls hl => ?_)
        obtain ⟨n28, hv⟩ := hv
        refine L56 _ ?_ n28 v3 v4 0 M _ _ _ hM hv hw (lv_sub hl [1, 2, 3, 4, 0] rfl)
        · intro v3 v4 M H locs ls hM hv hw hl
          refine r_iinc (v := (v4 + (-1))) (lv' := [(4, .int (iI (v4 + (-1)))), (0, .ref (ad 168)), (1, .ref (ad k1)), (3, .int (iI v3))]) hx hb dX7_weigh_87 hl (k := 3) rfl rfl (by decide) rfl (fun ls hl => ?_)
          refine lv_goto (tgt := 48) hx hb dX7_weigh_90 (by decide) ?_
          exact ih v3 (v4 + (-1)) M _ _ _ hM hv hw (lv_sub hl [1, 2, 3, 0] rfl)
  refine lv_aload_n hx hb dX7_weigh_0 rfl (lv_at hl 0 rfl) ?_
  refine lv_iload_n hx hb dX7_weigh_1 rfl (lv_at hl 2 rfl) ?_
  obtain ⟨M1, e1⟩ : ∃ M1 : Mem, M1 = up2 M 168 1 p2 := ⟨_, rfl⟩
  have hv := hv M1 e1
  refine pf_X7_16 (ws' := (WX τ ad M1)) hx hb hC hw 168 (gX_168 τ ad M) (Nat.le_of_ble_eq_true rfl) (by rw [e1]; exact sX_168_1 τ ad M _) dX7_weigh_2 (fun H locs hw => ?_)
  have hM : MR M1 := by rw [e1]; exact hM.put (by decide) hp2
  refine r_iconst hx hb dX7_weigh_5 ?_
  refine lv_aload_n hx hb dX7_weigh_6 rfl (lv_at hl 1 rfl) ?_
  refine gf_X7_20 hx hb hC hw k1 (gS_X hk1 τ ad M1) rfl dX7_weigh_7 ?_
  refine r_top (fun x2 e2 => ?_)
  have g2 : iR x2 := by rw [e2]; exact hM.get hk1.pos _
  have hv := hv x2 e2 g2
  refine r_ishlF hx hb dX7_weigh_10 (fun x3 e3 g3 => ?_)
  have hv := hv x3 e3 g3
  refine lv_istore_n (lv' := [(3, .int (iI x3)), (0, .ref (ad 168)), (1, .ref (ad k1)), (2, .int (iI p2))]) hx hb dX7_weigh_11 rfl hl (by decide) rfl (fun ls hl => ?_)
  refine r_iconst hx hb dX7_weigh_12 ?_
  refine lv_istore (lv' := [(4, .int (iI 0)), (3, .int (iI x3)), (0, .ref (ad 168)), (1, .ref (ad k1)), (2, .int (iI p2))]) hx hb dX7_weigh_13 hl (by decide) rfl (fun ls hl => ?_)
  obtain ⟨n13, hv⟩ := hv
  refine L15 _ ?_ n13 x3 0 M1 _ _ _ hM hv hw (lv_sub hl [2, 3, 1, 0] rfl)
  · intro v3 M H locs ls hM hv hw hl
    refine lv_aload_n hx hb dX7_weigh_40 rfl (lv_at hl 1 rfl) ?_
    refine gf_X7_25 hx hb hC hw k1 (gS_X hk1 τ ad M) rfl dX7_weigh_41 ?_
    refine r_top (fun x14 e14 => ?_)
    have g14 : iR x14 := by rw [e14]; exact hM.get hk1.pos _
    have hv := hv x14 e14 g14
    refine r_iconst hx hb dX7_weigh_44 ?_
    refine r_isub (z := (x14 - 1)) hx hb dX7_weigh_45 rfl ?_
    refine lv_istore (lv' := [(4, .int (iI (x14 - 1))), (0, .ref (ad 168)), (1, .ref (ad k1)), (3, .int (iI v3))]) hx hb dX7_weigh_46 hl (by decide) rfl (fun ls hl => ?_)
    obtain ⟨n29, hv⟩ := hv
    refine L48  n29 v3 (x14 - 1) M _ _ _ hM hv hw (lv_sub hl [1, 2, 3, 0] rfl)
set_option maxHeartbeats 4000000 in
set_option maxRecDepth 100000 in
theorem mX11_shares (l : Launch) (D : va_G) (τ : Nat → ClassId) (ad : Nat → Nat) (sA sV : Nat → Nat) (sz : Nat) (p1 : Int) (hp1 : iR p1) (M : Mem) (hM : MR M) (Q : Int → Mem → Prop) (hv : qX11_shares p1 M Q) : Met l yX11_shares (lw_w yX11_shares cX11_shares 6 (some .int)) (rmk 5 0 0) (kPc D τ sA sV (WX τ ad M) sz [.ref (ad 155), .int (iI p1)]) (gQi D (EQi (WX τ ad) MR Q) (va_A (WX τ ad M) sz)) 0 0 (va_A (WX τ ad M) sz) := by
  refine k_met (ret := (some .int)) (Qc := gQi D (EQi (WX τ ad) MR Q)) (by decide +kernel) (Nat.le_of_ble_eq_true rfl) ?_
  intro p e s m args below meth c A ls hx hb hml hr hlk hnm hC hLS hA hw hl
  have hC : cx D τ s m args RX11 := hC
  have hl : lv_has ls 6 [(0, .ref (ad 155)), (1, .int (iI p1))] := hl
  unfold qX11_shares at hv
  have J80 : ∀ (R : Int → Int → Int → Mem → Prop), (∀ (v2 : Int) (v3 : Int) (v4 : Int) (M : Mem) (H : Heap) (locs : List Loc) (ls : Array Slot), MR M → R v2 v3 v4 M → wS D A s.heap (WX τ ad M) H locs → lv_has ls 6 [(0, .ref (ad 155)), (2, .int (iI v2)), (3, .int (iI v3)), (4, .int (iI v4))] → W p l e (rmk 5 0 0) s m args below meth c H locs 0 0 (MQ below (gQi D (EQi (WX τ ad) MR Q) A) args s 0 0 A) (F0 m 37 ls [])) → ∀ (v2 : Int) (v4 : Int) (v5 : Int) (t0 : Int) (t1 : Int) (M : Mem) (H : Heap) (locs : List Loc) (ls : Array Slot), MR M → qX11_shares_J80 p1 R  Q v2 v4 v5 t0 t1 M → wS D A s.heap (WX τ ad M) H locs → lv_has ls 6 [(0, .ref (ad 155)), (2, .int (iI v2)), (4, .int (iI v4)), (5, .int (iI v5))] → W p l e (rmk 5 0 0) s m args below meth c H locs 0 0 (MQ below (gQi D (EQi (WX τ ad) MR Q) A) args s 0 0 A) (F0 m 80 ls [.int (iI t0), .int (iI t1)]) := by
    intro R hR  v2 v4 v5 t0 t1 M H locs ls hM hv hw hl
    unfold qX11_shares_J80 at hv
    refine r_iorF hx hb dX11_shares_80 (fun x13 e13 g13 => ?_)
    have hv := hv x13 e13 g13
    refine lv_istore_n (lv' := [(3, .int (iI x13)), (0, .ref (ad 155)), (2, .int (iI v2)), (4, .int (iI v4)), (5, .int (iI v5))]) hx hb dX11_shares_81 rfl hl (by decide) rfl (fun ls hl => ?_)
    refine lv_aload_n hx hb dX11_shares_82 rfl (lv_at hl 1 rfl) ?_
    refine gf_X11_66 hx hb hC hw 155 (gX_155 τ ad M) rfl dX11_shares_83 ?_
    refine lv_iload hx hb dX11_shares_86 (lv_at hl 4 rfl) ?_
    obtain ⟨c14, hv⟩ := hv
    refine r_i2l hx hb dX11_shares_88 c14 ?_
    refine k_cVv (wq_X τ ad) hx hb hml hC hLS hA hw hl.1 (mX4_add l D τ ad sA sV _ v5 (iR_lR c14) M hM _ hv) kX4_add ml_X11_356 rfl (gX_167 τ ad M) rfl rfl (Nat.le_of_ble_eq_true rfl) (rm_ok (by decide) (by decide)) ⟨Nat.zero_le _, Nat.zero_le _⟩ dX11_shares_89 (fun M15 H locs hM hv hw => ?_)
    refine r_iinc (v := (v4 + 1)) (lv' := [(4, .int (iI (v4 + 1))), (3, .int (iI x13)), (0, .ref (ad 155)), (2, .int (iI v2)), (5, .int (iI v5))]) hx hb dX11_shares_92 hl (k := 3) rfl rfl (by decide) rfl (fun ls hl => ?_)
    refine lv_goto (tgt := 37) hx hb dX11_shares_95 (by decide) ?_
    exact hR v2 x13 (v4 + 1) M15 _ _ _ hM hv hw (lv_sub hl [2, 3, 1, 0] rfl)
  have L37 : ∀ (n : Nat) (v2 : Int) (v3 : Int) (v4 : Int) (M : Mem) (H : Heap) (locs : List Loc) (ls : Array Slot), MR M → qX11_shares_L37 p1  Q n v2 v3 v4 M → wS D A s.heap (WX τ ad M) H locs → lv_has ls 6 [(0, .ref (ad 155)), (2, .int (iI v2)), (3, .int (iI v3)), (4, .int (iI v4))] → W p l e (rmk 5 0 0) s m args below meth c H locs 0 0 (MQ below (gQi D (EQi (WX τ ad) MR Q) A) args s 0 0 A) (F0 m 37 ls []) := by
    intro n
    induction n with
    | zero => intro v2 v3 v4 M H locs ls hM hv; rw [qX11_shares_L37] at hv; exact hv.elim
    | succ n ih =>
      intro v2 v3 v4 M H locs ls hM hv hw hl
      rw [qX11_shares_L37] at hv
      refine lv_iload hx hb dX11_shares_37 (lv_at hl 3 rfl) ?_
      refine lv_aload_n hx hb dX11_shares_39 rfl (lv_at hl 0 rfl) ?_
      refine gf_X11_26 hx hb hC hw 155 (gX_155 τ ad M) rfl dX11_shares_40 ?_
      refine gf_X11_191 hx hb hC hw 1 (gS_X (by decide) τ ad M) rfl dX11_shares_43 ?_
      refine r_top (fun x5 e5 => ?_)
      have g5 : iR x5 := by rw [e5]; exact hM.get (by decide) _
      have hv := hv x5 e5 g5
      obtain ⟨c6, hv⟩ := hv
      refine r_icmp_ge (tgt := 98) hx hb dX11_shares_46 (by decide) c6 g5 (fun b7 => ?_) (fun b7 => ?_)
      · have hv := hv.1 b7
        refine lv_iload_n hx hb dX11_shares_98 rfl (lv_at hl 1 rfl) ?_
        obtain ⟨c8, hv⟩ := hv
        exact k_iret (wq_X τ ad) hx hb hr hlk hw hM c8 hv dX11_shares_99
      · have hv := hv.2 b7
        refine lv_aload_n hx hb dX11_shares_49 rfl (lv_at hl 0 rfl) ?_
        refine gf_X11_73 hx hb hC hw 155 (gX_155 τ ad M) rfl dX11_shares_50 ?_
        refine lv_aload_n hx hb dX11_shares_53 rfl (lv_at hl 0 rfl) ?_
        refine gf_X11_26 hx hb hC hw 155 (gX_155 τ ad M) rfl dX11_shares_54 ?_
        refine lv_iload hx hb dX11_shares_57 (lv_at hl 3 rfl) ?_
        refine lv_iload_n hx hb dX11_shares_59 rfl (lv_at hl 2 rfl) ?_
        obtain ⟨c9, hv⟩ := hv
        refine k_cVi (wq_X τ ad) hx hb hml hC hLS hA hw hl.1 (mX7_choice l D τ ad sA sV _ 1 v4 v3 (by decide) c6 c9 M hM _ hv) kX7_choice ml_X11_444 rfl (gX_168 τ ad M) rfl rfl (Nat.le_of_ble_eq_true rfl) (rm_ok (by decide) (by decide)) ⟨Nat.zero_le _, Nat.zero_le _⟩ dX11_shares_60 (fun x10 M10 H locs g10 hM hv hw => ?_)
        have hv := hv g10
        refine lv_istore (lv' := [(5, .int (iI x10)), (0, .ref (ad 155)), (2, .int (iI v2)), (3, .int (iI v3)), (4, .int (iI v4))]) hx hb dX11_shares_63 hl (by decide) rfl (fun ls hl => ?_)
        refine lv_iload_n hx hb dX11_shares_65 rfl (lv_at hl 3 rfl) ?_
        refine lv_iload hx hb dX11_shares_66 (lv_at hl 0 rfl) ?_
        refine r_iconst hx hb dX11_shares_68 ?_
        refine r_icmp_ne (tgt := 76) hx hb dX11_shares_69 (by decide) g10 (by decide) (fun b11 => ?_) (fun b11 => ?_)
        · have hv := hv.1 b11
          refine r_iconst hx hb dX11_shares_76 ?_
          refine lv_iload hx hb dX11_shares_77 (lv_at hl 0 rfl) ?_
          refine r_ishlF hx hb dX11_shares_79 (fun x12 e12 g12 => ?_)
          have hv := hv x12 e12 g12
          exact J80 _ ih  v2 v4 x10 x12 v3 M10 _ _ _ hM hv hw (lv_sub hl [1, 2, 4, 0] rfl)
        · have hv := hv.2 b11
          refine r_iconst hx hb dX11_shares_72 ?_
          refine lv_goto (tgt := 80) hx hb dX11_shares_73 (by decide) ?_
          exact J80 _ ih  v2 v4 x10 0 v3 M10 _ _ _ hM hv hw (lv_sub hl [1, 2, 4, 0] rfl)
  refine lv_iload_n hx hb dX11_shares_0 rfl (lv_at hl 1 rfl) ?_
  refine r_if_lt (tgt := 10) hx hb dX11_shares_1 (by decide) hp1  (fun b1 => ?_) (fun b1 => ?_)
  · have hv := hv.1 b1
    refine r_iconst hx hb dX11_shares_10 ?_
    exact k_iret (wq_X τ ad) hx hb hr hlk hw hM (by decide) hv dX11_shares_11
  · have hv := hv.2 b1
    refine lv_iload_n hx hb dX11_shares_4 rfl (lv_at hl 1 rfl) ?_
    refine r_bipush hx hb dX11_shares_5 (by decide +kernel) ?_
    refine r_icmp_le (tgt := 12) hx hb dX11_shares_7 (by decide) hp1 (by decide) (fun b2 => ?_) (fun b2 => ?_)
    · have hv := hv.1 b2
      refine lv_aload_n hx hb dX11_shares_12 rfl (lv_at hl 0 rfl) ?_
      refine gf_X11_73 hx hb hC hw 155 (gX_155 τ ad M) rfl dX11_shares_13 ?_
      refine lv_aload_n hx hb dX11_shares_16 rfl (lv_at hl 0 rfl) ?_
      refine gf_X11_26 hx hb hC hw 155 (gX_155 τ ad M) rfl dX11_shares_17 ?_
      refine lv_iload_n hx hb dX11_shares_20 rfl (lv_at hl 1 rfl) ?_
      refine k_cVi (wq_X τ ad) hx hb hml hC hLS hA hw hl.1 (mX7_weigh l D τ ad sA sV _ 1 p1 (by decide) hp1 M hM _ hv) kX7_weigh ml_X11_440 rfl (gX_168 τ ad M) rfl rfl (Nat.le_of_ble_eq_true rfl) (rm_ok (by decide) (by decide)) ⟨Nat.zero_le _, Nat.zero_le _⟩ dX11_shares_21 (fun x3 M3 H locs g3 hM hv hw => ?_)
      have hv := hv g3
      refine lv_istore_n (lv' := [(2, .int (iI x3)), (0, .ref (ad 155)), (1, .int (iI p1))]) hx hb dX11_shares_24 rfl hl (by decide) rfl (fun ls hl => ?_)
      refine lv_aload_n hx hb dX11_shares_25 rfl (lv_at hl 1 rfl) ?_
      refine gf_X11_66 hx hb hC hw 155 (gX_155 τ ad M3) rfl dX11_shares_26 ?_
      refine k_cVv (wq_X τ ad) hx hb hml hC hLS hA hw hl.1 (mX4_clear l D τ ad sA sV _   M3 hM _ hv) kX4_clear ml_X11_349 rfl (gX_167 τ ad M3) rfl rfl (Nat.le_of_ble_eq_true rfl) (rm_ok (by decide) (by decide)) ⟨Nat.zero_le _, Nat.zero_le _⟩ dX11_shares_29 (fun M4 H locs hM hv hw => ?_)
      refine r_iconst hx hb dX11_shares_32 ?_
      refine lv_istore_n (lv' := [(3, .int (iI 0)), (2, .int (iI x3)), (0, .ref (ad 155)), (1, .int (iI p1))]) hx hb dX11_shares_33 rfl hl (by decide) rfl (fun ls hl => ?_)
      refine r_iconst hx hb dX11_shares_34 ?_
      refine lv_istore (lv' := [(4, .int (iI 0)), (3, .int (iI 0)), (2, .int (iI x3)), (0, .ref (ad 155)), (1, .int (iI p1))]) hx hb dX11_shares_35 hl (by decide) rfl (fun ls hl => ?_)
      obtain ⟨n16, hv⟩ := hv
      refine L37  n16 x3 0 0 M4 _ _ _ hM hv hw (lv_sub hl [3, 2, 1, 0] rfl)
    · have hv := hv.2 b2
      refine r_iconst hx hb dX11_shares_10 ?_
      exact k_iret (wq_X τ ad) hx hb hr hlk hw hM (by decide) hv dX11_shares_11
set_option maxHeartbeats 4000000 in
set_option maxRecDepth 100000 in
theorem mX11_strangers (l : Launch) (D : va_G) (τ : Nat → ClassId) (ad : Nat → Nat) (sA sV : Nat → Nat) (sz : Nat)   (M : Mem) (hM : MR M) (Q : Int → Mem → Prop) (hv : qX11_strangers  M Q) : Met l yX11_strangers (lw_w yX11_strangers cX11_strangers 6 (some .int)) (rmk 3 0 0) (kPc D τ sA sV (WX τ ad M) sz [.ref (ad 155)]) (gQi D (EQi (WX τ ad) MR Q) (va_A (WX τ ad M) sz)) 0 0 (va_A (WX τ ad M) sz) := by
  refine k_met (ret := (some .int)) (Qc := gQi D (EQi (WX τ ad) MR Q)) (by decide +kernel) (Nat.le_of_ble_eq_true rfl) ?_
  intro p e s m args below meth c A ls hx hb hml hr hlk hnm hC hLS hA hw hl
  have hC : cx D τ s m args RX11 := hC
  have hl : lv_has ls 6 [(0, .ref (ad 155))] := hl
  unfold qX11_strangers at hv
  have J79 : ∀ (R : Int → Int → Int → Mem → Prop), (∀ (v1 : Int) (v2 : Int) (v3 : Int) (M : Mem) (H : Heap) (locs : List Loc) (ls : Array Slot), MR M → R v1 v2 v3 M → wS D A s.heap (WX τ ad M) H locs → lv_has ls 6 [(0, .ref (ad 155)), (1, .int (iI v1)), (2, .int (iI v2)), (3, .int (iI v3))] → W p l e (rmk 3 0 0) s m args below meth c H locs 0 0 (MQ below (gQi D (EQi (WX τ ad) MR Q) A) args s 0 0 A) (F0 m 20 ls [])) → ∀ (X136 : Int → Int → Mem → Prop), (∀ (v1 : Int) (v2 : Int) (M : Mem) (H : Heap) (locs : List Loc) (ls : Array Slot), MR M → X136 v1 v2 M → wS D A s.heap (WX τ ad M) H locs → lv_has ls 6 [(0, .ref (ad 155)), (1, .int (iI v1)), (2, .int (iI v2))] → W p l e (rmk 3 0 0) s m args below meth c H locs 0 0 (MQ below (gQi D (EQi (WX τ ad) MR Q) A) args s 0 0 A) (F0 m 136 ls [])) → ∀ (v1 : Int) (v2 : Int) (v3 : Int) (t0 : Int) (M : Mem) (H : Heap) (locs : List Loc) (ls : Array Slot), MR M → qX11_strangers_J79  R X136 Q v1 v2 v3 t0 M → wS D A s.heap (WX τ ad M) H locs → lv_has ls 6 [(0, .ref (ad 155)), (1, .int (iI v1)), (2, .int (iI v2)), (3, .int (iI v3))] → W p l e (rmk 3 0 0) s m args below meth c H locs 0 0 (MQ below (gQi D (EQi (WX τ ad) MR Q) A) args s 0 0 A) (F0 m 79 ls [.int (iI t0)]) := by
    intro R hR X136 hX136 v1 v2 v3 t0 M H locs ls hM hv hw hl
    unfold qX11_strangers_J79 at hv
    refine lv_istore (lv' := [(4, .int (iI t0)), (0, .ref (ad 155)), (1, .int (iI v1)), (2, .int (iI v2)), (3, .int (iI v3))]) hx hb dX11_strangers_79 hl (by decide) rfl (fun ls hl => ?_)
    refine lv_aload_n hx hb dX11_strangers_81 rfl (lv_at hl 1 rfl) ?_
    refine gf_X11_26 hx hb hC hw 155 (gX_155 τ ad M) rfl dX11_strangers_82 ?_
    refine gf_X11_270 hx hb hC hw 1 (gS_X (by decide) τ ad M) rfl dX11_strangers_85 ?_
    refine lv_iload_n hx hb dX11_strangers_88 rfl (lv_at hl 3 rfl) ?_
    obtain ⟨c10, hv⟩ := hv
    obtain ⟨c11, hv⟩ := hv
    refine r_iald hx hb hC hw 4 (gI_X (isS_f2 (by decide)) τ ad M) c10 c11 (by decide) dX11_strangers_89 ?_
    refine r_top (fun x12 e12 => ?_)
    have g12 : iR x12 := by rw [e12]; exact hM.get (isS_f2 (by decide)).pos _
    have hv := hv x12 e12 g12
    refine lv_aload_n hx hb dX11_strangers_90 rfl (lv_at hl 1 rfl) ?_
    refine gf_X11_26 hx hb hC hw 155 (gX_155 τ ad M) rfl dX11_strangers_91 ?_
    refine gf_X11_270 hx hb hC hw 1 (gS_X (by decide) τ ad M) rfl dX11_strangers_94 ?_
    refine lv_iload_n hx hb dX11_strangers_97 rfl (lv_at hl 4 rfl) ?_
    obtain ⟨c13, hv⟩ := hv
    obtain ⟨c14, hv⟩ := hv
    refine r_iald hx hb hC hw 4 (gI_X (isS_f2 (by decide)) τ ad M) c13 c14 (by decide) dX11_strangers_98 ?_
    refine r_top (fun x15 e15 => ?_)
    have g15 : iR x15 := by rw [e15]; exact hM.get (isS_f2 (by decide)).pos _
    have hv := hv x15 e15 g15
    refine r_isub (z := (x12 - x15)) hx hb dX11_strangers_99 rfl ?_
    obtain ⟨c16, hv⟩ := hv
    refine r_mabs hx hb hml hC hl.1 ml_X11_448 sm_abs in_J9 cd_abs (by decide) (Nat.le_of_ble_eq_true rfl) (Nat.zero_le _) (Nat.zero_le _) c16 dX11_strangers_100 (fun x17 e17 g17 => ?_)
    have hv := hv x17 e17 g17
    refine lv_istore (lv' := [(5, .int (iI x17)), (4, .int (iI t0)), (0, .ref (ad 155)), (1, .int (iI v1)), (2, .int (iI v2)), (3, .int (iI v3))]) hx hb dX11_strangers_103 hl (by decide) rfl (fun ls hl => ?_)
    refine lv_iload hx hb dX11_strangers_105 (lv_at hl 1 rfl) ?_
    obtain ⟨c18, hv⟩ := hv
    refine r_if_eq (tgt := 130) hx hb dX11_strangers_107 (by decide) c18  (fun b19 => ?_) (fun b19 => ?_)
    · have hv := hv.1 b19
      refine r_iinc (v := (v3 + 1)) (lv' := [(3, .int (iI (v3 + 1))), (5, .int (iI x17)), (4, .int (iI t0)), (0, .ref (ad 155)), (1, .int (iI v1)), (2, .int (iI v2))]) hx hb dX11_strangers_130 hl (k := 5) rfl rfl (by decide) rfl (fun ls hl => ?_)
      refine lv_goto (tgt := 20) hx hb dX11_strangers_133 (by decide) ?_
      exact hR v1 v2 (v3 + 1) M _ _ _ hM hv hw (lv_sub hl [3, 4, 5, 0] rfl)
    · have hv := hv.2 b19
      refine lv_iload hx hb dX11_strangers_110 (lv_at hl 0 rfl) ?_
      refine lv_iload_n hx hb dX11_strangers_112 rfl (lv_at hl 3 rfl) ?_
      obtain ⟨c20, hv⟩ := hv
      obtain ⟨c21, hv⟩ := hv
      refine r_icmp_ge (tgt := 130) hx hb dX11_strangers_113 (by decide) c20 c21 (fun b22 => ?_) (fun b22 => ?_)
      · have hv := hv.1 b22
        refine r_iinc (v := (v3 + 1)) (lv' := [(3, .int (iI (v3 + 1))), (5, .int (iI x17)), (4, .int (iI t0)), (0, .ref (ad 155)), (1, .int (iI v1)), (2, .int (iI v2))]) hx hb dX11_strangers_130 hl (k := 5) rfl rfl (by decide) rfl (fun ls hl => ?_)
        refine lv_goto (tgt := 20) hx hb dX11_strangers_133 (by decide) ?_
        exact hR v1 v2 (v3 + 1) M _ _ _ hM hv hw (lv_sub hl [3, 4, 5, 0] rfl)
      · have hv := hv.2 b22
        refine lv_iload hx hb dX11_strangers_116 (lv_at hl 0 rfl) ?_
        refine lv_istore_n (lv' := [(1, .int (iI x17)), (5, .int (iI x17)), (4, .int (iI t0)), (0, .ref (ad 155)), (2, .int (iI v2)), (3, .int (iI v3))]) hx hb dX11_strangers_118 rfl hl (by decide) rfl (fun ls hl => ?_)
        refine lv_aload_n hx hb dX11_strangers_119 rfl (lv_at hl 3 rfl) ?_
        refine gf_X11_66 hx hb hC hw 155 (gX_155 τ ad M) rfl dX11_strangers_120 ?_
        refine lv_iload_n hx hb dX11_strangers_123 rfl (lv_at hl 4 rfl) ?_
        obtain ⟨c23, hv⟩ := hv
        refine r_i2l hx hb dX11_strangers_124 c23 ?_
        refine lv_iload_n hx hb dX11_strangers_125 rfl (lv_at hl 5 rfl) ?_
        obtain ⟨c24, hv⟩ := hv
        refine r_i2l hx hb dX11_strangers_126 c24 ?_
        refine k_cVv (wq_X τ ad) hx hb hml hC hLS hA hw hl.1 (mX4_tellTwo l D τ ad sA sV _ v2 v3 (iR_lR c23) (iR_lR c24) M hM _ hv) kX4_tellTwo ml_X11_298 rfl (gX_167 τ ad M) rfl rfl (Nat.le_of_ble_eq_true rfl) (rm_ok (by decide) (by decide)) ⟨Nat.zero_le _, Nat.zero_le _⟩ dX11_strangers_127 (fun M25 H locs hM hv hw => ?_)
        refine r_iinc (v := (v3 + 1)) (lv' := [(3, .int (iI (v3 + 1))), (1, .int (iI x17)), (5, .int (iI x17)), (4, .int (iI t0)), (0, .ref (ad 155)), (2, .int (iI v2))]) hx hb dX11_strangers_130 hl (k := 5) rfl rfl (by decide) rfl (fun ls hl => ?_)
        refine lv_goto (tgt := 20) hx hb dX11_strangers_133 (by decide) ?_
        exact hR x17 v2 (v3 + 1) M25 _ _ _ hM hv hw (lv_sub hl [4, 1, 5, 0] rfl)
  have J78 : ∀ (R : Int → Int → Int → Mem → Prop), (∀ (v1 : Int) (v2 : Int) (v3 : Int) (M : Mem) (H : Heap) (locs : List Loc) (ls : Array Slot), MR M → R v1 v2 v3 M → wS D A s.heap (WX τ ad M) H locs → lv_has ls 6 [(0, .ref (ad 155)), (1, .int (iI v1)), (2, .int (iI v2)), (3, .int (iI v3))] → W p l e (rmk 3 0 0) s m args below meth c H locs 0 0 (MQ below (gQi D (EQi (WX τ ad) MR Q) A) args s 0 0 A) (F0 m 20 ls [])) → ∀ (X136 : Int → Int → Mem → Prop), (∀ (v1 : Int) (v2 : Int) (M : Mem) (H : Heap) (locs : List Loc) (ls : Array Slot), MR M → X136 v1 v2 M → wS D A s.heap (WX τ ad M) H locs → lv_has ls 6 [(0, .ref (ad 155)), (1, .int (iI v1)), (2, .int (iI v2))] → W p l e (rmk 3 0 0) s m args below meth c H locs 0 0 (MQ below (gQi D (EQi (WX τ ad) MR Q) A) args s 0 0 A) (F0 m 136 ls [])) → ∀ (v1 : Int) (v2 : Int) (v3 : Int) (M : Mem) (H : Heap) (locs : List Loc) (ls : Array Slot), MR M → qX11_strangers_J78  R X136 Q v1 v2 v3 M → wS D A s.heap (WX τ ad M) H locs → lv_has ls 6 [(0, .ref (ad 155)), (1, .int (iI v1)), (2, .int (iI v2)), (3, .int (iI v3))] → W p l e (rmk 3 0 0) s m args below meth c H locs 0 0 (MQ below (gQi D (EQi (WX τ ad) MR Q) A) args s 0 0 A) (F0 m 78 ls []) := by
    intro R hR X136 hX136 v1 v2 v3 M H locs ls hM hv hw hl
    unfold qX11_strangers_J78 at hv
    refine r_iconst hx hb dX11_strangers_78 ?_
    exact J79 _ hR _ hX136 v1 v2 v3 0 M _ _ _ hM hv hw (lv_sub hl [0, 1, 2, 3] rfl)
  have L20 : ∀ (X136 : Int → Int → Mem → Prop), (∀ (v1 : Int) (v2 : Int) (M : Mem) (H : Heap) (locs : List Loc) (ls : Array Slot), MR M → X136 v1 v2 M → wS D A s.heap (WX τ ad M) H locs → lv_has ls 6 [(0, .ref (ad 155)), (1, .int (iI v1)), (2, .int (iI v2))] → W p l e (rmk 3 0 0) s m args below meth c H locs 0 0 (MQ below (gQi D (EQi (WX τ ad) MR Q) A) args s 0 0 A) (F0 m 136 ls [])) → ∀ (n : Nat) (v1 : Int) (v2 : Int) (v3 : Int) (M : Mem) (H : Heap) (locs : List Loc) (ls : Array Slot), MR M → qX11_strangers_L20  X136 Q n v1 v2 v3 M → wS D A s.heap (WX τ ad M) H locs → lv_has ls 6 [(0, .ref (ad 155)), (1, .int (iI v1)), (2, .int (iI v2)), (3, .int (iI v3))] → W p l e (rmk 3 0 0) s m args below meth c H locs 0 0 (MQ below (gQi D (EQi (WX τ ad) MR Q) A) args s 0 0 A) (F0 m 20 ls []) := by
    intro X136 hX136 n
    induction n with
    | zero => intro v1 v2 v3 M H locs ls hM hv; rw [qX11_strangers_L20] at hv; exact hv.elim
    | succ n ih =>
      intro v1 v2 v3 M H locs ls hM hv hw hl
      rw [qX11_strangers_L20] at hv
      refine lv_iload_n hx hb dX11_strangers_20 rfl (lv_at hl 3 rfl) ?_
      refine lv_aload_n hx hb dX11_strangers_21 rfl (lv_at hl 0 rfl) ?_
      refine gf_X11_26 hx hb hC hw 155 (gX_155 τ ad M) rfl dX11_strangers_22 ?_
      refine gf_X11_191 hx hb hC hw 1 (gS_X (by decide) τ ad M) rfl dX11_strangers_25 ?_
      refine r_top (fun x4 e4 => ?_)
      have g4 : iR x4 := by rw [e4]; exact hM.get (by decide) _
      have hv := hv x4 e4 g4
      obtain ⟨c5, hv⟩ := hv
      refine r_icmp_ge (tgt := 136) hx hb dX11_strangers_28 (by decide) c5 g4 (fun b6 => ?_) (fun b6 => ?_)
      · have hv := hv.1 b6
        exact hX136 v1 v2 M _ _ _ hM hv hw (lv_sub hl [0, 1, 2] rfl)
      · have hv := hv.2 b6
        refine lv_aload_n hx hb dX11_strangers_31 rfl (lv_at hl 0 rfl) ?_
        refine gf_X11_26 hx hb hC hw 155 (gX_155 τ ad M) rfl dX11_strangers_32 ?_
        refine lv_iload_n hx hb dX11_strangers_35 rfl (lv_at hl 2 rfl) ?_
        obtain ⟨c7, hv⟩ := hv
        refine k_cVz (wq_X τ ad) hx hb hml hC hLS hA hw hl.1 (mX6_hasEnded l D τ ad sA sV _ 1 v2 (by decide) c7 M hM _ hv) kX6_hasEnded ml_X11_278 rfl (gS_X (by decide) τ ad M) rfl rfl (Nat.le_of_ble_eq_true rfl) (rm_ok (by decide) (by decide)) ⟨Nat.zero_le _, Nat.zero_le _⟩ dX11_strangers_36 (fun x8 M8 H locs g8 z8 hM hv hw => ?_)
        have hv := hv g8 z8
        refine r_if_ne (tgt := 78) hx hb dX11_strangers_39 (by decide) g8  (fun b9 => ?_) (fun b9 => ?_)
        · have hv := hv.1 b9
          exact J78 _ ih _ hX136 v1 v2 v3 M8 _ _ _ hM hv hw (lv_sub hl [0, 1, 2, 3] rfl)
        · have hv := hv.2 b9
          refine lv_aload_n hx hb dX11_strangers_42 rfl (lv_at hl 0 rfl) ?_
          refine gf_X11_26 hx hb hC hw 155 (gX_155 τ ad M8) rfl dX11_strangers_43 ?_
          refine lv_iload_n hx hb dX11_strangers_46 rfl (lv_at hl 3 rfl) ?_
          refine k_cVz (wq_X τ ad) hx hb hml hC hLS hA hw hl.1 (mX6_hasEnded l D τ ad sA sV _ 1 v3 (by decide) c5 M8 hM _ hv) kX6_hasEnded ml_X11_278 rfl (gS_X (by decide) τ ad M8) rfl rfl (Nat.le_of_ble_eq_true rfl) (rm_ok (by decide) (by decide)) ⟨Nat.zero_le _, Nat.zero_le _⟩ dX11_strangers_47 (fun x26 M26 H locs g26 z26 hM hv hw => ?_)
          have hv := hv g26 z26
          refine r_if_ne (tgt := 78) hx hb dX11_strangers_50 (by decide) g26  (fun b27 => ?_) (fun b27 => ?_)
          · have hv := hv.1 b27
            exact J78 _ ih _ hX136 v1 v2 v3 M26 _ _ _ hM hv hw (lv_sub hl [0, 1, 2, 3] rfl)
          · have hv := hv.2 b27
            refine lv_aload_n hx hb dX11_strangers_53 rfl (lv_at hl 0 rfl) ?_
            refine gf_X11_26 hx hb hC hw 155 (gX_155 τ ad M26) rfl dX11_strangers_54 ?_
            refine gf_X11_250 hx hb hC hw 1 (gS_X (by decide) τ ad M26) rfl dX11_strangers_57 ?_
            refine lv_iload_n hx hb dX11_strangers_60 rfl (lv_at hl 2 rfl) ?_
            obtain ⟨c28, hv⟩ := hv
            obtain ⟨c29, hv⟩ := hv
            refine r_iald hx hb hC hw 5 (gI_X (isS_f3 (by decide)) τ ad M26) c28 c29 (by decide) dX11_strangers_61 ?_
            refine r_top (fun x30 e30 => ?_)
            have g30 : iR x30 := by rw [e30]; exact hM.get (isS_f3 (by decide)).pos _
            have hv := hv x30 e30 g30
            refine lv_aload_n hx hb dX11_strangers_62 rfl (lv_at hl 0 rfl) ?_
            refine gf_X11_26 hx hb hC hw 155 (gX_155 τ ad M26) rfl dX11_strangers_63 ?_
            refine gf_X11_250 hx hb hC hw 1 (gS_X (by decide) τ ad M26) rfl dX11_strangers_66 ?_
            refine lv_iload_n hx hb dX11_strangers_69 rfl (lv_at hl 3 rfl) ?_
            obtain ⟨c31, hv⟩ := hv
            obtain ⟨c32, hv⟩ := hv
            refine r_iald hx hb hC hw 5 (gI_X (isS_f3 (by decide)) τ ad M26) c31 c32 (by decide) dX11_strangers_70 ?_
            refine r_top (fun x33 e33 => ?_)
            have g33 : iR x33 := by rw [e33]; exact hM.get (isS_f3 (by decide)).pos _
            have hv := hv x33 e33 g33
            refine r_icmp_eq (tgt := 78) hx hb dX11_strangers_71 (by decide) g30 g33 (fun b34 => ?_) (fun b34 => ?_)
            · have hv := hv.1 b34
              exact J78 _ ih _ hX136 v1 v2 v3 M26 _ _ _ hM hv hw (lv_sub hl [0, 1, 2, 3] rfl)
            · have hv := hv.2 b34
              refine r_iconst hx hb dX11_strangers_74 ?_
              refine lv_goto (tgt := 79) hx hb dX11_strangers_75 (by decide) ?_
              exact J79 _ ih _ hX136 v1 v2 v3 1 M26 _ _ _ hM hv hw (lv_sub hl [0, 1, 2, 3] rfl)
  have L5 : ∀ (X142 : Int → Mem → Prop), (∀ (v1 : Int) (M : Mem) (H : Heap) (locs : List Loc) (ls : Array Slot), MR M → X142 v1 M → wS D A s.heap (WX τ ad M) H locs → lv_has ls 6 [(1, .int (iI v1))] → W p l e (rmk 3 0 0) s m args below meth c H locs 0 0 (MQ below (gQi D (EQi (WX τ ad) MR Q) A) args s 0 0 A) (F0 m 142 ls [])) → ∀ (n : Nat) (v1 : Int) (v2 : Int) (M : Mem) (H : Heap) (locs : List Loc) (ls : Array Slot), MR M → qX11_strangers_L5  X142 Q n v1 v2 M → wS D A s.heap (WX τ ad M) H locs → lv_has ls 6 [(0, .ref (ad 155)), (1, .int (iI v1)), (2, .int (iI v2))] → W p l e (rmk 3 0 0) s m args below meth c H locs 0 0 (MQ below (gQi D (EQi (WX τ ad) MR Q) A) args s 0 0 A) (F0 m 5 ls []) := by
    intro X142 hX142 n
    induction n with
    | zero => intro v1 v2 M H locs ls hM hv; rw [qX11_strangers_L5] at hv; exact hv.elim
    | succ n ih =>
      intro v1 v2 M H locs ls hM hv hw hl
      rw [qX11_strangers_L5] at hv
      refine lv_iload_n hx hb dX11_strangers_5 rfl (lv_at hl 2 rfl) ?_
      refine lv_aload_n hx hb dX11_strangers_6 rfl (lv_at hl 0 rfl) ?_
      refine gf_X11_26 hx hb hC hw 155 (gX_155 τ ad M) rfl dX11_strangers_7 ?_
      refine gf_X11_191 hx hb hC hw 1 (gS_X (by decide) τ ad M) rfl dX11_strangers_10 ?_
      refine r_top (fun x1 e1 => ?_)
      have g1 : iR x1 := by rw [e1]; exact hM.get (by decide) _
      have hv := hv x1 e1 g1
      obtain ⟨c2, hv⟩ := hv
      refine r_icmp_ge (tgt := 142) hx hb dX11_strangers_13 (by decide) c2 g1 (fun b3 => ?_) (fun b3 => ?_)
      · have hv := hv.1 b3
        exact hX142 v1 M _ _ _ hM hv hw (lv_sub hl [1] rfl)
      · have hv := hv.2 b3
        refine lv_iload_n hx hb dX11_strangers_16 rfl (lv_at hl 2 rfl) ?_
        refine r_iconst hx hb dX11_strangers_17 ?_
        refine r_iadd (z := (v2 + 1)) hx hb dX11_strangers_18 rfl ?_
        refine lv_istore_n (lv' := [(3, .int (iI (v2 + 1))), (0, .ref (ad 155)), (1, .int (iI v1)), (2, .int (iI v2))]) hx hb dX11_strangers_19 rfl hl (by decide) rfl (fun ls hl => ?_)
        obtain ⟨n35, hv⟩ := hv
        refine L20 _ ?_ n35 v1 v2 (v2 + 1) M _ _ _ hM hv hw (lv_sub hl [1, 2, 3, 0] rfl)
        · intro v1 v2 M H locs ls hM hv hw hl
          refine r_iinc (v := (v2 + 1)) (lv' := [(2, .int (iI (v2 + 1))), (0, .ref (ad 155)), (1, .int (iI v1))]) hx hb dX11_strangers_136 hl (k := 2) rfl rfl (by decide) rfl (fun ls hl => ?_)
          refine lv_goto (tgt := 5) hx hb dX11_strangers_139 (by decide) ?_
          exact ih v1 (v2 + 1) M _ _ _ hM hv hw (lv_sub hl [1, 2, 0] rfl)
  refine r_bipush hx hb dX11_strangers_0 (by decide +kernel) ?_
  refine lv_istore_n (lv' := [(1, .int (iI 30)), (0, .ref (ad 155))]) hx hb dX11_strangers_2 rfl hl (by decide) rfl (fun ls hl => ?_)
  refine r_iconst hx hb dX11_strangers_3 ?_
  refine lv_istore_n (lv' := [(2, .int (iI 0)), (1, .int (iI 30)), (0, .ref (ad 155))]) hx hb dX11_strangers_4 rfl hl (by decide) rfl (fun ls hl => ?_)
  obtain ⟨n36, hv⟩ := hv
  refine L5 _ ?_ n36 30 0 M _ _ _ hM hv hw (lv_sub hl [2, 1, 0] rfl)
  · intro v1 M H locs ls hM hv hw hl
    refine lv_iload_n hx hb dX11_strangers_142 rfl (lv_at hl 0 rfl) ?_
    refine r_bipush hx hb dX11_strangers_143 (by decide +kernel) ?_
    obtain ⟨c37, hv⟩ := hv
    refine r_icmp_ge (tgt := 152) hx hb dX11_strangers_145 (by decide) c37 (by decide) (fun b38 => ?_) (fun b38 => ?_)
    · have hv := hv.1 b38
      refine r_bipush hx hb dX11_strangers_152 (by decide +kernel) ?_
      exact k_iret (wq_X τ ad) hx hb hr hlk hw hM (by decide) hv dX11_strangers_154
    · have hv := hv.2 b38
      refine lv_iload_n hx hb dX11_strangers_148 rfl (lv_at hl 0 rfl) ?_
      refine lv_goto (tgt := 154) hx hb dX11_strangers_149 (by decide) ?_
      exact k_iret (wq_X τ ad) hx hb hr hlk hw hM c37 hv dX11_strangers_154
set_option maxHeartbeats 4000000 in
set_option maxRecDepth 100000 in
theorem mX6_isInDoubt (l : Launch) (D : va_G) (τ : Nat → ClassId) (ad : Nat → Nat) (sA sV : Nat → Nat) (sz : Nat) (k0 : Nat) (p1 : Int) (hk0 : isS k0) (hp1 : iR p1) (M : Mem) (hM : MR M) (Q : Int → Mem → Prop) (hv : qX6_isInDoubt k0 p1 M Q) : Met l yX6_isInDoubt (lw_w yX6_isInDoubt cX6_isInDoubt 5 (some .boolean)) (rmk 2 0 0) (kPc D τ sA sV (WX τ ad M) sz [.ref (ad k0), .int (iI p1)]) (gQi D (EQz (WX τ ad) MR Q) (va_A (WX τ ad M) sz)) 0 0 (va_A (WX τ ad M) sz) := by
  refine k_met (ret := (some .boolean)) (Qc := gQi D (EQz (WX τ ad) MR Q)) (by decide +kernel) (Nat.le_of_ble_eq_true rfl) ?_
  intro p e s m args below meth c A ls hx hb hml hr hlk hnm hC hLS hA hw hl
  have hC : cx D τ s m args RX6 := hC
  have hl : lv_has ls 5 [(0, .ref (ad k0)), (1, .int (iI p1))] := hl
  unfold qX6_isInDoubt at hv
  refine lv_aload_n hx hb dX6_isInDoubt_0 rfl (lv_at hl 0 rfl) ?_
  refine gf_X6_18 hx hb hC hw k0 (gS_X hk0 τ ad M) rfl dX6_isInDoubt_1 ?_
  refine lv_iload_n hx hb dX6_isInDoubt_4 rfl (lv_at hl 1 rfl) ?_
  obtain ⟨c1, hv⟩ := hv
  obtain ⟨c2, hv⟩ := hv
  refine r_iald hx hb hC hw (k0 + 3) (gI_X (isS_f2 hk0) τ ad M) c1 c2 (by decide) dX6_isInDoubt_5 ?_
  refine r_top (fun x3 e3 => ?_)
  have g3 : iR x3 := by rw [e3]; exact hM.get (isS_f2 hk0).pos _
  have hv := hv x3 e3 g3
  refine lv_istore_n (lv' := [(2, .int (iI x3)), (0, .ref (ad k0)), (1, .int (iI p1))]) hx hb dX6_isInDoubt_6 rfl hl (by decide) rfl (fun ls hl => ?_)
  refine lv_aload_n hx hb dX6_isInDoubt_7 rfl (lv_at hl 1 rfl) ?_
  refine lv_iload_n hx hb dX6_isInDoubt_8 rfl (lv_at hl 0 rfl) ?_
  refine k_cVi (wq_X τ ad) hx hb hml hC hLS hA hw hl.1 (mX6_nearestTo l D τ ad sA sV _ k0 x3 hk0 g3 M hM _ hv) kX6_nearestTo ml_X6_80 rfl (gS_X hk0 τ ad M) rfl rfl (Nat.le_of_ble_eq_true rfl) (rm_ok (by decide) (by decide)) ⟨Nat.zero_le _, Nat.zero_le _⟩ dX6_isInDoubt_9 (fun x4 M4 H locs g4 hM hv hw => ?_)
  have hv := hv g4
  refine lv_istore_n (lv' := [(3, .int (iI x4)), (2, .int (iI x3)), (0, .ref (ad k0)), (1, .int (iI p1))]) hx hb dX6_isInDoubt_12 rfl hl (by decide) rfl (fun ls hl => ?_)
  refine lv_iload_n hx hb dX6_isInDoubt_13 rfl (lv_at hl 0 rfl) ?_
  refine r_iconst hx hb dX6_isInDoubt_14 ?_
  refine r_icmp_ne (tgt := 20) hx hb dX6_isInDoubt_15 (by decide) g4 (by decide) (fun b5 => ?_) (fun b5 => ?_)
  · have hv := hv.1 b5
    refine r_iconst hx hb dX6_isInDoubt_20 ?_
    refine lv_iload_n hx hb dX6_isInDoubt_21 rfl (lv_at hl 1 rfl) ?_
    refine r_imul (z := (2 * x3)) hx hb dX6_isInDoubt_22 rfl ?_
    refine lv_aload_n hx hb dX6_isInDoubt_23 rfl (lv_at hl 2 rfl) ?_
    refine gf_X6_9 hx hb hC hw k0 (gS_X hk0 τ ad M4) rfl dX6_isInDoubt_24 ?_
    refine lv_iload_n hx hb dX6_isInDoubt_27 rfl (lv_at hl 0 rfl) ?_
    obtain ⟨c6, hv⟩ := hv
    obtain ⟨c7, hv⟩ := hv
    refine r_iald hx hb hC hw (k0 + 1) (gI_X (isS_f0 hk0) τ ad M4) c6 c7 (by decide) dX6_isInDoubt_28 ?_
    refine r_top (fun x8 e8 => ?_)
    have g8 : iR x8 := by rw [e8]; exact hM.get (isS_f0 hk0).pos _
    have hv := hv x8 e8 g8
    refine r_isub (z := ((2 * x3) - x8)) hx hb dX6_isInDoubt_29 rfl ?_
    refine lv_istore (lv' := [(4, .int (iI ((2 * x3) - x8))), (3, .int (iI x4)), (2, .int (iI x3)), (0, .ref (ad k0)), (1, .int (iI p1))]) hx hb dX6_isInDoubt_30 hl (by decide) rfl (fun ls hl => ?_)
    refine lv_iload hx hb dX6_isInDoubt_32 (lv_at hl 0 rfl) ?_
    obtain ⟨c9, hv⟩ := hv
    refine r_if_lt (tgt := 62) hx hb dX6_isInDoubt_34 (by decide) c9  (fun b10 => ?_) (fun b10 => ?_)
    · have hv := hv.1 b10
      refine r_iconst hx hb dX6_isInDoubt_62 ?_
      exact k_zret (wq_X τ ad) hx hb hr hlk hw hM (by decide) (by decide) hv dX6_isInDoubt_63
    · have hv := hv.2 b10
      refine lv_iload hx hb dX6_isInDoubt_37 (lv_at hl 0 rfl) ?_
      refine lv_aload_n hx hb dX6_isInDoubt_39 rfl (lv_at hl 3 rfl) ?_
      refine gf_X6_9 hx hb hC hw k0 (gS_X hk0 τ ad M4) rfl dX6_isInDoubt_40 ?_
      refine lv_iload_n hx hb dX6_isInDoubt_43 rfl (lv_at hl 1 rfl) ?_
      refine r_iald hx hb hC hw (k0 + 1) (gI_X (isS_f0 hk0) τ ad M4) c6 c7 (by decide) dX6_isInDoubt_44 ?_
      refine r_top (fun x11 e11 => ?_)
      have g11 : iR x11 := by rw [e11]; exact hM.get (isS_f0 hk0).pos _
      have hv := hv x11 e11 g11
      refine r_icmp_eq (tgt := 62) hx hb dX6_isInDoubt_45 (by decide) c9 g11 (fun b12 => ?_) (fun b12 => ?_)
      · have hv := hv.1 b12
        refine r_iconst hx hb dX6_isInDoubt_62 ?_
        exact k_zret (wq_X τ ad) hx hb hr hlk hw hM (by decide) (by decide) hv dX6_isInDoubt_63
      · have hv := hv.2 b12
        refine lv_aload_n hx hb dX6_isInDoubt_48 rfl (lv_at hl 3 rfl) ?_
        refine lv_iload hx hb dX6_isInDoubt_49 (lv_at hl 0 rfl) ?_
        refine k_cVi (wq_X τ ad) hx hb hml hC hLS hA hw hl.1 (mX6_hearseOn l D τ ad sA sV _ k0 ((2 * x3) - x8) hk0 c9 M4 hM _ hv) kX6_hearseOn ml_X6_83 rfl (gS_X hk0 τ ad M4) rfl rfl (Nat.le_of_ble_eq_true rfl) (rm_ok (by decide) (by decide)) ⟨Nat.zero_le _, Nat.zero_le _⟩ dX6_isInDoubt_51 (fun x13 M13 H locs g13 hM hv hw => ?_)
        have hv := hv g13
        refine r_iconst hx hb dX6_isInDoubt_54 ?_
        refine r_icmp_eq (tgt := 62) hx hb dX6_isInDoubt_55 (by decide) g13 (by decide) (fun b14 => ?_) (fun b14 => ?_)
        · have hv := hv.1 b14
          refine r_iconst hx hb dX6_isInDoubt_62 ?_
          exact k_zret (wq_X τ ad) hx hb hr hlk hw hM (by decide) (by decide) hv dX6_isInDoubt_63
        · have hv := hv.2 b14
          refine r_iconst hx hb dX6_isInDoubt_58 ?_
          refine lv_goto (tgt := 63) hx hb dX6_isInDoubt_59 (by decide) ?_
          exact k_zret (wq_X τ ad) hx hb hr hlk hw hM (by decide) (by decide) hv dX6_isInDoubt_63
  · have hv := hv.2 b5
    refine r_iconst hx hb dX6_isInDoubt_18 ?_
    exact k_zret (wq_X τ ad) hx hb hr hlk hw hM (by decide) (by decide) hv dX6_isInDoubt_19
set_option maxHeartbeats 4000000 in
set_option maxRecDepth 100000 in
theorem mX11_doubts (l : Launch) (D : va_G) (τ : Nat → ClassId) (ad : Nat → Nat) (sA sV : Nat → Nat) (sz : Nat)   (M : Mem) (hM : MR M) (Q : Int → Mem → Prop) (hv : qX11_doubts  M Q) : Met l yX11_doubts (lw_w yX11_doubts cX11_doubts 3 (some .int)) (rmk 3 0 0) (kPc D τ sA sV (WX τ ad M) sz [.ref (ad 155)]) (gQi D (EQi (WX τ ad) MR Q) (va_A (WX τ ad M) sz)) 0 0 (va_A (WX τ ad M) sz) := by
  refine k_met (ret := (some .int)) (Qc := gQi D (EQi (WX τ ad) MR Q)) (by decide +kernel) (Nat.le_of_ble_eq_true rfl) ?_
  intro p e s m args below meth c A ls hx hb hml hr hlk hnm hC hLS hA hw hl
  have hC : cx D τ s m args RX11 := hC
  have hl : lv_has ls 3 [(0, .ref (ad 155))] := hl
  unfold qX11_doubts at hv
  have L4 : ∀ (X42 : Int → Mem → Prop), (∀ (v1 : Int) (M : Mem) (H : Heap) (locs : List Loc) (ls : Array Slot), MR M → X42 v1 M → wS D A s.heap (WX τ ad M) H locs → lv_has ls 3 [(0, .ref (ad 155)), (1, .int (iI v1))] → W p l e (rmk 3 0 0) s m args below meth c H locs 0 0 (MQ below (gQi D (EQi (WX τ ad) MR Q) A) args s 0 0 A) (F0 m 42 ls [])) → ∀ (n : Nat) (v1 : Int) (v2 : Int) (M : Mem) (H : Heap) (locs : List Loc) (ls : Array Slot), MR M → qX11_doubts_L4  X42 Q n v1 v2 M → wS D A s.heap (WX τ ad M) H locs → lv_has ls 3 [(0, .ref (ad 155)), (1, .int (iI v1)), (2, .int (iI v2))] → W p l e (rmk 3 0 0) s m args below meth c H locs 0 0 (MQ below (gQi D (EQi (WX τ ad) MR Q) A) args s 0 0 A) (F0 m 4 ls []) := by
    intro X42 hX42 n
    induction n with
    | zero => intro v1 v2 M H locs ls hM hv; rw [qX11_doubts_L4] at hv; exact hv.elim
    | succ n ih =>
      intro v1 v2 M H locs ls hM hv hw hl
      rw [qX11_doubts_L4] at hv
      refine lv_iload_n hx hb dX11_doubts_4 rfl (lv_at hl 2 rfl) ?_
      refine lv_aload_n hx hb dX11_doubts_5 rfl (lv_at hl 0 rfl) ?_
      refine gf_X11_26 hx hb hC hw 155 (gX_155 τ ad M) rfl dX11_doubts_6 ?_
      refine gf_X11_191 hx hb hC hw 1 (gS_X (by decide) τ ad M) rfl dX11_doubts_9 ?_
      refine r_top (fun x1 e1 => ?_)
      have g1 : iR x1 := by rw [e1]; exact hM.get (by decide) _
      have hv := hv x1 e1 g1
      obtain ⟨c2, hv⟩ := hv
      refine r_icmp_ge (tgt := 42) hx hb dX11_doubts_12 (by decide) c2 g1 (fun b3 => ?_) (fun b3 => ?_)
      · have hv := hv.1 b3
        exact hX42 v1 M _ _ _ hM hv hw (lv_sub hl [0, 1] rfl)
      · have hv := hv.2 b3
        refine lv_iload_n hx hb dX11_doubts_15 rfl (lv_at hl 1 rfl) ?_
        refine lv_aload_n hx hb dX11_doubts_16 rfl (lv_at hl 0 rfl) ?_
        refine gf_X11_26 hx hb hC hw 155 (gX_155 τ ad M) rfl dX11_doubts_17 ?_
        refine lv_iload_n hx hb dX11_doubts_20 rfl (lv_at hl 2 rfl) ?_
        refine k_cVz (wq_X τ ad) hx hb hml hC hLS hA hw hl.1 (mX6_isInDoubt l D τ ad sA sV _ 1 v2 (by decide) c2 M hM _ hv) kX6_isInDoubt ml_X11_451 rfl (gS_X (by decide) τ ad M) rfl rfl (Nat.le_of_ble_eq_true rfl) (rm_ok (by decide) (by decide)) ⟨Nat.zero_le _, Nat.zero_le _⟩ dX11_doubts_21 (fun x4 M4 H locs g4 z4 hM hv hw => ?_)
        have hv := hv g4 z4
        refine r_if_eq (tgt := 33) hx hb dX11_doubts_24 (by decide) g4  (fun b5 => ?_) (fun b5 => ?_)
        · have hv := hv.1 b5
          refine r_iconst hx hb dX11_doubts_33 ?_
          refine r_iorF hx hb dX11_doubts_34 (fun x6 e6 g6 => ?_)
          have hv := hv x6 e6 g6
          refine lv_istore_n (lv' := [(1, .int (iI x6)), (0, .ref (ad 155)), (2, .int (iI v2))]) hx hb dX11_doubts_35 rfl hl (by decide) rfl (fun ls hl => ?_)
          refine r_iinc (v := (v2 + 1)) (lv' := [(2, .int (iI (v2 + 1))), (1, .int (iI x6)), (0, .ref (ad 155))]) hx hb dX11_doubts_36 hl (k := 2) rfl rfl (by decide) rfl (fun ls hl => ?_)
          refine lv_goto (tgt := 4) hx hb dX11_doubts_39 (by decide) ?_
          exact ih x6 (v2 + 1) M4 _ _ _ hM hv hw (lv_sub hl [2, 1, 0] rfl)
        · have hv := hv.2 b5
          refine r_iconst hx hb dX11_doubts_27 ?_
          refine lv_iload_n hx hb dX11_doubts_28 rfl (lv_at hl 2 rfl) ?_
          refine r_ishlF hx hb dX11_doubts_29 (fun x7 e7 g7 => ?_)
          have hv := hv x7 e7 g7
          refine lv_goto (tgt := 34) hx hb dX11_doubts_30 (by decide) ?_
          refine r_iorF hx hb dX11_doubts_34 (fun x8 e8 g8 => ?_)
          have hv := hv x8 e8 g8
          refine lv_istore_n (lv' := [(1, .int (iI x8)), (0, .ref (ad 155)), (2, .int (iI v2))]) hx hb dX11_doubts_35 rfl hl (by decide) rfl (fun ls hl => ?_)
          refine r_iinc (v := (v2 + 1)) (lv' := [(2, .int (iI (v2 + 1))), (1, .int (iI x8)), (0, .ref (ad 155))]) hx hb dX11_doubts_36 hl (k := 2) rfl rfl (by decide) rfl (fun ls hl => ?_)
          refine lv_goto (tgt := 4) hx hb dX11_doubts_39 (by decide) ?_
          exact ih x8 (v2 + 1) M4 _ _ _ hM hv hw (lv_sub hl [2, 1, 0] rfl)
  refine r_iconst hx hb dX11_doubts_0 ?_
  refine lv_istore_n (lv' := [(1, .int (iI 0)), (0, .ref (ad 155))]) hx hb dX11_doubts_1 rfl hl (by decide) rfl (fun ls hl => ?_)
  refine r_iconst hx hb dX11_doubts_2 ?_
  refine lv_istore_n (lv' := [(2, .int (iI 0)), (1, .int (iI 0)), (0, .ref (ad 155))]) hx hb dX11_doubts_3 rfl hl (by decide) rfl (fun ls hl => ?_)
  obtain ⟨n9, hv⟩ := hv
  refine L4 _ ?_ n9 0 0 M _ _ _ hM hv hw (lv_sub hl [2, 1, 0] rfl)
  · intro v1 M H locs ls hM hv hw hl
    refine lv_aload_n hx hb dX11_doubts_42 rfl (lv_at hl 0 rfl) ?_
    refine gf_X11_66 hx hb hC hw 155 (gX_155 τ ad M) rfl dX11_doubts_43 ?_
    refine lv_iload_n hx hb dX11_doubts_46 rfl (lv_at hl 1 rfl) ?_
    obtain ⟨c10, hv⟩ := hv
    refine k_cSi (wq_X τ ad) hx hb hml hC hLS hA hw hl.1 (mJ6_bitCount_0f7a4X l D τ ad sA sV _ v1 c10 M hM _ hv) kJ6_bitCount_0f7a4 ml_X11_389 rfl rfl (Nat.le_of_ble_eq_true rfl) (rm_ok (by decide) (by decide)) ⟨Nat.zero_le _, Nat.zero_le _⟩ dX11_doubts_47 (fun x11 M11 H locs g11 hM hv hw => ?_)
    have hv := hv g11
    refine r_i2l hx hb dX11_doubts_50 g11 ?_
    refine k_cVv (wq_X τ ad) hx hb hml hC hLS hA hw hl.1 (mX4_tellOne l D τ ad sA sV _ x11 (iR_lR g11) M11 hM _ hv) kX4_tellOne ml_X11_366 rfl (gX_167 τ ad M11) rfl rfl (Nat.le_of_ble_eq_true rfl) (rm_ok (by decide) (by decide)) ⟨Nat.zero_le _, Nat.zero_le _⟩ dX11_doubts_51 (fun M12 H locs hM hv hw => ?_)
    refine lv_iload_n hx hb dX11_doubts_54 rfl (lv_at hl 1 rfl) ?_
    exact k_iret (wq_X τ ad) hx hb hr hlk hw hM c10 hv dX11_doubts_55
set_option maxHeartbeats 4000000 in
set_option maxRecDepth 100000 in
theorem mX0_canBe (l : Launch) (D : va_G) (τ : Nat → ClassId) (ad : Nat → Nat) (sA sV : Nat → Nat) (sz : Nat) (p0 : Int) (p1 : Int) (hp0 : iR p0) (hp1 : iR p1) (M : Mem) (hM : MR M) (Q : Int → Mem → Prop) (hv : qX0_canBe p0 p1 M Q) : Met l yX0_canBe (lw_w yX0_canBe cX0_canBe 2 (some .boolean)) (rmk 1 0 0) (kPc D τ sA sV (WX τ ad M) sz [.int (iI p0), .int (iI p1)]) (gQi D (EQz (WX τ ad) MR Q) (va_A (WX τ ad M) sz)) 0 0 (va_A (WX τ ad M) sz) := by
  refine k_met (ret := (some .boolean)) (Qc := gQi D (EQz (WX τ ad) MR Q)) (by decide +kernel) (Nat.le_of_ble_eq_true rfl) ?_
  intro p e s m args below meth c A ls hx hb hml hr hlk hnm hC hLS hA hw hl
  have hC : cx D τ s m args RX0 := hC
  have hl : lv_has ls 2 [(0, .int (iI p0)), (1, .int (iI p1))] := hl
  unfold qX0_canBe at hv
  refine lv_iload_n hx hb dX0_canBe_0 rfl (lv_at hl 0 rfl) ?_
  rcases (show p0 = 0 ∨ p0 = 1 ∨ p0 = 2 ∨ p0 = 3 ∨ (p0 < 0 ∨ 3 < p0) by omega) with b1 | b1 | b1 | b1 | b1
  · refine r_tblI (tgt := 32) hx hb dX0_canBe_1 hp0 (by omega) (by omega) (by rw [b1]; first | done | rfl) (by decide) ?_
    have hv := hv.1 b1
    refine lv_iload_n hx hb dX0_canBe_32 rfl (lv_at hl 1 rfl) ?_
    refine r_if_lt (tgt := 46) hx hb dX0_canBe_33 (by decide) hp1  (fun b2 => ?_) (fun b2 => ?_)
    · have hv := hv.1 b2
      refine r_iconst hx hb dX0_canBe_46 ?_
      exact k_zret (wq_X τ ad) hx hb hr hlk hw hM (by decide) (by decide) hv dX0_canBe_47
    · have hv := hv.2 b2
      refine lv_iload_n hx hb dX0_canBe_36 rfl (lv_at hl 1 rfl) ?_
      refine r_bipush hx hb dX0_canBe_37 (by decide +kernel) ?_
      refine r_icmp_gt (tgt := 46) hx hb dX0_canBe_39 (by decide) hp1 (by decide) (fun b3 => ?_) (fun b3 => ?_)
      · have hv := hv.1 b3
        refine r_iconst hx hb dX0_canBe_46 ?_
        exact k_zret (wq_X τ ad) hx hb hr hlk hw hM (by decide) (by decide) hv dX0_canBe_47
      · have hv := hv.2 b3
        refine r_iconst hx hb dX0_canBe_42 ?_
        refine lv_goto (tgt := 47) hx hb dX0_canBe_43 (by decide) ?_
        exact k_zret (wq_X τ ad) hx hb hr hlk hw hM (by decide) (by decide) hv dX0_canBe_47
  · refine r_tblI (tgt := 48) hx hb dX0_canBe_1 hp0 (by omega) (by omega) (by rw [b1]; first | done | rfl) (by decide) ?_
    have hv := hv.2.1 b1
    refine lv_iload_n hx hb dX0_canBe_48 rfl (lv_at hl 1 rfl) ?_
    refine r_iconst hx hb dX0_canBe_49 ?_
    refine r_icmp_lt (tgt := 63) hx hb dX0_canBe_50 (by decide) hp1 (by decide) (fun b4 => ?_) (fun b4 => ?_)
    · have hv := hv.1 b4
      refine r_iconst hx hb dX0_canBe_63 ?_
      exact k_zret (wq_X τ ad) hx hb hr hlk hw hM (by decide) (by decide) hv dX0_canBe_64
    · have hv := hv.2 b4
      refine lv_iload_n hx hb dX0_canBe_53 rfl (lv_at hl 1 rfl) ?_
      refine r_bipush hx hb dX0_canBe_54 (by decide +kernel) ?_
      refine r_icmp_gt (tgt := 63) hx hb dX0_canBe_56 (by decide) hp1 (by decide) (fun b5 => ?_) (fun b5 => ?_)
      · have hv := hv.1 b5
        refine r_iconst hx hb dX0_canBe_63 ?_
        exact k_zret (wq_X τ ad) hx hb hr hlk hw hM (by decide) (by decide) hv dX0_canBe_64
      · have hv := hv.2 b5
        refine r_iconst hx hb dX0_canBe_59 ?_
        refine lv_goto (tgt := 64) hx hb dX0_canBe_60 (by decide) ?_
        exact k_zret (wq_X τ ad) hx hb hr hlk hw hM (by decide) (by decide) hv dX0_canBe_64
  · refine r_tblI (tgt := 32) hx hb dX0_canBe_1 hp0 (by omega) (by omega) (by rw [b1]; first | done | rfl) (by decide) ?_
    have hv := hv.2.2.1 b1
    refine lv_iload_n hx hb dX0_canBe_32 rfl (lv_at hl 1 rfl) ?_
    refine r_if_lt (tgt := 46) hx hb dX0_canBe_33 (by decide) hp1  (fun b6 => ?_) (fun b6 => ?_)
    · have hv := hv.1 b6
      refine r_iconst hx hb dX0_canBe_46 ?_
      exact k_zret (wq_X τ ad) hx hb hr hlk hw hM (by decide) (by decide) hv dX0_canBe_47
    · have hv := hv.2 b6
      refine lv_iload_n hx hb dX0_canBe_36 rfl (lv_at hl 1 rfl) ?_
      refine r_bipush hx hb dX0_canBe_37 (by decide +kernel) ?_
      refine r_icmp_gt (tgt := 46) hx hb dX0_canBe_39 (by decide) hp1 (by decide) (fun b7 => ?_) (fun b7 => ?_)
      · have hv := hv.1 b7
        refine r_iconst hx hb dX0_canBe_46 ?_
        exact k_zret (wq_X τ ad) hx hb hr hlk hw hM (by decide) (by decide) hv dX0_canBe_47
      · have hv := hv.2 b7
        refine r_iconst hx hb dX0_canBe_42 ?_
        refine lv_goto (tgt := 47) hx hb dX0_canBe_43 (by decide) ?_
        exact k_zret (wq_X τ ad) hx hb hr hlk hw hM (by decide) (by decide) hv dX0_canBe_47
  · refine r_tblI (tgt := 65) hx hb dX0_canBe_1 hp0 (by omega) (by omega) (by rw [b1]; first | done | rfl) (by decide) ?_
    have hv := hv.2.2.2.1 b1
    refine lv_iload_n hx hb dX0_canBe_65 rfl (lv_at hl 1 rfl) ?_
    refine r_if_eq (tgt := 74) hx hb dX0_canBe_66 (by decide) hp1  (fun b8 => ?_) (fun b8 => ?_)
    · have hv := hv.1 b8
      refine r_iconst hx hb dX0_canBe_74 ?_
      refine lv_goto (tgt := 79) hx hb dX0_canBe_75 (by decide) ?_
      exact k_zret (wq_X τ ad) hx hb hr hlk hw hM (by decide) (by decide) hv dX0_canBe_79
    · have hv := hv.2 b8
      refine lv_iload_n hx hb dX0_canBe_69 rfl (lv_at hl 1 rfl) ?_
      refine r_iconst hx hb dX0_canBe_70 ?_
      refine r_icmp_ne (tgt := 78) hx hb dX0_canBe_71 (by decide) hp1 (by decide) (fun b9 => ?_) (fun b9 => ?_)
      · have hv := hv.1 b9
        refine r_iconst hx hb dX0_canBe_78 ?_
        exact k_zret (wq_X τ ad) hx hb hr hlk hw hM (by decide) (by decide) hv dX0_canBe_79
      · have hv := hv.2 b9
        refine r_iconst hx hb dX0_canBe_74 ?_
        refine lv_goto (tgt := 79) hx hb dX0_canBe_75 (by decide) ?_
        exact k_zret (wq_X τ ad) hx hb hr hlk hw hM (by decide) (by decide) hv dX0_canBe_79
  · refine r_tblO (tgt := 80) hx hb dX0_canBe_1 hp0 b1 (by decide) ?_
    have hv := hv.2.2.2.2 b1
    refine r_iconst hx hb dX0_canBe_80 ?_
    exact k_zret (wq_X τ ad) hx hb hr hlk hw hM (by decide) (by decide) hv dX0_canBe_81
set_option maxHeartbeats 4000000 in
set_option maxRecDepth 100000 in
theorem mX0_add (l : Launch) (D : va_G) (τ : Nat → ClassId) (ad : Nat → Nat) (sA sV : Nat → Nat) (sz : Nat) (p1 : Int) (p2 : Int) (hp1 : iR p1) (hp2 : iR p2) (M : Mem) (hM : MR M) (Q : Int → Mem → Prop) (hv : qX0_add p1 p2 M Q) : Met l yX0_add (lw_w yX0_add cX0_add 3 (some .boolean)) (rmk 2 0 0) (kPc D τ sA sV (WX τ ad M) sz [.ref (ad 182), .int (iI p1), .int (iI p2)]) (gQi D (EQz (WX τ ad) MR Q) (va_A (WX τ ad M) sz)) 0 0 (va_A (WX τ ad M) sz) := by
  refine k_met (ret := (some .boolean)) (Qc := gQi D (EQz (WX τ ad) MR Q)) (by decide +kernel) (Nat.le_of_ble_eq_true rfl) ?_
  intro p e s m args below meth c A ls hx hb hml hr hlk hnm hC hLS hA hw hl
  have hC : cx D τ s m args RX0 := hC
  have hl : lv_has ls 3 [(0, .ref (ad 182)), (1, .int (iI p1)), (2, .int (iI p2))] := hl
  unfold qX0_add at hv
  refine lv_aload_n hx hb dX0_add_0 rfl (lv_at hl 0 rfl) ?_
  refine gf_X0_18 hx hb hC hw 182 (gX_182 τ ad M) rfl dX0_add_1 ?_
  refine r_top (fun x1 e1 => ?_)
  have g1 : iR x1 := by rw [e1]; exact hM.get (by decide) _
  have hv := hv x1 e1 g1
  refine r_bipush hx hb dX0_add_4 (by decide +kernel) ?_
  refine r_icmp_ge (tgt := 17) hx hb dX0_add_6 (by decide) g1 (by decide) (fun b2 => ?_) (fun b2 => ?_)
  · have hv := hv.1 b2
    refine r_iconst hx hb dX0_add_17 ?_
    exact k_zret (wq_X τ ad) hx hb hr hlk hw hM (by decide) (by decide) hv dX0_add_18
  · have hv := hv.2 b2
    refine lv_iload_n hx hb dX0_add_9 rfl (lv_at hl 1 rfl) ?_
    refine lv_iload_n hx hb dX0_add_10 rfl (lv_at hl 2 rfl) ?_
    refine k_cSz (wq_X τ ad) hx hb hml hC hLS hA hw hl.1 (mX0_canBe l D τ ad sA sV _ p1 p2 hp1 hp2 M hM _ hv) kX0_canBe ml_X0_22 rfl rfl (Nat.le_of_ble_eq_true rfl) (rm_ok (by decide) (by decide)) ⟨Nat.zero_le _, Nat.zero_le _⟩ dX0_add_11 (fun x3 M3 H locs g3 z3 hM hv hw => ?_)
    have hv := hv g3 z3
    refine r_if_ne (tgt := 19) hx hb dX0_add_14 (by decide) g3  (fun b4 => ?_) (fun b4 => ?_)
    · have hv := hv.1 b4
      refine lv_aload_n hx hb dX0_add_19 rfl (lv_at hl 0 rfl) ?_
      refine gf_X0_9 hx hb hC hw 182 (gX_182 τ ad M3) rfl dX0_add_20 ?_
      refine lv_aload_n hx hb dX0_add_23 rfl (lv_at hl 0 rfl) ?_
      refine gf_X0_18 hx hb hC hw 182 (gX_182 τ ad M3) rfl dX0_add_24 ?_
      refine r_top (fun x5 e5 => ?_)
      have g5 : iR x5 := by rw [e5]; exact hM.get (by decide) _
      have hv := hv x5 e5 g5
      refine lv_iload_n hx hb dX0_add_27 rfl (lv_at hl 1 rfl) ?_
      obtain ⟨c6, hv⟩ := hv
      obtain ⟨c7, hv⟩ := hv
      obtain ⟨M8, e8⟩ : ∃ M8 : Mem, M8 = up2 M3 183 x5 p1 := ⟨_, rfl⟩
      have hv := hv M8 e8
      refine r_iast (ws' := (WX τ ad M8)) hx hb hC hw 183 (gI_X aX_183 τ ad M3) c6 c7 (by decide) (by rw [e8]; exact sI_X aX_183 τ ad M3 _ _) dX0_add_28 (fun H locs hw => ?_)
      have hM : MR M8 := by rw [e8]; exact hM.put aX_183.pos hp1
      refine lv_aload_n hx hb dX0_add_29 rfl (lv_at hl 0 rfl) ?_
      refine gf_X0_15 hx hb hC hw 182 (gX_182 τ ad M8) rfl dX0_add_30 ?_
      refine lv_aload_n hx hb dX0_add_33 rfl (lv_at hl 0 rfl) ?_
      refine gf_X0_18 hx hb hC hw 182 (gX_182 τ ad M8) rfl dX0_add_34 ?_
      refine r_top (fun x9 e9 => ?_)
      have g9 : iR x9 := by rw [e9]; exact hM.get (by decide) _
      have hv := hv x9 e9 g9
      refine lv_iload_n hx hb dX0_add_37 rfl (lv_at hl 2 rfl) ?_
      obtain ⟨c10, hv⟩ := hv
      obtain ⟨c11, hv⟩ := hv
      obtain ⟨M12, e12⟩ : ∃ M12 : Mem, M12 = up2 M8 184 x9 p2 := ⟨_, rfl⟩
      have hv := hv M12 e12
      refine r_iast (ws' := (WX τ ad M12)) hx hb hC hw 184 (gI_X aX_184 τ ad M8) c10 c11 (by decide) (by rw [e12]; exact sI_X aX_184 τ ad M8 _ _) dX0_add_38 (fun H locs hw => ?_)
      have hM : MR M12 := by rw [e12]; exact hM.put aX_184.pos hp2
      refine lv_aload_n hx hb dX0_add_39 rfl (lv_at hl 0 rfl) ?_
      refine lv_dup hx hb dX0_add_40 rfl ?_
      refine gf_X0_18 hx hb hC hw 182 (gX_182 τ ad M12) rfl dX0_add_41 ?_
      refine r_top (fun x13 e13 => ?_)
      have g13 : iR x13 := by rw [e13]; exact hM.get (by decide) _
      have hv := hv x13 e13 g13
      refine r_iconst hx hb dX0_add_44 ?_
      refine r_iadd (z := (x13 + 1)) hx hb dX0_add_45 rfl ?_
      obtain ⟨c14, hv⟩ := hv
      obtain ⟨M15, e15⟩ : ∃ M15 : Mem, M15 = up2 M12 182 2 (x13 + 1) := ⟨_, rfl⟩
      have hv := hv M15 e15
      refine pf_X0_18 (ws' := (WX τ ad M15)) hx hb hC hw 182 (gX_182 τ ad M12) (Nat.le_of_ble_eq_true rfl) (by rw [e15]; exact sX_182_2 τ ad M12 _) dX0_add_46 (fun H locs hw => ?_)
      have hM : MR M15 := by rw [e15]; exact hM.put (by decide) c14
      refine r_iconst hx hb dX0_add_49 ?_
      exact k_zret (wq_X τ ad) hx hb hr hlk hw hM (by decide) (by decide) hv dX0_add_50
    · have hv := hv.2 b4
      refine r_iconst hx hb dX0_add_17 ?_
      exact k_zret (wq_X τ ad) hx hb hr hlk hw hM (by decide) (by decide) hv dX0_add_18
set_option maxHeartbeats 4000000 in
set_option maxRecDepth 100000 in
theorem mX11_heard (l : Launch) (D : va_G) (τ : Nat → ClassId) (ad : Nat → Nat) (sA sV : Nat → Nat) (sz : Nat) (p1 : Int) (p2 : Int) (hp1 : iR p1) (hp2 : iR p2) (M : Mem) (hM : MR M) (Q : Int → Mem → Prop) (hv : qX11_heard p1 p2 M Q) : Met l yX11_heard (lw_w yX11_heard cX11_heard 3 (some .int)) (rmk 3 0 0) (kPc D τ sA sV (WX τ ad M) sz [.ref (ad 155), .int (iI p1), .int (iI p2)]) (gQi D (EQi (WX τ ad) MR Q) (va_A (WX τ ad M) sz)) 0 0 (va_A (WX τ ad M) sz) := by
  refine k_met (ret := (some .int)) (Qc := gQi D (EQi (WX τ ad) MR Q)) (by decide +kernel) (Nat.le_of_ble_eq_true rfl) ?_
  intro p e s m args below meth c A ls hx hb hml hr hlk hnm hC hLS hA hw hl
  have hC : cx D τ s m args RX11 := hC
  have hl : lv_has ls 3 [(0, .ref (ad 155)), (1, .int (iI p1)), (2, .int (iI p2))] := hl
  unfold qX11_heard at hv
  refine lv_aload_n hx hb dX11_heard_0 rfl (lv_at hl 0 rfl) ?_
  refine gf_X11_87 hx hb hC hw 155 (gX_155 τ ad M) rfl dX11_heard_1 ?_
  refine lv_iload_n hx hb dX11_heard_4 rfl (lv_at hl 1 rfl) ?_
  refine lv_iload_n hx hb dX11_heard_5 rfl (lv_at hl 2 rfl) ?_
  refine k_cVz (wq_X τ ad) hx hb hml hC hLS hA hw hl.1 (mX0_add l D τ ad sA sV _ p1 p2 hp1 hp2 M hM _ hv) kX0_add ml_X11_454 rfl (gX_182 τ ad M) rfl rfl (Nat.le_of_ble_eq_true rfl) (rm_ok (by decide) (by decide)) ⟨Nat.zero_le _, Nat.zero_le _⟩ dX11_heard_6 (fun x1 M1 H locs g1 z1 hM hv hw => ?_)
  have hv := hv g1 z1
  refine r_if_eq (tgt := 22) hx hb dX11_heard_9 (by decide) g1  (fun b2 => ?_) (fun b2 => ?_)
  · have hv := hv.1 b2
    refine r_iconst hx hb dX11_heard_22 ?_
    exact k_iret (wq_X τ ad) hx hb hr hlk hw hM (by decide) hv dX11_heard_23
  · have hv := hv.2 b2
    refine lv_aload_n hx hb dX11_heard_12 rfl (lv_at hl 0 rfl) ?_
    refine gf_X11_87 hx hb hC hw 155 (gX_155 τ ad M1) rfl dX11_heard_13 ?_
    refine gf_X11_456 hx hb hC hw 182 (gX_182 τ ad M1) rfl dX11_heard_16 ?_
    refine r_top (fun x3 e3 => ?_)
    have g3 : iR x3 := by rw [e3]; exact hM.get (by decide) _
    have hv := hv x3 e3 g3
    refine lv_goto (tgt := 23) hx hb dX11_heard_19 (by decide) ?_
    exact k_iret (wq_X τ ad) hx hb hr hlk hw hM g3 hv dX11_heard_23
set_option maxHeartbeats 4000000 in
set_option maxRecDepth 100000 in
theorem mX11_forget (l : Launch) (D : va_G) (τ : Nat → ClassId) (ad : Nat → Nat) (sA sV : Nat → Nat) (sz : Nat)   (M : Mem) (hM : MR M) (Q : Int → Mem → Prop) (hv : qX11_forget  M Q) : Met l yX11_forget (lw_w yX11_forget cX11_forget 2 (some .int)) (rmk 1 0 0) (kPc D τ sA sV (WX τ ad M) sz [.ref (ad 155)]) (gQi D (EQi (WX τ ad) MR Q) (va_A (WX τ ad M) sz)) 0 0 (va_A (WX τ ad M) sz) := by
  refine k_met (ret := (some .int)) (Qc := gQi D (EQi (WX τ ad) MR Q)) (by decide +kernel) (Nat.le_of_ble_eq_true rfl) ?_
  intro p e s m args below meth c A ls hx hb hml hr hlk hnm hC hLS hA hw hl
  have hC : cx D τ s m args RX11 := hC
  have hl : lv_has ls 2 [(0, .ref (ad 155))] := hl
  unfold qX11_forget at hv
  refine lv_aload_n hx hb dX11_forget_0 rfl (lv_at hl 0 rfl) ?_
  refine gf_X11_87 hx hb hC hw 155 (gX_155 τ ad M) rfl dX11_forget_1 ?_
  refine gf_X11_456 hx hb hC hw 182 (gX_182 τ ad M) rfl dX11_forget_4 ?_
  refine r_top (fun x1 e1 => ?_)
  have g1 : iR x1 := by rw [e1]; exact hM.get (by decide) _
  have hv := hv x1 e1 g1
  refine lv_istore_n (lv' := [(1, .int (iI x1)), (0, .ref (ad 155))]) hx hb dX11_forget_7 rfl hl (by decide) rfl (fun ls hl => ?_)
  refine lv_aload_n hx hb dX11_forget_8 rfl (lv_at hl 1 rfl) ?_
  refine gf_X11_87 hx hb hC hw 155 (gX_155 τ ad M) rfl dX11_forget_9 ?_
  refine r_iconst hx hb dX11_forget_12 ?_
  obtain ⟨M2, e2⟩ : ∃ M2 : Mem, M2 = up2 M 182 2 0 := ⟨_, rfl⟩
  have hv := hv M2 e2
  refine pf_X11_456 (ws' := (WX τ ad M2)) hx hb hC hw 182 (gX_182 τ ad M) (Nat.le_of_ble_eq_true rfl) (by rw [e2]; exact sX_182_2 τ ad M _) dX11_forget_13 (fun H locs hw => ?_)
  have hM : MR M2 := by rw [e2]; exact hM.put (by decide) (by decide)
  refine lv_iload_n hx hb dX11_forget_16 rfl (lv_at hl 0 rfl) ?_
  exact k_iret (wq_X τ ad) hx hb hr hlk hw hM g1 hv dX11_forget_17
set_option maxHeartbeats 4000000 in
set_option maxRecDepth 100000 in
theorem mX0_isOneTrueOf (l : Launch) (D : va_G) (τ : Nat → ClassId) (ad : Nat → Nat) (sA sV : Nat → Nat) (sz : Nat) (k1 : Nat) (p2 : Int) (p3 : Int) (hk1 : isS k1) (hp2 : iR p2) (hp3 : iR p3) (M : Mem) (hM : MR M) (Q : Int → Mem → Prop) (hv : qX0_isOneTrueOf k1 p2 p3 M Q) : Met l yX0_isOneTrueOf (lw_w yX0_isOneTrueOf cX0_isOneTrueOf 4 (some .boolean)) (rmk 2 0 0) (kPc D τ sA sV (WX τ ad M) sz [.ref (ad 182), .ref (ad k1), .int (iI p2), .int (iI p3)]) (gQi D (EQz (WX τ ad) MR Q) (va_A (WX τ ad M) sz)) 0 0 (va_A (WX τ ad M) sz) := by
  refine k_met (ret := (some .boolean)) (Qc := gQi D (EQz (WX τ ad) MR Q)) (by decide +kernel) (Nat.le_of_ble_eq_true rfl) ?_
  intro p e s m args below meth c A ls hx hb hml hr hlk hnm hC hLS hA hw hl
  have hC : cx D τ s m args RX0 := hC
  have hl : lv_has ls 4 [(0, .ref (ad 182)), (1, .ref (ad k1)), (2, .int (iI p2)), (3, .int (iI p3))] := hl
  unfold qX0_isOneTrueOf at hv
  refine lv_aload_n hx hb dX0_isOneTrueOf_0 rfl (lv_at hl 0 rfl) ?_
  refine gf_X0_9 hx hb hC hw 182 (gX_182 τ ad M) rfl dX0_isOneTrueOf_1 ?_
  refine lv_iload_n hx hb dX0_isOneTrueOf_4 rfl (lv_at hl 3 rfl) ?_
  obtain ⟨c1, hv⟩ := hv
  obtain ⟨c2, hv⟩ := hv
  refine r_iald hx hb hC hw 183 (gI_X aX_183 τ ad M) c1 c2 (by decide) dX0_isOneTrueOf_5 ?_
  refine r_top (fun x3 e3 => ?_)
  have g3 : iR x3 := by rw [e3]; exact hM.get aX_183.pos _
  have hv := hv x3 e3 g3
  rcases (show x3 = 0 ∨ x3 = 1 ∨ x3 = 2 ∨ (x3 < 0 ∨ 2 < x3) by omega) with b4 | b4 | b4 | b4
  · refine r_tblI (tgt := 32) hx hb dX0_isOneTrueOf_6 g3 (by omega) (by omega) (by rw [b4]; first | done | rfl) (by decide) ?_
    have hv := hv.1 b4
    refine lv_aload_n hx hb dX0_isOneTrueOf_32 rfl (lv_at hl 1 rfl) ?_
    refine lv_aload_n hx hb dX0_isOneTrueOf_33 rfl (lv_at hl 1 rfl) ?_
    refine gf_X0_30 hx hb hC hw k1 (gS_X hk1 τ ad M) rfl dX0_isOneTrueOf_34 ?_
    refine lv_iload_n hx hb dX0_isOneTrueOf_37 rfl (lv_at hl 2 rfl) ?_
    refine k_cVi (wq_X τ ad) hx hb hml hC hLS hA hw hl.1 (mX6_bitsOf l D τ ad sA sV _ k1 (k1 + 4) p2 hk1 (isS_f3 hk1) hp2 M hM _ hv) kX6_bitsOf ml_X0_35 rfl (gS_X hk1 τ ad M) rfl rfl (Nat.le_of_ble_eq_true rfl) (rm_ok (by decide) (by decide)) ⟨Nat.zero_le _, Nat.zero_le _⟩ dX0_isOneTrueOf_38 (fun x5 M5 H locs g5 hM hv hw => ?_)
    have hv := hv g5
    refine k_cSi (wq_X τ ad) hx hb hml hC hLS hA hw hl.1 (mJ6_bitCount_0f7a4X l D τ ad sA sV _ x5 g5 M5 hM _ hv) kJ6_bitCount_0f7a4 ml_X0_39 rfl rfl (Nat.le_of_ble_eq_true rfl) (rm_ok (by decide) (by decide)) ⟨Nat.zero_le _, Nat.zero_le _⟩ dX0_isOneTrueOf_41 (fun x6 M6 H locs g6 hM hv hw => ?_)
    have hv := hv g6
    refine lv_aload_n hx hb dX0_isOneTrueOf_44 rfl (lv_at hl 0 rfl) ?_
    refine gf_X0_15 hx hb hC hw 182 (gX_182 τ ad M6) rfl dX0_isOneTrueOf_45 ?_
    refine lv_iload_n hx hb dX0_isOneTrueOf_48 rfl (lv_at hl 3 rfl) ?_
    refine r_iald hx hb hC hw 184 (gI_X aX_184 τ ad M6) c1 c2 (by decide) dX0_isOneTrueOf_49 ?_
    refine r_top (fun x7 e7 => ?_)
    have g7 : iR x7 := by rw [e7]; exact hM.get aX_184.pos _
    have hv := hv x7 e7 g7
    refine r_icmp_lt (tgt := 57) hx hb dX0_isOneTrueOf_50 (by decide) g6 g7 (fun b8 => ?_) (fun b8 => ?_)
    · have hv := hv.1 b8
      refine r_iconst hx hb dX0_isOneTrueOf_57 ?_
      exact k_zret (wq_X τ ad) hx hb hr hlk hw hM (by decide) (by decide) hv dX0_isOneTrueOf_58
    · have hv := hv.2 b8
      refine r_iconst hx hb dX0_isOneTrueOf_53 ?_
      refine lv_goto (tgt := 58) hx hb dX0_isOneTrueOf_54 (by decide) ?_
      exact k_zret (wq_X τ ad) hx hb hr hlk hw hM (by decide) (by decide) hv dX0_isOneTrueOf_58
  · refine r_tblI (tgt := 59) hx hb dX0_isOneTrueOf_6 g3 (by omega) (by omega) (by rw [b4]; first | done | rfl) (by decide) ?_
    have hv := hv.2.1 b4
    refine lv_aload_n hx hb dX0_isOneTrueOf_59 rfl (lv_at hl 1 rfl) ?_
    refine gf_X0_45 hx hb hC hw k1 (gS_X hk1 τ ad M) rfl dX0_isOneTrueOf_60 ?_
    refine lv_iload_n hx hb dX0_isOneTrueOf_63 rfl (lv_at hl 2 rfl) ?_
    obtain ⟨c9, hv⟩ := hv
    obtain ⟨c10, hv⟩ := hv
    refine r_iald hx hb hC hw (k1 + 2) (gI_X (isS_f1 hk1) τ ad M) c9 c10 (by decide) dX0_isOneTrueOf_64 ?_
    refine r_top (fun x11 e11 => ?_)
    have g11 : iR x11 := by rw [e11]; exact hM.get (isS_f1 hk1).pos _
    have hv := hv x11 e11 g11
    refine lv_aload_n hx hb dX0_isOneTrueOf_65 rfl (lv_at hl 0 rfl) ?_
    refine gf_X0_15 hx hb hC hw 182 (gX_182 τ ad M) rfl dX0_isOneTrueOf_66 ?_
    refine lv_iload_n hx hb dX0_isOneTrueOf_69 rfl (lv_at hl 3 rfl) ?_
    refine r_iald hx hb hC hw 184 (gI_X aX_184 τ ad M) c1 c2 (by decide) dX0_isOneTrueOf_70 ?_
    refine r_top (fun x12 e12 => ?_)
    have g12 : iR x12 := by rw [e12]; exact hM.get aX_184.pos _
    have hv := hv x12 e12 g12
    refine r_icmp_ne (tgt := 78) hx hb dX0_isOneTrueOf_71 (by decide) g11 g12 (fun b13 => ?_) (fun b13 => ?_)
    · have hv := hv.1 b13
      refine r_iconst hx hb dX0_isOneTrueOf_78 ?_
      exact k_zret (wq_X τ ad) hx hb hr hlk hw hM (by decide) (by decide) hv dX0_isOneTrueOf_79
    · have hv := hv.2 b13
      refine r_iconst hx hb dX0_isOneTrueOf_74 ?_
      refine lv_goto (tgt := 79) hx hb dX0_isOneTrueOf_75 (by decide) ?_
      exact k_zret (wq_X τ ad) hx hb hr hlk hw hM (by decide) (by decide) hv dX0_isOneTrueOf_79
  · refine r_tblI (tgt := 80) hx hb dX0_isOneTrueOf_6 g3 (by omega) (by omega) (by rw [b4]; first | done | rfl) (by decide) ?_
    have hv := hv.2.2.1 b4
    refine lv_aload_n hx hb dX0_isOneTrueOf_80 rfl (lv_at hl 1 rfl) ?_
    refine lv_aload_n hx hb dX0_isOneTrueOf_81 rfl (lv_at hl 1 rfl) ?_
    refine gf_X0_48 hx hb hC hw k1 (gS_X hk1 τ ad M) rfl dX0_isOneTrueOf_82 ?_
    refine lv_iload_n hx hb dX0_isOneTrueOf_85 rfl (lv_at hl 2 rfl) ?_
    refine k_cVi (wq_X τ ad) hx hb hml hC hLS hA hw hl.1 (mX6_bitsOf l D τ ad sA sV _ k1 (k1 + 6) p2 hk1 (isS_f5 hk1) hp2 M hM _ hv) kX6_bitsOf ml_X0_35 rfl (gS_X hk1 τ ad M) rfl rfl (Nat.le_of_ble_eq_true rfl) (rm_ok (by decide) (by decide)) ⟨Nat.zero_le _, Nat.zero_le _⟩ dX0_isOneTrueOf_86 (fun x14 M14 H locs g14 hM hv hw => ?_)
    have hv := hv g14
    refine k_cSi (wq_X τ ad) hx hb hml hC hLS hA hw hl.1 (mJ6_bitCount_0f7a4X l D τ ad sA sV _ x14 g14 M14 hM _ hv) kJ6_bitCount_0f7a4 ml_X0_39 rfl rfl (Nat.le_of_ble_eq_true rfl) (rm_ok (by decide) (by decide)) ⟨Nat.zero_le _, Nat.zero_le _⟩ dX0_isOneTrueOf_89 (fun x15 M15 H locs g15 hM hv hw => ?_)
    have hv := hv g15
    refine lv_aload_n hx hb dX0_isOneTrueOf_92 rfl (lv_at hl 0 rfl) ?_
    refine gf_X0_15 hx hb hC hw 182 (gX_182 τ ad M15) rfl dX0_isOneTrueOf_93 ?_
    refine lv_iload_n hx hb dX0_isOneTrueOf_96 rfl (lv_at hl 3 rfl) ?_
    refine r_iald hx hb hC hw 184 (gI_X aX_184 τ ad M15) c1 c2 (by decide) dX0_isOneTrueOf_97 ?_
    refine r_top (fun x16 e16 => ?_)
    have g16 : iR x16 := by rw [e16]; exact hM.get aX_184.pos _
    have hv := hv x16 e16 g16
    refine r_icmp_lt (tgt := 105) hx hb dX0_isOneTrueOf_98 (by decide) g15 g16 (fun b17 => ?_) (fun b17 => ?_)
    · have hv := hv.1 b17
      refine r_iconst hx hb dX0_isOneTrueOf_105 ?_
      exact k_zret (wq_X τ ad) hx hb hr hlk hw hM (by decide) (by decide) hv dX0_isOneTrueOf_106
    · have hv := hv.2 b17
      refine r_iconst hx hb dX0_isOneTrueOf_101 ?_
      refine lv_goto (tgt := 106) hx hb dX0_isOneTrueOf_102 (by decide) ?_
      exact k_zret (wq_X τ ad) hx hb hr hlk hw hM (by decide) (by decide) hv dX0_isOneTrueOf_106
  · refine r_tblO (tgt := 107) hx hb dX0_isOneTrueOf_6 g3 b4 (by decide) ?_
    have hv := hv.2.2.2 b4
    refine lv_iload_n hx hb dX0_isOneTrueOf_107 rfl (lv_at hl 2 rfl) ?_
    refine r_iconst hx hb dX0_isOneTrueOf_108 ?_
    refine r_iremF hx hb dX0_isOneTrueOf_109 (by decide) (by decide) (fun x18 e18 g18 => ?_)
    have hv := hv x18 e18 g18
    refine lv_aload_n hx hb dX0_isOneTrueOf_110 rfl (lv_at hl 0 rfl) ?_
    refine gf_X0_15 hx hb hC hw 182 (gX_182 τ ad M) rfl dX0_isOneTrueOf_111 ?_
    refine lv_iload_n hx hb dX0_isOneTrueOf_114 rfl (lv_at hl 3 rfl) ?_
    refine r_iald hx hb hC hw 184 (gI_X aX_184 τ ad M) c1 c2 (by decide) dX0_isOneTrueOf_115 ?_
    refine r_top (fun x19 e19 => ?_)
    have g19 : iR x19 := by rw [e19]; exact hM.get aX_184.pos _
    have hv := hv x19 e19 g19
    refine r_icmp_ne (tgt := 123) hx hb dX0_isOneTrueOf_116 (by decide) g18 g19 (fun b20 => ?_) (fun b20 => ?_)
    · have hv := hv.1 b20
      refine r_iconst hx hb dX0_isOneTrueOf_123 ?_
      exact k_zret (wq_X τ ad) hx hb hr hlk hw hM (by decide) (by decide) hv dX0_isOneTrueOf_124
    · have hv := hv.2 b20
      refine r_iconst hx hb dX0_isOneTrueOf_119 ?_
      refine lv_goto (tgt := 124) hx hb dX0_isOneTrueOf_120 (by decide) ?_
      exact k_zret (wq_X τ ad) hx hb hr hlk hw hM (by decide) (by decide) hv dX0_isOneTrueOf_124
set_option maxHeartbeats 4000000 in
set_option maxRecDepth 100000 in
theorem mX0_isTrueOf (l : Launch) (D : va_G) (τ : Nat → ClassId) (ad : Nat → Nat) (sA sV : Nat → Nat) (sz : Nat) (k1 : Nat) (p2 : Int) (hk1 : isS k1) (hp2 : iR p2) (M : Mem) (hM : MR M) (Q : Int → Mem → Prop) (hv : qX0_isTrueOf k1 p2 M Q) : Met l yX0_isTrueOf (lw_w yX0_isTrueOf cX0_isTrueOf 4 (some .boolean)) (rmk 3 0 0) (kPc D τ sA sV (WX τ ad M) sz [.ref (ad 182), .ref (ad k1), .int (iI p2)]) (gQi D (EQz (WX τ ad) MR Q) (va_A (WX τ ad M) sz)) 0 0 (va_A (WX τ ad M) sz) := by
  refine k_met (ret := (some .boolean)) (Qc := gQi D (EQz (WX τ ad) MR Q)) (by decide +kernel) (Nat.le_of_ble_eq_true rfl) ?_
  intro p e s m args below meth c A ls hx hb hml hr hlk hnm hC hLS hA hw hl
  have hC : cx D τ s m args RX0 := hC
  have hl : lv_has ls 4 [(0, .ref (ad 182)), (1, .ref (ad k1)), (2, .int (iI p2))] := hl
  unfold qX0_isTrueOf at hv
  have L2 : ∀ (n : Nat) (v3 : Int) (M : Mem) (H : Heap) (locs : List Loc) (ls : Array Slot), MR M → qX0_isTrueOf_L2 k1 p2  Q n v3 M → wS D A s.heap (WX τ ad M) H locs → lv_has ls 4 [(0, .ref (ad 182)), (1, .ref (ad k1)), (2, .int (iI p2)), (3, .int (iI v3))] → W p l e (rmk 3 0 0) s m args below meth c H locs 0 0 (MQ below (gQi D (EQz (WX τ ad) MR Q) A) args s 0 0 A) (F0 m 2 ls []) := by
    intro n
    induction n with
    | zero => intro v3 M H locs ls hM hv; rw [qX0_isTrueOf_L2] at hv; exact hv.elim
    | succ n ih =>
      intro v3 M H locs ls hM hv hw hl
      rw [qX0_isTrueOf_L2] at hv
      refine lv_iload_n hx hb dX0_isTrueOf_2 rfl (lv_at hl 3 rfl) ?_
      refine lv_aload_n hx hb dX0_isTrueOf_3 rfl (lv_at hl 0 rfl) ?_
      refine gf_X0_18 hx hb hC hw 182 (gX_182 τ ad M) rfl dX0_isTrueOf_4 ?_
      refine r_top (fun x1 e1 => ?_)
      have g1 : iR x1 := by rw [e1]; exact hM.get (by decide) _
      have hv := hv x1 e1 g1
      obtain ⟨c2, hv⟩ := hv
      refine r_icmp_ge (tgt := 28) hx hb dX0_isTrueOf_7 (by decide) c2 g1 (fun b3 => ?_) (fun b3 => ?_)
      · have hv := hv.1 b3
        refine r_iconst hx hb dX0_isTrueOf_28 ?_
        exact k_zret (wq_X τ ad) hx hb hr hlk hw hM (by decide) (by decide) hv dX0_isTrueOf_29
      · have hv := hv.2 b3
        refine lv_aload_n hx hb dX0_isTrueOf_10 rfl (lv_at hl 0 rfl) ?_
        refine lv_aload_n hx hb dX0_isTrueOf_11 rfl (lv_at hl 1 rfl) ?_
        refine lv_iload_n hx hb dX0_isTrueOf_12 rfl (lv_at hl 2 rfl) ?_
        refine lv_iload_n hx hb dX0_isTrueOf_13 rfl (lv_at hl 3 rfl) ?_
        refine k_cVz (wq_X τ ad) hx hb hml hC hLS hA hw hl.1 (mX0_isOneTrueOf l D τ ad sA sV _ k1 p2 v3 hk1 hp2 c2 M hM _ hv) kX0_isOneTrueOf ml_X0_26 rfl (gX_182 τ ad M) rfl rfl (Nat.le_of_ble_eq_true rfl) (rm_ok (by decide) (by decide)) ⟨Nat.zero_le _, Nat.zero_le _⟩ dX0_isTrueOf_14 (fun x4 M4 H locs g4 z4 hM hv hw => ?_)
        have hv := hv g4 z4
        refine r_if_ne (tgt := 22) hx hb dX0_isTrueOf_17 (by decide) g4  (fun b5 => ?_) (fun b5 => ?_)
        · have hv := hv.1 b5
          refine r_iinc (v := (v3 + 1)) (lv' := [(3, .int (iI (v3 + 1))), (0, .ref (ad 182)), (1, .ref (ad k1)), (2, .int (iI p2))]) hx hb dX0_isTrueOf_22 hl (k := 3) rfl rfl (by decide) rfl (fun ls hl => ?_)
          refine lv_goto (tgt := 2) hx hb dX0_isTrueOf_25 (by decide) ?_
          exact ih (v3 + 1) M4 _ _ _ hM hv hw (lv_sub hl [1, 2, 3, 0] rfl)
        · have hv := hv.2 b5
          refine r_iconst hx hb dX0_isTrueOf_20 ?_
          exact k_zret (wq_X τ ad) hx hb hr hlk hw hM (by decide) (by decide) hv dX0_isTrueOf_21
  refine r_iconst hx hb dX0_isTrueOf_0 ?_
  refine lv_istore_n (lv' := [(3, .int (iI 0)), (0, .ref (ad 182)), (1, .ref (ad k1)), (2, .int (iI p2))]) hx hb dX0_isTrueOf_1 rfl hl (by decide) rfl (fun ls hl => ?_)
  obtain ⟨n6, hv⟩ := hv
  refine L2  n6 0 M _ _ _ hM hv hw (lv_sub hl [1, 2, 3, 0] rfl)
set_option maxHeartbeats 4000000 in
set_option maxRecDepth 100000 in
theorem mX11_fits (l : Launch) (D : va_G) (τ : Nat → ClassId) (ad : Nat → Nat) (sA sV : Nat → Nat) (sz : Nat)   (M : Mem) (hM : MR M) (Q : Int → Mem → Prop) (hv : qX11_fits  M Q) : Met l yX11_fits (lw_w yX11_fits cX11_fits 3 (some .int)) (rmk 6 0 0) (kPc D τ sA sV (WX τ ad M) sz [.ref (ad 155)]) (gQi D (EQi (WX τ ad) MR Q) (va_A (WX τ ad M) sz)) 0 0 (va_A (WX τ ad M) sz) := by
  refine k_met (ret := (some .int)) (Qc := gQi D (EQi (WX τ ad) MR Q)) (by decide +kernel) (Nat.le_of_ble_eq_true rfl) ?_
  intro p e s m args below meth c A ls hx hb hml hr hlk hnm hC hLS hA hw hl
  have hC : cx D τ s m args RX11 := hC
  have hl : lv_has ls 3 [(0, .ref (ad 155))] := hl
  unfold qX11_fits at hv
  have L33 : ∀ (X75 : Int → Mem → Prop), (∀ (v1 : Int) (M : Mem) (H : Heap) (locs : List Loc) (ls : Array Slot), MR M → X75 v1 M → wS D A s.heap (WX τ ad M) H locs → lv_has ls 3 [(0, .ref (ad 155)), (1, .int (iI v1))] → W p l e (rmk 6 0 0) s m args below meth c H locs 0 0 (MQ below (gQi D (EQi (WX τ ad) MR Q) A) args s 0 0 A) (F0 m 75 ls [])) → ∀ (n : Nat) (v1 : Int) (v2 : Int) (M : Mem) (H : Heap) (locs : List Loc) (ls : Array Slot), MR M → qX11_fits_L33  X75 Q n v1 v2 M → wS D A s.heap (WX τ ad M) H locs → lv_has ls 3 [(0, .ref (ad 155)), (1, .int (iI v1)), (2, .int (iI v2))] → W p l e (rmk 6 0 0) s m args below meth c H locs 0 0 (MQ below (gQi D (EQi (WX τ ad) MR Q) A) args s 0 0 A) (F0 m 33 ls []) := by
    intro X75 hX75 n
    induction n with
    | zero => intro v1 v2 M H locs ls hM hv; rw [qX11_fits_L33] at hv; exact hv.elim
    | succ n ih =>
      intro v1 v2 M H locs ls hM hv hw hl
      rw [qX11_fits_L33] at hv
      refine lv_iload_n hx hb dX11_fits_33 rfl (lv_at hl 2 rfl) ?_
      refine lv_aload_n hx hb dX11_fits_34 rfl (lv_at hl 0 rfl) ?_
      refine gf_X11_30 hx hb hC hw 155 (gX_155 τ ad M) rfl dX11_fits_35 ?_
      refine gf_X11_176 hx hb hC hw 8 (gS_X (by decide) τ ad M) rfl dX11_fits_38 ?_
      refine r_top (fun x4 e4 => ?_)
      have g4 : iR x4 := by rw [e4]; exact hM.get (by decide) _
      have hv := hv x4 e4 g4
      obtain ⟨c5, hv⟩ := hv
      refine r_icmp_ge (tgt := 75) hx hb dX11_fits_41 (by decide) c5 g4 (fun b6 => ?_) (fun b6 => ?_)
      · have hv := hv.1 b6
        exact hX75 v1 M _ _ _ hM hv hw (lv_sub hl [0, 1] rfl)
      · have hv := hv.2 b6
        refine lv_iload_n hx hb dX11_fits_44 rfl (lv_at hl 1 rfl) ?_
        refine lv_aload_n hx hb dX11_fits_45 rfl (lv_at hl 0 rfl) ?_
        refine gf_X11_87 hx hb hC hw 155 (gX_155 τ ad M) rfl dX11_fits_46 ?_
        refine lv_aload_n hx hb dX11_fits_49 rfl (lv_at hl 0 rfl) ?_
        refine gf_X11_30 hx hb hC hw 155 (gX_155 τ ad M) rfl dX11_fits_50 ?_
        refine lv_iload_n hx hb dX11_fits_53 rfl (lv_at hl 2 rfl) ?_
        refine k_cVz (wq_X τ ad) hx hb hml hC hLS hA hw hl.1 (mX0_isTrueOf l D τ ad sA sV _ 8 v2 (by decide) c5 M hM _ hv) kX0_isTrueOf ml_X11_457 rfl (gX_182 τ ad M) rfl rfl (Nat.le_of_ble_eq_true rfl) (rm_ok (by decide) (by decide)) ⟨Nat.zero_le _, Nat.zero_le _⟩ dX11_fits_54 (fun x7 M7 H locs g7 z7 hM hv hw => ?_)
        have hv := hv g7 z7
        refine r_if_eq (tgt := 66) hx hb dX11_fits_57 (by decide) g7  (fun b8 => ?_) (fun b8 => ?_)
        · have hv := hv.1 b8
          refine r_iconst hx hb dX11_fits_66 ?_
          refine r_iorF hx hb dX11_fits_67 (fun x9 e9 g9 => ?_)
          have hv := hv x9 e9 g9
          refine lv_istore_n (lv' := [(1, .int (iI x9)), (0, .ref (ad 155)), (2, .int (iI v2))]) hx hb dX11_fits_68 rfl hl (by decide) rfl (fun ls hl => ?_)
          refine r_iinc (v := (v2 + 1)) (lv' := [(2, .int (iI (v2 + 1))), (1, .int (iI x9)), (0, .ref (ad 155))]) hx hb dX11_fits_69 hl (k := 2) rfl rfl (by decide) rfl (fun ls hl => ?_)
          refine lv_goto (tgt := 33) hx hb dX11_fits_72 (by decide) ?_
          exact ih x9 (v2 + 1) M7 _ _ _ hM hv hw (lv_sub hl [2, 1, 0] rfl)
        · have hv := hv.2 b8
          refine r_iconst hx hb dX11_fits_60 ?_
          refine lv_iload_n hx hb dX11_fits_61 rfl (lv_at hl 2 rfl) ?_
          refine r_ishlF hx hb dX11_fits_62 (fun x10 e10 g10 => ?_)
          have hv := hv x10 e10 g10
          refine lv_goto (tgt := 67) hx hb dX11_fits_63 (by decide) ?_
          refine r_iorF hx hb dX11_fits_67 (fun x11 e11 g11 => ?_)
          have hv := hv x11 e11 g11
          refine lv_istore_n (lv' := [(1, .int (iI x11)), (0, .ref (ad 155)), (2, .int (iI v2))]) hx hb dX11_fits_68 rfl hl (by decide) rfl (fun ls hl => ?_)
          refine r_iinc (v := (v2 + 1)) (lv' := [(2, .int (iI (v2 + 1))), (1, .int (iI x11)), (0, .ref (ad 155))]) hx hb dX11_fits_69 hl (k := 2) rfl rfl (by decide) rfl (fun ls hl => ?_)
          refine lv_goto (tgt := 33) hx hb dX11_fits_72 (by decide) ?_
          exact ih x11 (v2 + 1) M7 _ _ _ hM hv hw (lv_sub hl [2, 1, 0] rfl)
  refine lv_aload_n hx hb dX11_fits_0 rfl (lv_at hl 0 rfl) ?_
  refine gf_X11_30 hx hb hC hw 155 (gX_155 τ ad M) rfl dX11_fits_1 ?_
  refine lv_aload_n hx hb dX11_fits_4 rfl (lv_at hl 0 rfl) ?_
  refine gf_X11_26 hx hb hC hw 155 (gX_155 τ ad M) rfl dX11_fits_5 ?_
  refine k_cVv (wq_X τ ad) hx hb hml hC hLS hA hw hl.1 (mX6_copyFrom l D τ ad sA sV _ 8 1 (by decide) (by decide) M hM _ hv) kX6_copyFrom ml_X11_153 rfl (gS_X (by decide) τ ad M) rfl rfl (Nat.le_of_ble_eq_true rfl) (rm_ok (by decide) (by decide)) ⟨Nat.zero_le _, Nat.zero_le _⟩ dX11_fits_8 (fun M1 H locs hM hv hw => ?_)
  refine lv_aload_n hx hb dX11_fits_11 rfl (lv_at hl 0 rfl) ?_
  refine gf_X11_44 hx hb hC hw 155 (gX_155 τ ad M1) rfl dX11_fits_12 ?_
  refine lv_aload_n hx hb dX11_fits_15 rfl (lv_at hl 0 rfl) ?_
  refine gf_X11_30 hx hb hC hw 155 (gX_155 τ ad M1) rfl dX11_fits_16 ?_
  refine lv_aload_n hx hb dX11_fits_19 rfl (lv_at hl 0 rfl) ?_
  refine gf_X11_105 hx hb hC hw 155 (gX_155 τ ad M1) rfl dX11_fits_20 ?_
  obtain ⟨c2, hv⟩ := hv
  refine r_sipush hx hb dX11_fits_23 (by decide +kernel) ?_
  refine k_cVv (wq_X τ ad) hx hb hml hC hLS hA hw hl.1 (mX10_walk l D τ ad sA sV _ 8 (M1 155 16).toNat 200 (by decide) c2 (by decide) M1 hM _ hv) kX10_walk ml_X11_288 rfl (gX_160 τ ad M1) rfl rfl (Nat.le_of_ble_eq_true rfl) (rm_ok (by decide) (by decide)) ⟨Nat.zero_le _, Nat.zero_le _⟩ dX11_fits_26 (fun M3 H locs hM hv hw => ?_)
  refine r_iconst hx hb dX11_fits_29 ?_
  refine lv_istore_n (lv' := [(1, .int (iI 0)), (0, .ref (ad 155))]) hx hb dX11_fits_30 rfl hl (by decide) rfl (fun ls hl => ?_)
  refine r_iconst hx hb dX11_fits_31 ?_
  refine lv_istore_n (lv' := [(2, .int (iI 0)), (1, .int (iI 0)), (0, .ref (ad 155))]) hx hb dX11_fits_32 rfl hl (by decide) rfl (fun ls hl => ?_)
  obtain ⟨n12, hv⟩ := hv
  refine L33 _ ?_ n12 0 0 M3 _ _ _ hM hv hw (lv_sub hl [2, 1, 0] rfl)
  · intro v1 M H locs ls hM hv hw hl
    refine lv_aload_n hx hb dX11_fits_75 rfl (lv_at hl 0 rfl) ?_
    refine gf_X11_66 hx hb hC hw 155 (gX_155 τ ad M) rfl dX11_fits_76 ?_
    refine lv_iload_n hx hb dX11_fits_79 rfl (lv_at hl 1 rfl) ?_
    obtain ⟨c13, hv⟩ := hv
    refine k_cSi (wq_X τ ad) hx hb hml hC hLS hA hw hl.1 (mJ6_bitCount_0f7a4X l D τ ad sA sV _ v1 c13 M hM _ hv) kJ6_bitCount_0f7a4 ml_X11_389 rfl rfl (Nat.le_of_ble_eq_true rfl) (rm_ok (by decide) (by decide)) ⟨Nat.zero_le _, Nat.zero_le _⟩ dX11_fits_80 (fun x14 M14 H locs g14 hM hv hw => ?_)
    have hv := hv g14
    refine r_i2l hx hb dX11_fits_83 g14 ?_
    refine k_cVv (wq_X τ ad) hx hb hml hC hLS hA hw hl.1 (mX4_tellOne l D τ ad sA sV _ x14 (iR_lR g14) M14 hM _ hv) kX4_tellOne ml_X11_366 rfl (gX_167 τ ad M14) rfl rfl (Nat.le_of_ble_eq_true rfl) (rm_ok (by decide) (by decide)) ⟨Nat.zero_le _, Nat.zero_le _⟩ dX11_fits_84 (fun M15 H locs hM hv hw => ?_)
    refine lv_iload_n hx hb dX11_fits_87 rfl (lv_at hl 1 rfl) ?_
    exact k_iret (wq_X τ ad) hx hb hr hlk hw hM c13 hv dX11_fits_88
set_option maxHeartbeats 4000000 in
set_option maxRecDepth 100000 in
theorem mX11_commonDivisor (l : Launch) (D : va_G) (τ : Nat → ClassId) (ad : Nat → Nat) (sA sV : Nat → Nat) (sz : Nat) (p0 : Int) (p2 : Int) (hp0 : lR p0) (hp2 : lR p2) (M : Mem) (hM : MR M) (Q : Int → Mem → Prop) (hv : qX11_commonDivisor p0 p2 M Q) : Met l yX11_commonDivisor (lw_w yX11_commonDivisor cX11_commonDivisor 11 (some .long)) (rmk 1 0 0) (kPc D τ sA sV (WX τ ad M) sz [.long (lI p0), .long (lI p2)]) (gQl D (EQi (WX τ ad) MR Q) (va_A (WX τ ad M) sz)) 0 0 (va_A (WX τ ad M) sz) := by
  refine k_met (ret := (some .long)) (Qc := gQl D (EQi (WX τ ad) MR Q)) (by decide +kernel) (Nat.le_of_ble_eq_true rfl) ?_
  intro p e s m args below meth c A ls hx hb hml hr hlk hnm hC hLS hA hw hl
  have hC : cx D τ s m args RX11 := hC
  have hl : lv_has ls 11 [(0, .long (lI p0)), (2, .long (lI p2))] := hl
  unfold qX11_commonDivisor at hv
  have L9 : ∀ (n : Nat) (v4 : Int) (v6 : Int) (v8 : Int) (M : Mem) (H : Heap) (locs : List Loc) (ls : Array Slot), MR M → qX11_commonDivisor_L9 p0 p2  Q n v4 v6 v8 M → wS D A s.heap (WX τ ad M) H locs → lv_has ls 11 [(4, .long (lI v4)), (6, .long (lI v6)), (8, .int (iI v8))] → W p l e (rmk 1 0 0) s m args below meth c H locs 0 0 (MQ below (gQl D (EQi (WX τ ad) MR Q) A) args s 0 0 A) (F0 m 9 ls []) := by
    intro n
    induction n with
    | zero => intro v4 v6 v8 M H locs ls hM hv; rw [qX11_commonDivisor_L9] at hv; exact hv.elim
    | succ n ih =>
      intro v4 v6 v8 M H locs ls hM hv hw hl
      rw [qX11_commonDivisor_L9] at hv
      refine lv_iload hx hb dX11_commonDivisor_9 (lv_at hl 2 rfl) ?_
      refine r_bipush hx hb dX11_commonDivisor_11 (by decide +kernel) ?_
      obtain ⟨c1, hv⟩ := hv
      refine r_icmp_ge (tgt := 44) hx hb dX11_commonDivisor_13 (by decide) c1 (by decide) (fun b2 => ?_) (fun b2 => ?_)
      · have hv := hv.1 b2
        refine lv_lload hx hb dX11_commonDivisor_44 (lv_at hl 0 rfl) ?_
        obtain ⟨c3, hv⟩ := hv
        exact k_lret (wq_X τ ad) hx hb hr hlk hw hM c3 hv dX11_commonDivisor_46
      · have hv := hv.2 b2
        refine lv_lload hx hb dX11_commonDivisor_16 (lv_at hl 1 rfl) ?_
        refine r_lconst (z := 0) hx hb dX11_commonDivisor_18 (by decide +kernel) ?_
        obtain ⟨c4, hv⟩ := hv
        refine r_lcmp hx hb c4 (by decide) dX11_commonDivisor_19 (fun x5 g5 e5 => ?_)
        have hv := hv x5 g5 e5
        refine r_if_le (tgt := 44) hx hb dX11_commonDivisor_20 (by decide) g5  (fun b6 => ?_) (fun b6 => ?_)
        · have hv := hv.1 b6
          refine lv_lload hx hb dX11_commonDivisor_44 (lv_at hl 0 rfl) ?_
          obtain ⟨c7, hv⟩ := hv
          exact k_lret (wq_X τ ad) hx hb hr hlk hw hM c7 hv dX11_commonDivisor_46
        · have hv := hv.2 b6
          refine lv_lload hx hb dX11_commonDivisor_23 (lv_at hl 0 rfl) ?_
          refine lv_lload hx hb dX11_commonDivisor_25 (lv_at hl 1 rfl) ?_
          obtain ⟨c8, hv⟩ := hv
          refine r_lremF hx hb dX11_commonDivisor_27 c4 c8 (fun x9 e9 g9 => ?_)
          have hv := hv x9 e9 g9
          refine lv_lstore (lv' := [(9, .long (lI x9)), (4, .long (lI v4)), (6, .long (lI v6)), (8, .int (iI v8))]) hx hb dX11_commonDivisor_28 hl (by decide) rfl (fun ls hl => ?_)
          refine lv_lload hx hb dX11_commonDivisor_30 (lv_at hl 2 rfl) ?_
          refine lv_lstore (lv' := [(4, .long (lI v6)), (9, .long (lI x9)), (6, .long (lI v6)), (8, .int (iI v8))]) hx hb dX11_commonDivisor_32 hl (by decide) rfl (fun ls hl => ?_)
          refine lv_lload hx hb dX11_commonDivisor_34 (lv_at hl 1 rfl) ?_
          refine lv_lstore (lv' := [(6, .long (lI x9)), (4, .long (lI v6)), (9, .long (lI x9)), (8, .int (iI v8))]) hx hb dX11_commonDivisor_36 hl (by decide) rfl (fun ls hl => ?_)
          refine r_iinc (v := (v8 + 1)) (lv' := [(8, .int (iI (v8 + 1))), (6, .long (lI x9)), (4, .long (lI v6)), (9, .long (lI x9))]) hx hb dX11_commonDivisor_38 hl (k := 3) rfl rfl (by decide) rfl (fun ls hl => ?_)
          refine lv_goto (tgt := 9) hx hb dX11_commonDivisor_41 (by decide) ?_
          exact ih v6 x9 (v8 + 1) M _ _ _ hM hv hw (lv_sub hl [2, 1, 0] rfl)
  refine lv_lload_n hx hb dX11_commonDivisor_0 rfl (lv_at hl 0 rfl) ?_
  refine lv_lstore (lv' := [(4, .long (lI p0)), (0, .long (lI p0)), (2, .long (lI p2))]) hx hb dX11_commonDivisor_1 hl (by decide) rfl (fun ls hl => ?_)
  refine lv_lload_n hx hb dX11_commonDivisor_3 rfl (lv_at hl 2 rfl) ?_
  refine lv_lstore (lv' := [(6, .long (lI p2)), (4, .long (lI p0)), (0, .long (lI p0)), (2, .long (lI p2))]) hx hb dX11_commonDivisor_4 hl (by decide) rfl (fun ls hl => ?_)
  refine r_iconst hx hb dX11_commonDivisor_6 ?_
  refine lv_istore (lv' := [(8, .int (iI 0)), (6, .long (lI p2)), (4, .long (lI p0)), (0, .long (lI p0)), (2, .long (lI p2))]) hx hb dX11_commonDivisor_7 hl (by decide) rfl (fun ls hl => ?_)
  obtain ⟨n10, hv⟩ := hv
  refine L9  n10 p0 p2 0 M _ _ _ hM hv hw (lv_sub hl [2, 1, 0] rfl)
set_option maxHeartbeats 4000000 in
set_option maxRecDepth 100000 in
theorem mX11_power (l : Launch) (D : va_G) (τ : Nat → ClassId) (ad : Nat → Nat) (sA sV : Nat → Nat) (sz : Nat) (p0 : Int) (p2 : Int) (hp0 : lR p0) (hp2 : iR p2) (M : Mem) (hM : MR M) (Q : Int → Mem → Prop) (hv : qX11_power p0 p2 M Q) : Met l yX11_power (lw_w yX11_power cX11_power 6 (some .long)) (rmk 1 0 0) (kPc D τ sA sV (WX τ ad M) sz [.long (lI p0), .int (iI p2)]) (gQl D (EQi (WX τ ad) MR Q) (va_A (WX τ ad M) sz)) 0 0 (va_A (WX τ ad M) sz) := by
  refine k_met (ret := (some .long)) (Qc := gQl D (EQi (WX τ ad) MR Q)) (by decide +kernel) (Nat.le_of_ble_eq_true rfl) ?_
  intro p e s m args below meth c A ls hx hb hml hr hlk hnm hC hLS hA hw hl
  have hC : cx D τ s m args RX11 := hC
  have hl : lv_has ls 6 [(0, .long (lI p0)), (2, .int (iI p2))] := hl
  unfold qX11_power at hv
  have L5 : ∀ (n : Nat) (v3 : Int) (v5 : Int) (M : Mem) (H : Heap) (locs : List Loc) (ls : Array Slot), MR M → qX11_power_L5 p0 p2  Q n v3 v5 M → wS D A s.heap (WX τ ad M) H locs → lv_has ls 6 [(0, .long (lI p0)), (2, .int (iI p2)), (3, .long (lI v3)), (5, .int (iI v5))] → W p l e (rmk 1 0 0) s m args below meth c H locs 0 0 (MQ below (gQl D (EQi (WX τ ad) MR Q) A) args s 0 0 A) (F0 m 5 ls []) := by
    intro n
    induction n with
    | zero => intro v3 v5 M H locs ls hM hv; rw [qX11_power_L5] at hv; exact hv.elim
    | succ n ih =>
      intro v3 v5 M H locs ls hM hv hw hl
      rw [qX11_power_L5] at hv
      refine lv_iload hx hb dX11_power_5 (lv_at hl 3 rfl) ?_
      refine lv_iload_n hx hb dX11_power_7 rfl (lv_at hl 1 rfl) ?_
      obtain ⟨c1, hv⟩ := hv
      refine r_icmp_ge (tgt := 21) hx hb dX11_power_8 (by decide) c1 hp2 (fun b2 => ?_) (fun b2 => ?_)
      · have hv := hv.1 b2
        refine lv_lload_n hx hb dX11_power_21 rfl (lv_at hl 2 rfl) ?_
        obtain ⟨c3, hv⟩ := hv
        exact k_lret (wq_X τ ad) hx hb hr hlk hw hM c3 hv dX11_power_22
      · have hv := hv.2 b2
        refine lv_lload_n hx hb dX11_power_11 rfl (lv_at hl 2 rfl) ?_
        refine lv_lload_n hx hb dX11_power_12 rfl (lv_at hl 0 rfl) ?_
        refine r_lmulW hx hb dX11_power_13 (fun x4 e4 g4 => ?_)
        have hv := hv x4 e4 g4
        refine lv_lstore_n (lv' := [(3, .long (lI x4)), (0, .long (lI p0)), (2, .int (iI p2)), (5, .int (iI v5))]) hx hb dX11_power_14 rfl hl (by decide) rfl (fun ls hl => ?_)
        refine r_iinc (v := (v5 + 1)) (lv' := [(5, .int (iI (v5 + 1))), (3, .long (lI x4)), (0, .long (lI p0)), (2, .int (iI p2))]) hx hb dX11_power_15 hl (k := 3) rfl rfl (by decide) rfl (fun ls hl => ?_)
        refine lv_goto (tgt := 5) hx hb dX11_power_18 (by decide) ?_
        exact ih x4 (v5 + 1) M _ _ _ hM hv hw (lv_sub hl [2, 3, 1, 0] rfl)
  refine r_lconst (z := 1) hx hb dX11_power_0 (by decide +kernel) ?_
  refine lv_lstore_n (lv' := [(3, .long (lI 1)), (0, .long (lI p0)), (2, .int (iI p2))]) hx hb dX11_power_1 rfl hl (by decide) rfl (fun ls hl => ?_)
  refine r_iconst hx hb dX11_power_2 ?_
  refine lv_istore (lv' := [(5, .int (iI 0)), (3, .long (lI 1)), (0, .long (lI p0)), (2, .int (iI p2))]) hx hb dX11_power_3 hl (by decide) rfl (fun ls hl => ?_)
  obtain ⟨n5, hv⟩ := hv
  refine L5  n5 1 0 M _ _ _ hM hv hw (lv_sub hl [2, 3, 1, 0] rfl)
set_option maxHeartbeats 4000000 in
set_option maxRecDepth 100000 in
theorem mX11_rains (l : Launch) (D : va_G) (τ : Nat → ClassId) (ad : Nat → Nat) (sA sV : Nat → Nat) (sz : Nat) (p1 : Int) (p2 : Int) (p3 : Int) (hp1 : iR p1) (hp2 : iR p2) (hp3 : iR p3) (M : Mem) (hM : MR M) (Q : Int → Mem → Prop) (hv : qX11_rains p1 p2 p3 M Q) : Met l yX11_rains (lw_w yX11_rains cX11_rains 12 (some .int)) (rmk 3 0 0) (kPc D τ sA sV (WX τ ad M) sz [.ref (ad 155), .int (iI p1), .int (iI p2), .int (iI p3)]) (gQi D (EQi (WX τ ad) MR Q) (va_A (WX τ ad M) sz)) 0 0 (va_A (WX τ ad M) sz) := by
  refine k_met (ret := (some .int)) (Qc := gQi D (EQi (WX τ ad) MR Q)) (by decide +kernel) (Nat.le_of_ble_eq_true rfl) ?_
  intro p e s m args below meth c A ls hx hb hml hr hlk hnm hC hLS hA hw hl
  have hC : cx D τ s m args RX11 := hC
  have hl : lv_has ls 12 [(0, .ref (ad 155)), (1, .int (iI p1)), (2, .int (iI p2)), (3, .int (iI p3))] := hl
  unfold qX11_rains at hv
  have J88 : ∀ (R : Int → Int → Int → Mem → Prop), (∀ (v4 : Int) (v6 : Int) (v8 : Int) (M : Mem) (H : Heap) (locs : List Loc) (ls : Array Slot), MR M → R v4 v6 v8 M → wS D A s.heap (WX τ ad M) H locs → lv_has ls 12 [(0, .ref (ad 155)), (1, .int (iI p1)), (2, .int (iI p2)), (3, .int (iI p3)), (4, .long (lI v4)), (6, .long (lI v6)), (8, .int (iI v8))] → W p l e (rmk 3 0 0) s m args below meth c H locs 0 0 (MQ below (gQi D (EQi (WX τ ad) MR Q) A) args s 0 0 A) (F0 m 42 ls [])) → ∀ (X112 : Int → Mem → Prop), (∀ (v4 : Int) (M : Mem) (H : Heap) (locs : List Loc) (ls : Array Slot), MR M → X112 v4 M → wS D A s.heap (WX τ ad M) H locs → lv_has ls 12 [(0, .ref (ad 155)), (1, .int (iI p1)), (4, .long (lI v4))] → W p l e (rmk 3 0 0) s m args below meth c H locs 0 0 (MQ below (gQi D (EQi (WX τ ad) MR Q) A) args s 0 0 A) (F0 m 112 ls [])) → ∀ (v4 : Int) (v6 : Int) (v8 : Int) (M : Mem) (H : Heap) (locs : List Loc) (ls : Array Slot), MR M → qX11_rains_J88 p1 p2 p3 R X112 Q v4 v6 v8 M → wS D A s.heap (WX τ ad M) H locs → lv_has ls 12 [(0, .ref (ad 155)), (1, .int (iI p1)), (2, .int (iI p2)), (3, .int (iI p3)), (4, .long (lI v4)), (6, .long (lI v6)), (8, .int (iI v8))] → W p l e (rmk 3 0 0) s m args below meth c H locs 0 0 (MQ below (gQi D (EQi (WX τ ad) MR Q) A) args s 0 0 A) (F0 m 88 ls []) := by
    intro R hR X112 hX112 v4 v6 v8 M H locs ls hM hv hw hl
    unfold qX11_rains_J88 at hv
    refine lv_lload hx hb dX11_rains_88 (lv_at hl 5 rfl) ?_
    refine lv_iload_n hx hb dX11_rains_90 rfl (lv_at hl 1 rfl) ?_
    refine r_iconst hx hb dX11_rains_91 ?_
    refine r_isubW hx hb dX11_rains_92 (fun x11 e11 g11 => ?_)
    have hv := hv x11 e11 g11
    refine lv_iload hx hb dX11_rains_93 (lv_at hl 6 rfl) ?_
    refine r_isubW hx hb dX11_rains_95 (fun x12 e12 g12 => ?_)
    have hv := hv x12 e12 g12
    refine r_i2l hx hb dX11_rains_96 g12 ?_
    refine r_lmulW hx hb dX11_rains_97 (fun x13 e13 g13 => ?_)
    have hv := hv x13 e13 g13
    refine lv_iload hx hb dX11_rains_98 (lv_at hl 6 rfl) ?_
    refine r_iconst hx hb dX11_rains_100 ?_
    refine r_iadd (z := (v8 + 1)) hx hb dX11_rains_101 rfl ?_
    obtain ⟨c14, hv⟩ := hv
    refine r_i2l hx hb dX11_rains_102 c14 ?_
    obtain ⟨c15, hv⟩ := hv
    refine r_ldivF hx hb dX11_rains_103 (iR_lR c14) c15 (fun x16 e16 g16 => ?_)
    have hv := hv x16 e16 g16
    refine lv_lstore (lv' := [(6, .long (lI x16)), (0, .ref (ad 155)), (1, .int (iI p1)), (2, .int (iI p2)), (3, .int (iI p3)), (4, .long (lI v4)), (8, .int (iI v8))]) hx hb dX11_rains_104 hl (by decide) rfl (fun ls hl => ?_)
    refine r_iinc (v := (v8 + 1)) (lv' := [(8, .int (iI (v8 + 1))), (6, .long (lI x16)), (0, .ref (ad 155)), (1, .int (iI p1)), (2, .int (iI p2)), (3, .int (iI p3)), (4, .long (lI v4))]) hx hb dX11_rains_106 hl (k := 6) rfl rfl (by decide) rfl (fun ls hl => ?_)
    refine lv_goto (tgt := 42) hx hb dX11_rains_109 (by decide) ?_
    exact hR v4 x16 (v8 + 1) M _ _ _ hM hv hw (lv_sub hl [2, 3, 4, 5, 6, 1, 0] rfl)
  have L42 : ∀ (X112 : Int → Mem → Prop), (∀ (v4 : Int) (M : Mem) (H : Heap) (locs : List Loc) (ls : Array Slot), MR M → X112 v4 M → wS D A s.heap (WX τ ad M) H locs → lv_has ls 12 [(0, .ref (ad 155)), (1, .int (iI p1)), (4, .long (lI v4))] → W p l e (rmk 3 0 0) s m args below meth c H locs 0 0 (MQ below (gQi D (EQi (WX τ ad) MR Q) A) args s 0 0 A) (F0 m 112 ls [])) → ∀ (n : Nat) (v4 : Int) (v6 : Int) (v8 : Int) (M : Mem) (H : Heap) (locs : List Loc) (ls : Array Slot), MR M → qX11_rains_L42 p1 p2 p3 X112 Q n v4 v6 v8 M → wS D A s.heap (WX τ ad M) H locs → lv_has ls 12 [(0, .ref (ad 155)), (1, .int (iI p1)), (2, .int (iI p2)), (3, .int (iI p3)), (4, .long (lI v4)), (6, .long (lI v6)), (8, .int (iI v8))] → W p l e (rmk 3 0 0) s m args below meth c H locs 0 0 (MQ below (gQi D (EQi (WX τ ad) MR Q) A) args s 0 0 A) (F0 m 42 ls []) := by
    intro X112 hX112 n
    induction n with
    | zero => intro v4 v6 v8 M H locs ls hM hv; rw [qX11_rains_L42] at hv; exact hv.elim
    | succ n ih =>
      intro v4 v6 v8 M H locs ls hM hv hw hl
      rw [qX11_rains_L42] at hv
      refine lv_iload hx hb dX11_rains_42 (lv_at hl 6 rfl) ?_
      refine lv_iload_n hx hb dX11_rains_44 rfl (lv_at hl 1 rfl) ?_
      obtain ⟨c7, hv⟩ := hv
      refine r_icmp_ge (tgt := 112) hx hb dX11_rains_45 (by decide) c7 hp1 (fun b8 => ?_) (fun b8 => ?_)
      · have hv := hv.1 b8
        exact hX112 v4 M _ _ _ hM hv hw (lv_sub hl [0, 1, 4] rfl)
      · have hv := hv.2 b8
        refine lv_iload hx hb dX11_rains_48 (lv_at hl 6 rfl) ?_
        refine r_iconst hx hb dX11_rains_50 ?_
        refine r_iadd (z := (v8 + 1)) hx hb dX11_rains_51 rfl ?_
        refine lv_iload_n hx hb dX11_rains_52 rfl (lv_at hl 2 rfl) ?_
        obtain ⟨c9, hv⟩ := hv
        refine r_icmp_lt (tgt := 88) hx hb dX11_rains_53 (by decide) c9 hp2 (fun b10 => ?_) (fun b10 => ?_)
        · have hv := hv.1 b10
          exact J88 _ ih _ hX112 v4 v6 v8 M _ _ _ hM hv hw (lv_sub hl [0, 1, 2, 3, 4, 5, 6] rfl)
        · have hv := hv.2 b10
          refine lv_lload hx hb dX11_rains_56 (lv_at hl 4 rfl) ?_
          refine lv_lload hx hb dX11_rains_58 (lv_at hl 5 rfl) ?_
          refine lv_iload_n hx hb dX11_rains_60 rfl (lv_at hl 3 rfl) ?_
          refine r_i2l hx hb dX11_rains_61 hp3 ?_
          refine lv_iload hx hb dX11_rains_62 (lv_at hl 6 rfl) ?_
          refine r_iconst hx hb dX11_rains_64 ?_
          refine r_iadd (z := (v8 + 1)) hx hb dX11_rains_65 rfl ?_
          refine k_cSl (wq_X τ ad) hx hb hml hC hLS hA hw hl.1 (mX11_power l D τ ad sA sV _ p3 (v8 + 1) (iR_lR hp3) c9 M hM _ hv) kX11_power ml_X11_461 rfl rfl (Nat.le_of_ble_eq_true rfl) (rm_ok (by decide) (by decide)) ⟨Nat.zero_le _, Nat.zero_le _⟩ dX11_rains_66 (fun x17 M17 H locs g17 hM hv hw => ?_)
          have hv := hv g17
          refine r_lmulW hx hb dX11_rains_69 (fun x18 e18 g18 => ?_)
          have hv := hv x18 e18 g18
          refine r_bipush hx hb dX11_rains_70 (by decide +kernel) ?_
          refine lv_iload_n hx hb dX11_rains_72 rfl (lv_at hl 3 rfl) ?_
          refine r_isubW hx hb dX11_rains_73 (fun x19 e19 g19 => ?_)
          have hv := hv x19 e19 g19
          refine r_i2l hx hb dX11_rains_74 g19 ?_
          refine lv_iload_n hx hb dX11_rains_75 rfl (lv_at hl 1 rfl) ?_
          refine r_iconst hx hb dX11_rains_76 ?_
          refine r_isubW hx hb dX11_rains_77 (fun x20 e20 g20 => ?_)
          have hv := hv x20 e20 g20
          refine lv_iload hx hb dX11_rains_78 (lv_at hl 6 rfl) ?_
          refine r_isubW hx hb dX11_rains_80 (fun x21 e21 g21 => ?_)
          have hv := hv x21 e21 g21
          refine k_cSl (wq_X τ ad) hx hb hml hC hLS hA hw hl.1 (mX11_power l D τ ad sA sV _ x19 x21 (iR_lR g19) g21 M17 hM _ hv) kX11_power ml_X11_461 rfl rfl (Nat.le_of_ble_eq_true rfl) (rm_ok (by decide) (by decide)) ⟨Nat.zero_le _, Nat.zero_le _⟩ dX11_rains_81 (fun x22 M22 H locs g22 hM hv hw => ?_)
          have hv := hv g22
          refine r_lmulW hx hb dX11_rains_84 (fun x23 e23 g23 => ?_)
          have hv := hv x23 e23 g23
          refine r_laddW hx hb dX11_rains_85 (fun x24 e24 g24 => ?_)
          have hv := hv x24 e24 g24
          refine lv_lstore (lv' := [(4, .long (lI x24)), (0, .ref (ad 155)), (1, .int (iI p1)), (2, .int (iI p2)), (3, .int (iI p3)), (6, .long (lI v6)), (8, .int (iI v8))]) hx hb dX11_rains_86 hl (by decide) rfl (fun ls hl => ?_)
          exact J88 _ ih _ hX112 x24 v6 v8 M22 _ _ _ hM hv hw (lv_sub hl [1, 2, 3, 4, 0, 5, 6] rfl)
  refine lv_iload_n hx hb dX11_rains_0 rfl (lv_at hl 1 rfl) ?_
  refine r_iconst hx hb dX11_rains_1 ?_
  refine r_icmp_lt (tgt := 31) hx hb dX11_rains_2 (by decide) hp1 (by decide) (fun b1 => ?_) (fun b1 => ?_)
  · have hv := hv.1 b1
    refine r_iconst hx hb dX11_rains_31 ?_
    exact k_iret (wq_X τ ad) hx hb hr hlk hw hM (by decide) hv dX11_rains_32
  · have hv := hv.2 b1
    refine lv_iload_n hx hb dX11_rains_5 rfl (lv_at hl 1 rfl) ?_
    refine r_bipush hx hb dX11_rains_6 (by decide +kernel) ?_
    refine r_icmp_gt (tgt := 31) hx hb dX11_rains_8 (by decide) hp1 (by decide) (fun b2 => ?_) (fun b2 => ?_)
    · have hv := hv.1 b2
      refine r_iconst hx hb dX11_rains_31 ?_
      exact k_iret (wq_X τ ad) hx hb hr hlk hw hM (by decide) hv dX11_rains_32
    · have hv := hv.2 b2
      refine lv_iload_n hx hb dX11_rains_11 rfl (lv_at hl 2 rfl) ?_
      refine r_if_lt (tgt := 31) hx hb dX11_rains_12 (by decide) hp2  (fun b3 => ?_) (fun b3 => ?_)
      · have hv := hv.1 b3
        refine r_iconst hx hb dX11_rains_31 ?_
        exact k_iret (wq_X τ ad) hx hb hr hlk hw hM (by decide) hv dX11_rains_32
      · have hv := hv.2 b3
        refine lv_iload_n hx hb dX11_rains_15 rfl (lv_at hl 2 rfl) ?_
        refine r_bipush hx hb dX11_rains_16 (by decide +kernel) ?_
        refine r_icmp_gt (tgt := 31) hx hb dX11_rains_18 (by decide) hp2 (by decide) (fun b4 => ?_) (fun b4 => ?_)
        · have hv := hv.1 b4
          refine r_iconst hx hb dX11_rains_31 ?_
          exact k_iret (wq_X τ ad) hx hb hr hlk hw hM (by decide) hv dX11_rains_32
        · have hv := hv.2 b4
          refine lv_iload_n hx hb dX11_rains_21 rfl (lv_at hl 3 rfl) ?_
          refine r_if_lt (tgt := 31) hx hb dX11_rains_22 (by decide) hp3  (fun b5 => ?_) (fun b5 => ?_)
          · have hv := hv.1 b5
            refine r_iconst hx hb dX11_rains_31 ?_
            exact k_iret (wq_X τ ad) hx hb hr hlk hw hM (by decide) hv dX11_rains_32
          · have hv := hv.2 b5
            refine lv_iload_n hx hb dX11_rains_25 rfl (lv_at hl 3 rfl) ?_
            refine r_bipush hx hb dX11_rains_26 (by decide +kernel) ?_
            refine r_icmp_le (tgt := 33) hx hb dX11_rains_28 (by decide) hp3 (by decide) (fun b6 => ?_) (fun b6 => ?_)
            · have hv := hv.1 b6
              refine r_lconst (z := 0) hx hb dX11_rains_33 (by decide +kernel) ?_
              refine lv_lstore (lv' := [(4, .long (lI 0)), (0, .ref (ad 155)), (1, .int (iI p1)), (2, .int (iI p2)), (3, .int (iI p3))]) hx hb dX11_rains_34 hl (by decide) rfl (fun ls hl => ?_)
              refine r_lconst (z := 1) hx hb dX11_rains_36 (by decide +kernel) ?_
              refine lv_lstore (lv' := [(6, .long (lI 1)), (4, .long (lI 0)), (0, .ref (ad 155)), (1, .int (iI p1)), (2, .int (iI p2)), (3, .int (iI p3))]) hx hb dX11_rains_37 hl (by decide) rfl (fun ls hl => ?_)
              refine r_iconst hx hb dX11_rains_39 ?_
              refine lv_istore (lv' := [(8, .int (iI 0)), (6, .long (lI 1)), (4, .long (lI 0)), (0, .ref (ad 155)), (1, .int (iI p1)), (2, .int (iI p2)), (3, .int (iI p3))]) hx hb dX11_rains_40 hl (by decide) rfl (fun ls hl => ?_)
              obtain ⟨n25, hv⟩ := hv
              refine L42 _ ?_ n25 0 1 0 M _ _ _ hM hv hw (lv_sub hl [3, 4, 5, 6, 2, 1, 0] rfl)
              · intro v4 M H locs ls hM hv hw hl
                refine r_ldc2 (z := 10) hx hb hC ct_X11_465 (by decide +kernel) dX11_rains_112 ?_
                refine lv_iload_n hx hb dX11_rains_115 rfl (lv_at hl 1 rfl) ?_
                refine k_cSl (wq_X τ ad) hx hb hml hC hLS hA hw hl.1 (mX11_power l D τ ad sA sV _ 10 p1 (by decide) hp1 M hM _ hv) kX11_power ml_X11_461 rfl rfl (Nat.le_of_ble_eq_true rfl) (rm_ok (by decide) (by decide)) ⟨Nat.zero_le _, Nat.zero_le _⟩ dX11_rains_116 (fun x26 M26 H locs g26 hM hv hw => ?_)
                have hv := hv g26
                refine lv_lstore (lv' := [(8, .long (lI x26)), (0, .ref (ad 155)), (1, .int (iI p1)), (4, .long (lI v4))]) hx hb dX11_rains_119 hl (by decide) rfl (fun ls hl => ?_)
                refine lv_lload hx hb dX11_rains_121 (lv_at hl 3 rfl) ?_
                refine lv_lload hx hb dX11_rains_123 (lv_at hl 0 rfl) ?_
                obtain ⟨c27, hv⟩ := hv
                refine k_cSl (wq_X τ ad) hx hb hml hC hLS hA hw hl.1 (mX11_commonDivisor l D τ ad sA sV _ v4 x26 c27 g26 M26 hM _ hv) kX11_commonDivisor ml_X11_467 rfl rfl (Nat.le_of_ble_eq_true rfl) (rm_ok (by decide) (by decide)) ⟨Nat.zero_le _, Nat.zero_le _⟩ dX11_rains_125 (fun x28 M28 H locs g28 hM hv hw => ?_)
                have hv := hv g28
                refine lv_lstore (lv' := [(10, .long (lI x28)), (8, .long (lI x26)), (0, .ref (ad 155)), (1, .int (iI p1)), (4, .long (lI v4))]) hx hb dX11_rains_128 hl (by decide) rfl (fun ls hl => ?_)
                refine lv_lload hx hb dX11_rains_130 (lv_at hl 0 rfl) ?_
                refine r_lconst (z := 1) hx hb dX11_rains_132 (by decide +kernel) ?_
                refine r_lcmp hx hb g28 (by decide) dX11_rains_133 (fun x29 g29 e29 => ?_)
                have hv := hv x29 g29 e29
                refine r_if_ge (tgt := 139) hx hb dX11_rains_134 (by decide) g29  (fun b30 => ?_) (fun b30 => ?_)
                · have hv := hv.1 b30
                  refine lv_aload_n hx hb dX11_rains_139 rfl (lv_at hl 2 rfl) ?_
                  refine gf_X11_66 hx hb hC hw 155 (gX_155 τ ad M28) rfl dX11_rains_140 ?_
                  refine lv_lload hx hb dX11_rains_143 (lv_at hl 4 rfl) ?_
                  refine lv_lload hx hb dX11_rains_145 (lv_at hl 0 rfl) ?_
                  obtain ⟨c31, hv⟩ := hv
                  refine r_ldivF hx hb dX11_rains_147 g28 c31 (fun x32 e32 g32 => ?_)
                  have hv := hv x32 e32 g32
                  refine lv_lload hx hb dX11_rains_148 (lv_at hl 1 rfl) ?_
                  refine lv_lload hx hb dX11_rains_150 (lv_at hl 0 rfl) ?_
                  obtain ⟨c33, hv⟩ := hv
                  refine r_ldivF hx hb dX11_rains_152 g28 c33 (fun x34 e34 g34 => ?_)
                  have hv := hv x34 e34 g34
                  refine k_cVv (wq_X τ ad) hx hb hml hC hLS hA hw hl.1 (mX4_tellTwo l D τ ad sA sV _ x32 x34 g32 g34 M28 hM _ hv) kX4_tellTwo ml_X11_298 rfl (gX_167 τ ad M28) rfl rfl (Nat.le_of_ble_eq_true rfl) (rm_ok (by decide) (by decide)) ⟨Nat.zero_le _, Nat.zero_le _⟩ dX11_rains_153 (fun M35 H locs hM hv hw => ?_)
                  refine r_iconst hx hb dX11_rains_156 ?_
                  exact k_iret (wq_X τ ad) hx hb hr hlk hw hM (by decide) hv dX11_rains_157
                · have hv := hv.2 b30
                  refine r_iconst hx hb dX11_rains_137 ?_
                  exact k_iret (wq_X τ ad) hx hb hr hlk hw hM (by decide) hv dX11_rains_138
            · have hv := hv.2 b6
              refine r_iconst hx hb dX11_rains_31 ?_
              exact k_iret (wq_X τ ad) hx hb hr hlk hw hM (by decide) hv dX11_rains_32
set_option maxHeartbeats 4000000 in
set_option maxRecDepth 100000 in
theorem mX11_law (l : Launch) (D : va_G) (τ : Nat → ClassId) (ad : Nat → Nat) (sA sV : Nat → Nat) (sz : Nat)   (M : Mem) (hM : MR M) (Q : Int → Mem → Prop) (hv : qX11_law  M Q) : Met l yX11_law (lw_w yX11_law cX11_law 4 (some .int)) (rmk 8 0 0) (kPc D τ sA sV (WX τ ad M) sz [.ref (ad 155)]) (gQi D (EQi (WX τ ad) MR Q) (va_A (WX τ ad M) sz)) 0 0 (va_A (WX τ ad M) sz) := by
  refine k_met (ret := (some .int)) (Qc := gQi D (EQi (WX τ ad) MR Q)) (by decide +kernel) (Nat.le_of_ble_eq_true rfl) ?_
  intro p e s m args below meth c A ls hx hb hml hr hlk hnm hC hLS hA hw hl
  have hC : cx D τ s m args RX11 := hC
  have hl : lv_has ls 4 [(0, .ref (ad 155))] := hl
  unfold qX11_law at hv
  refine lv_aload_n hx hb dX11_law_0 rfl (lv_at hl 0 rfl) ?_
  refine gf_X11_94 hx hb hC hw 155 (gX_155 τ ad M) rfl dX11_law_1 ?_
  refine lv_aload_n hx hb dX11_law_4 rfl (lv_at hl 0 rfl) ?_
  refine gf_X11_10 hx hb hC hw 155 (gX_155 τ ad M) rfl dX11_law_5 ?_
  refine lv_aload_n hx hb dX11_law_8 rfl (lv_at hl 0 rfl) ?_
  refine gf_X11_109 hx hb hC hw 155 (gX_155 τ ad M) rfl dX11_law_9 ?_
  obtain ⟨c1, hv⟩ := hv
  refine k_cVi (wq_X τ ad) hx hb hml hC hLS hA hw hl.1 (mX5_read l D τ ad sA sV _ (M 155 17).toNat c1 M hM _ hv) kX5_read ml_X11_216 rfl (gX_185 τ ad M) rfl rfl (Nat.le_of_ble_eq_true rfl) (rm_ok (by decide) (by decide)) ⟨Nat.zero_le _, Nat.zero_le _⟩ dX11_law_12 (fun x2 M2 H locs g2 hM hv hw => ?_)
  have hv := hv g2
  refine lv_istore_n (lv' := [(1, .int (iI x2)), (0, .ref (ad 155))]) hx hb dX11_law_15 rfl hl (by decide) rfl (fun ls hl => ?_)
  refine lv_aload_n hx hb dX11_law_16 rfl (lv_at hl 1 rfl) ?_
  refine gf_X11_10 hx hb hC hw 155 (gX_155 τ ad M2) rfl dX11_law_17 ?_
  refine k_cVv (wq_X τ ad) hx hb hml hC hLS hA hw hl.1 (mX9_clear l D τ ad sA sV _   M2 hM _ hv) kX9_clear ml_X11_140 rfl (gX_156 τ ad M2) rfl rfl (Nat.le_of_ble_eq_true rfl) (rm_ok (by decide) (by decide)) ⟨Nat.zero_le _, Nat.zero_le _⟩ dX11_law_20 (fun M3 H locs hM hv hw => ?_)
  refine lv_iload_n hx hb dX11_law_23 rfl (lv_at hl 0 rfl) ?_
  refine r_iconst hx hb dX11_law_24 ?_
  refine r_icmp_eq (tgt := 34) hx hb dX11_law_25 (by decide) g2 (by decide) (fun b4 => ?_) (fun b4 => ?_)
  · have hv := hv.1 b4
    refine lv_aload_n hx hb dX11_law_34 rfl (lv_at hl 1 rfl) ?_
    refine gf_X11_30 hx hb hC hw 155 (gX_155 τ ad M3) rfl dX11_law_35 ?_
    refine lv_aload_n hx hb dX11_law_38 rfl (lv_at hl 1 rfl) ?_
    refine gf_X11_26 hx hb hC hw 155 (gX_155 τ ad M3) rfl dX11_law_39 ?_
    refine k_cVv (wq_X τ ad) hx hb hml hC hLS hA hw hl.1 (mX6_copyFrom l D τ ad sA sV _ 8 1 (by decide) (by decide) M3 hM _ hv) kX6_copyFrom ml_X11_153 rfl (gS_X (by decide) τ ad M3) rfl rfl (Nat.le_of_ble_eq_true rfl) (rm_ok (by decide) (by decide)) ⟨Nat.zero_le _, Nat.zero_le _⟩ dX11_law_42 (fun M5 H locs hM hv hw => ?_)
    refine lv_aload_n hx hb dX11_law_45 rfl (lv_at hl 1 rfl) ?_
    refine lv_aload_n hx hb dX11_law_46 rfl (lv_at hl 1 rfl) ?_
    refine gf_X11_109 hx hb hC hw 155 (gX_155 τ ad M5) rfl dX11_law_47 ?_
    obtain ⟨c6, hv⟩ := hv
    refine k_cVi (wq_X τ ad) hx hb hml hC hLS hA hw hl.1 (mX11_rightOnesOfTrial l D τ ad sA sV _ (M5 155 17).toNat c6 M5 hM _ hv) kX11_rightOnesOfTrial ml_X11_382 rfl (gX_155 τ ad M5) rfl rfl (Nat.le_of_ble_eq_true rfl) (rm_ok (by decide) (by decide)) ⟨Nat.zero_le _, Nat.zero_le _⟩ dX11_law_50 (fun x7 M7 H locs g7 hM hv hw => ?_)
    have hv := hv g7
    refine k_cSi (wq_X τ ad) hx hb hml hC hLS hA hw hl.1 (mJ6_bitCount_0f7a4X l D τ ad sA sV _ x7 g7 M7 hM _ hv) kJ6_bitCount_0f7a4 ml_X11_389 rfl rfl (Nat.le_of_ble_eq_true rfl) (rm_ok (by decide) (by decide)) ⟨Nat.zero_le _, Nat.zero_le _⟩ dX11_law_53 (fun x8 M8 H locs g8 hM hv hw => ?_)
    have hv := hv g8
    refine lv_istore_n (lv' := [(2, .int (iI x8)), (1, .int (iI x2)), (0, .ref (ad 155))]) hx hb dX11_law_56 rfl hl (by decide) rfl (fun ls hl => ?_)
    refine lv_aload_n hx hb dX11_law_57 rfl (lv_at hl 2 rfl) ?_
    refine gf_X11_30 hx hb hC hw 155 (gX_155 τ ad M8) rfl dX11_law_58 ?_
    refine lv_aload_n hx hb dX11_law_61 rfl (lv_at hl 2 rfl) ?_
    refine gf_X11_26 hx hb hC hw 155 (gX_155 τ ad M8) rfl dX11_law_62 ?_
    refine k_cVv (wq_X τ ad) hx hb hml hC hLS hA hw hl.1 (mX6_copyFrom l D τ ad sA sV _ 8 1 (by decide) (by decide) M8 hM _ hv) kX6_copyFrom ml_X11_153 rfl (gS_X (by decide) τ ad M8) rfl rfl (Nat.le_of_ble_eq_true rfl) (rm_ok (by decide) (by decide)) ⟨Nat.zero_le _, Nat.zero_le _⟩ dX11_law_65 (fun M9 H locs hM hv hw => ?_)
    refine lv_aload_n hx hb dX11_law_68 rfl (lv_at hl 2 rfl) ?_
    refine lv_aload_n hx hb dX11_law_69 rfl (lv_at hl 2 rfl) ?_
    refine gf_X11_105 hx hb hC hw 155 (gX_155 τ ad M9) rfl dX11_law_70 ?_
    obtain ⟨c10, hv⟩ := hv
    refine k_cVi (wq_X τ ad) hx hb hml hC hLS hA hw hl.1 (mX11_rightOnesOfTrial l D τ ad sA sV _ (M9 155 16).toNat c10 M9 hM _ hv) kX11_rightOnesOfTrial ml_X11_382 rfl (gX_155 τ ad M9) rfl rfl (Nat.le_of_ble_eq_true rfl) (rm_ok (by decide) (by decide)) ⟨Nat.zero_le _, Nat.zero_le _⟩ dX11_law_73 (fun x11 M11 H locs g11 hM hv hw => ?_)
    have hv := hv g11
    refine k_cSi (wq_X τ ad) hx hb hml hC hLS hA hw hl.1 (mJ6_bitCount_0f7a4X l D τ ad sA sV _ x11 g11 M11 hM _ hv) kJ6_bitCount_0f7a4 ml_X11_389 rfl rfl (Nat.le_of_ble_eq_true rfl) (rm_ok (by decide) (by decide)) ⟨Nat.zero_le _, Nat.zero_le _⟩ dX11_law_76 (fun x12 M12 H locs g12 hM hv hw => ?_)
    have hv := hv g12
    refine lv_istore_n (lv' := [(3, .int (iI x12)), (2, .int (iI x8)), (1, .int (iI x2)), (0, .ref (ad 155))]) hx hb dX11_law_79 rfl hl (by decide) rfl (fun ls hl => ?_)
    refine lv_aload_n hx hb dX11_law_80 rfl (lv_at hl 3 rfl) ?_
    refine gf_X11_66 hx hb hC hw 155 (gX_155 τ ad M12) rfl dX11_law_81 ?_
    refine lv_iload_n hx hb dX11_law_84 rfl (lv_at hl 1 rfl) ?_
    refine r_i2l hx hb dX11_law_85 g8 ?_
    refine lv_iload_n hx hb dX11_law_86 rfl (lv_at hl 0 rfl) ?_
    refine r_i2l hx hb dX11_law_87 g12 ?_
    refine k_cVv (wq_X τ ad) hx hb hml hC hLS hA hw hl.1 (mX4_tellTwo l D τ ad sA sV _ x8 x12 (iR_lR g8) (iR_lR g12) M12 hM _ hv) kX4_tellTwo ml_X11_298 rfl (gX_167 τ ad M12) rfl rfl (Nat.le_of_ble_eq_true rfl) (rm_ok (by decide) (by decide)) ⟨Nat.zero_le _, Nat.zero_le _⟩ dX11_law_88 (fun M13 H locs hM hv hw => ?_)
    refine lv_iload_n hx hb dX11_law_91 rfl (lv_at hl 1 rfl) ?_
    refine lv_iload_n hx hb dX11_law_92 rfl (lv_at hl 0 rfl) ?_
    refine r_isub (z := (x8 - x12)) hx hb dX11_law_93 rfl ?_
    obtain ⟨c14, hv⟩ := hv
    exact k_iret (wq_X τ ad) hx hb hr hlk hw hM c14 hv dX11_law_94
  · have hv := hv.2 b4
    refine r_sipush hx hb dX11_law_28 (by decide +kernel) ?_
    refine lv_iload_n hx hb dX11_law_31 rfl (lv_at hl 0 rfl) ?_
    refine r_isub (z := ((-10000) - x2)) hx hb dX11_law_32 rfl ?_
    obtain ⟨c15, hv⟩ := hv
    exact k_iret (wq_X τ ad) hx hb hr hlk hw hM c15 hv dX11_law_33
set_option maxHeartbeats 4000000 in
set_option maxRecDepth 100000 in
theorem mX11_gain (l : Launch) (D : va_G) (τ : Nat → ClassId) (ad : Nat → Nat) (sA sV : Nat → Nat) (sz : Nat) (p0 : Int) (p1 : Int) (p2 : Int) (hp0 : iR p0) (hp1 : iR p1) (hp2 : iR p2) (M : Mem) (hM : MR M) (Q : Int → Mem → Prop) (hv : qX11_gain p0 p1 p2 M Q) : Met l yX11_gain (lw_w yX11_gain cX11_gain 4 (some .int)) (rmk 1 0 0) (kPc D τ sA sV (WX τ ad M) sz [.int (iI p0), .int (iI p1), .int (iI p2)]) (gQi D (EQi (WX τ ad) MR Q) (va_A (WX τ ad M) sz)) 0 0 (va_A (WX τ ad M) sz) := by
  refine k_met (ret := (some .int)) (Qc := gQi D (EQi (WX τ ad) MR Q)) (by decide +kernel) (Nat.le_of_ble_eq_true rfl) ?_
  intro p e s m args below meth c A ls hx hb hml hr hlk hnm hC hLS hA hw hl
  have hC : cx D τ s m args RX11 := hC
  have hl : lv_has ls 4 [(0, .int (iI p0)), (1, .int (iI p1)), (2, .int (iI p2))] := hl
  unfold qX11_gain at hv
  have J21 : ∀ (v3 : Int) (M : Mem) (H : Heap) (locs : List Loc) (ls : Array Slot), MR M → qX11_gain_J21 p0 p1 p2 Q v3 M → wS D A s.heap (WX τ ad M) H locs → lv_has ls 4 [(0, .int (iI p0)), (1, .int (iI p1)), (3, .int (iI v3))] → W p l e (rmk 1 0 0) s m args below meth c H locs 0 0 (MQ below (gQi D (EQi (WX τ ad) MR Q) A) args s 0 0 A) (F0 m 21 ls []) := by
    intro v3 M H locs ls hM hv hw hl
    unfold qX11_gain_J21 at hv
    refine lv_iload_n hx hb dX11_gain_21 rfl (lv_at hl 2 rfl) ?_
    refine lv_iload_n hx hb dX11_gain_22 rfl (lv_at hl 0 rfl) ?_
    refine r_isub (z := (v3 - p0)) hx hb dX11_gain_23 rfl ?_
    refine lv_iload_n hx hb dX11_gain_24 rfl (lv_at hl 0 rfl) ?_
    refine r_iconst hx hb dX11_gain_25 ?_
    refine lv_iload_n hx hb dX11_gain_26 rfl (lv_at hl 1 rfl) ?_
    refine r_imul (z := (2 * p1)) hx hb dX11_gain_27 rfl ?_
    obtain ⟨c3, hv⟩ := hv
    refine r_icmp_le (tgt := 35) hx hb dX11_gain_28 (by decide) hp0 c3 (fun b4 => ?_) (fun b4 => ?_)
    · have hv := hv.1 b4
      refine r_iconst hx hb dX11_gain_35 ?_
      refine r_isub (z := ((v3 - p0) - 0)) hx hb dX11_gain_36 rfl ?_
      obtain ⟨c5, hv⟩ := hv
      exact k_iret (wq_X τ ad) hx hb hr hlk hw hM c5 hv dX11_gain_37
    · have hv := hv.2 b4
      refine r_iconst hx hb dX11_gain_31 ?_
      refine lv_goto (tgt := 36) hx hb dX11_gain_32 (by decide) ?_
      refine r_isub (z := ((v3 - p0) - 3)) hx hb dX11_gain_36 rfl ?_
      obtain ⟨c6, hv⟩ := hv
      exact k_iret (wq_X τ ad) hx hb hr hlk hw hM c6 hv dX11_gain_37
  refine r_iconst hx hb dX11_gain_0 ?_
  refine lv_istore_n (lv' := [(3, .int (iI 0)), (0, .int (iI p0)), (1, .int (iI p1)), (2, .int (iI p2))]) hx hb dX11_gain_1 rfl hl (by decide) rfl (fun ls hl => ?_)
  refine lv_iload_n hx hb dX11_gain_2 rfl (lv_at hl 1 rfl) ?_
  refine lv_iload_n hx hb dX11_gain_3 rfl (lv_at hl 2 rfl) ?_
  refine r_icmp_le (tgt := 12) hx hb dX11_gain_4 (by decide) hp0 hp1 (fun b1 => ?_) (fun b1 => ?_)
  · have hv := hv.1 b1
    refine lv_iload_n hx hb dX11_gain_12 rfl (lv_at hl 1 rfl) ?_
    refine lv_iload_n hx hb dX11_gain_13 rfl (lv_at hl 2 rfl) ?_
    refine r_icmp_ne (tgt := 21) hx hb dX11_gain_14 (by decide) hp0 hp1 (fun b2 => ?_) (fun b2 => ?_)
    · have hv := hv.1 b2
      exact J21 0 M _ _ _ hM hv hw (lv_sub hl [1, 2, 0] rfl)
    · have hv := hv.2 b2
      refine lv_iload_n hx hb dX11_gain_17 rfl (lv_at hl 3 rfl) ?_
      refine r_iconst hx hb dX11_gain_18 ?_
      refine r_idivF hx hb dX11_gain_19 (by decide) (by decide) (fun x7 e7 g7 => ?_)
      have hv := hv x7 e7 g7
      refine lv_istore_n (lv' := [(3, .int (iI x7)), (0, .int (iI p0)), (1, .int (iI p1)), (2, .int (iI p2))]) hx hb dX11_gain_20 rfl hl (by decide) rfl (fun ls hl => ?_)
      exact J21 x7 M _ _ _ hM hv hw (lv_sub hl [1, 2, 0] rfl)
  · have hv := hv.2 b1
    refine lv_iload_n hx hb dX11_gain_7 rfl (lv_at hl 3 rfl) ?_
    refine lv_istore_n (lv' := [(3, .int (iI p2)), (0, .int (iI p0)), (1, .int (iI p1)), (2, .int (iI p2))]) hx hb dX11_gain_8 rfl hl (by decide) rfl (fun ls hl => ?_)
    refine lv_goto (tgt := 21) hx hb dX11_gain_9 (by decide) ?_
    exact J21 p2 M _ _ _ hM hv hw (lv_sub hl [1, 2, 0] rfl)
set_option maxHeartbeats 4000000 in
set_option maxRecDepth 100000 in
theorem mX11_isBestAnswer (l : Launch) (D : va_G) (τ : Nat → ClassId) (ad : Nat → Nat) (sA sV : Nat → Nat) (sz : Nat) (p0 : Int) (p1 : Int) (p2 : Int) (hp0 : iR p0) (hp1 : iR p1) (hp2 : iR p2) (M : Mem) (hM : MR M) (Q : Int → Mem → Prop) (hv : qX11_isBestAnswer p0 p1 p2 M Q) : Met l yX11_isBestAnswer (lw_w yX11_isBestAnswer cX11_isBestAnswer 5 (some .boolean)) (rmk 2 0 0) (kPc D τ sA sV (WX τ ad M) sz [.int (iI p0), .int (iI p1), .int (iI p2)]) (gQi D (EQz (WX τ ad) MR Q) (va_A (WX τ ad M) sz)) 0 0 (va_A (WX τ ad M) sz) := by
  refine k_met (ret := (some .boolean)) (Qc := gQi D (EQz (WX τ ad) MR Q)) (by decide +kernel) (Nat.le_of_ble_eq_true rfl) ?_
  intro p e s m args below meth c A ls hx hb hml hr hlk hnm hC hLS hA hw hl
  have hC : cx D τ s m args RX11 := hC
  have hl : lv_has ls 5 [(0, .int (iI p0)), (1, .int (iI p1)), (2, .int (iI p2))] := hl
  unfold qX11_isBestAnswer at hv
  have L10 : ∀ (n : Nat) (v3 : Int) (v4 : Int) (M : Mem) (H : Heap) (locs : List Loc) (ls : Array Slot), MR M → qX11_isBestAnswer_L10 p0 p1 p2  Q n v3 v4 M → wS D A s.heap (WX τ ad M) H locs → lv_has ls 5 [(1, .int (iI p1)), (2, .int (iI p2)), (3, .int (iI v3)), (4, .int (iI v4))] → W p l e (rmk 2 0 0) s m args below meth c H locs 0 0 (MQ below (gQi D (EQz (WX τ ad) MR Q) A) args s 0 0 A) (F0 m 10 ls []) := by
    intro n
    induction n with
    | zero => intro v3 v4 M H locs ls hM hv; rw [qX11_isBestAnswer_L10] at hv; exact hv.elim
    | succ n ih =>
      intro v3 v4 M H locs ls hM hv hw hl
      rw [qX11_isBestAnswer_L10] at hv
      refine lv_iload hx hb dX11_isBestAnswer_10 (lv_at hl 3 rfl) ?_
      refine r_bipush hx hb dX11_isBestAnswer_12 (by decide +kernel) ?_
      obtain ⟨c2, hv⟩ := hv
      refine r_icmp_gt (tgt := 36) hx hb dX11_isBestAnswer_14 (by decide) c2 (by decide) (fun b3 => ?_) (fun b3 => ?_)
      · have hv := hv.1 b3
        refine r_iconst hx hb dX11_isBestAnswer_36 ?_
        exact k_zret (wq_X τ ad) hx hb hr hlk hw hM (by decide) (by decide) hv dX11_isBestAnswer_37
      · have hv := hv.2 b3
        refine lv_iload hx hb dX11_isBestAnswer_17 (lv_at hl 3 rfl) ?_
        refine lv_iload_n hx hb dX11_isBestAnswer_19 rfl (lv_at hl 0 rfl) ?_
        refine lv_iload_n hx hb dX11_isBestAnswer_20 rfl (lv_at hl 1 rfl) ?_
        refine k_cSi (wq_X τ ad) hx hb hml hC hLS hA hw hl.1 (mX11_gain l D τ ad sA sV _ v4 p1 p2 c2 hp1 hp2 M hM _ hv) kX11_gain ml_X11_475 rfl rfl (Nat.le_of_ble_eq_true rfl) (rm_ok (by decide) (by decide)) ⟨Nat.zero_le _, Nat.zero_le _⟩ dX11_isBestAnswer_21 (fun x4 M4 H locs g4 hM hv hw => ?_)
        have hv := hv g4
        refine lv_iload_n hx hb dX11_isBestAnswer_24 rfl (lv_at hl 2 rfl) ?_
        obtain ⟨c5, hv⟩ := hv
        refine r_icmp_le (tgt := 30) hx hb dX11_isBestAnswer_25 (by decide) g4 c5 (fun b6 => ?_) (fun b6 => ?_)
        · have hv := hv.1 b6
          refine r_iinc (v := (v4 + 1)) (lv' := [(4, .int (iI (v4 + 1))), (1, .int (iI p1)), (2, .int (iI p2)), (3, .int (iI v3))]) hx hb dX11_isBestAnswer_30 hl (k := 3) rfl rfl (by decide) rfl (fun ls hl => ?_)
          refine lv_goto (tgt := 10) hx hb dX11_isBestAnswer_33 (by decide) ?_
          exact ih v3 (v4 + 1) M4 _ _ _ hM hv hw (lv_sub hl [1, 2, 3, 0] rfl)
        · have hv := hv.2 b6
          refine r_iconst hx hb dX11_isBestAnswer_28 ?_
          exact k_zret (wq_X τ ad) hx hb hr hlk hw hM (by decide) (by decide) hv dX11_isBestAnswer_29
  refine lv_iload_n hx hb dX11_isBestAnswer_0 rfl (lv_at hl 0 rfl) ?_
  refine lv_iload_n hx hb dX11_isBestAnswer_1 rfl (lv_at hl 1 rfl) ?_
  refine lv_iload_n hx hb dX11_isBestAnswer_2 rfl (lv_at hl 2 rfl) ?_
  refine k_cSi (wq_X τ ad) hx hb hml hC hLS hA hw hl.1 (mX11_gain l D τ ad sA sV _ p0 p1 p2 hp0 hp1 hp2 M hM _ hv) kX11_gain ml_X11_475 rfl rfl (Nat.le_of_ble_eq_true rfl) (rm_ok (by decide) (by decide)) ⟨Nat.zero_le _, Nat.zero_le _⟩ dX11_isBestAnswer_3 (fun x1 M1 H locs g1 hM hv hw => ?_)
  have hv := hv g1
  refine lv_istore_n (lv' := [(3, .int (iI x1)), (0, .int (iI p0)), (1, .int (iI p1)), (2, .int (iI p2))]) hx hb dX11_isBestAnswer_6 rfl hl (by decide) rfl (fun ls hl => ?_)
  refine r_iconst hx hb dX11_isBestAnswer_7 ?_
  refine lv_istore (lv' := [(4, .int (iI 0)), (3, .int (iI x1)), (0, .int (iI p0)), (1, .int (iI p1)), (2, .int (iI p2))]) hx hb dX11_isBestAnswer_8 hl (by decide) rfl (fun ls hl => ?_)
  obtain ⟨n7, hv⟩ := hv
  refine L10  n7 x1 0 M1 _ _ _ hM hv hw (lv_sub hl [3, 4, 1, 0] rfl)
set_option maxHeartbeats 4000000 in
set_option maxRecDepth 100000 in
theorem mX11_rests (l : Launch) (D : va_G) (τ : Nat → ClassId) (ad : Nat → Nat) (sA sV : Nat → Nat) (sz : Nat) (p1 : Int) (hp1 : iR p1) (M : Mem) (hM : MR M) (Q : Int → Mem → Prop) (hv : qX11_rests p1 M Q) : Met l yX11_rests (lw_w yX11_rests cX11_rests 5 (some .int)) (rmk 3 0 0) (kPc D τ sA sV (WX τ ad M) sz [.ref (ad 155), .int (iI p1)]) (gQi D (EQi (WX τ ad) MR Q) (va_A (WX τ ad M) sz)) 0 0 (va_A (WX τ ad M) sz) := by
  refine k_met (ret := (some .int)) (Qc := gQi D (EQi (WX τ ad) MR Q)) (by decide +kernel) (Nat.le_of_ble_eq_true rfl) ?_
  intro p e s m args below meth c A ls hx hb hml hr hlk hnm hC hLS hA hw hl
  have hC : cx D τ s m args RX11 := hC
  have hl : lv_has ls 5 [(0, .ref (ad 155)), (1, .int (iI p1))] := hl
  unfold qX11_rests at hv
  have L32 : ∀ (X85 : Int → Int → Mem → Prop), (∀ (v2 : Int) (v3 : Int) (M : Mem) (H : Heap) (locs : List Loc) (ls : Array Slot), MR M → X85 v2 v3 M → wS D A s.heap (WX τ ad M) H locs → lv_has ls 5 [(0, .ref (ad 155)), (1, .int (iI p1)), (2, .int (iI v2)), (3, .int (iI v3))] → W p l e (rmk 3 0 0) s m args below meth c H locs 0 0 (MQ below (gQi D (EQi (WX τ ad) MR Q) A) args s 0 0 A) (F0 m 85 ls [])) → ∀ (n : Nat) (v2 : Int) (v3 : Int) (v4 : Int) (M : Mem) (H : Heap) (locs : List Loc) (ls : Array Slot), MR M → qX11_rests_L32 p1 X85 Q n v2 v3 v4 M → wS D A s.heap (WX τ ad M) H locs → lv_has ls 5 [(0, .ref (ad 155)), (1, .int (iI p1)), (2, .int (iI v2)), (3, .int (iI v3)), (4, .int (iI v4))] → W p l e (rmk 3 0 0) s m args below meth c H locs 0 0 (MQ below (gQi D (EQi (WX τ ad) MR Q) A) args s 0 0 A) (F0 m 32 ls []) := by
    intro X85 hX85 n
    induction n with
    | zero => intro v2 v3 v4 M H locs ls hM hv; rw [qX11_rests_L32] at hv; exact hv.elim
    | succ n ih =>
      intro v2 v3 v4 M H locs ls hM hv hw hl
      rw [qX11_rests_L32] at hv
      refine lv_iload hx hb dX11_rests_32 (lv_at hl 4 rfl) ?_
      refine r_bipush hx hb dX11_rests_34 (by decide +kernel) ?_
      obtain ⟨c7, hv⟩ := hv
      refine r_icmp_gt (tgt := 85) hx hb dX11_rests_36 (by decide) c7 (by decide) (fun b8 => ?_) (fun b8 => ?_)
      · have hv := hv.1 b8
        exact hX85 v2 v3 M _ _ _ hM hv hw (lv_sub hl [0, 1, 2, 3] rfl)
      · have hv := hv.2 b8
        refine lv_iload_n hx hb dX11_rests_39 rfl (lv_at hl 3 rfl) ?_
        refine lv_iload hx hb dX11_rests_40 (lv_at hl 4 rfl) ?_
        refine lv_iload_n hx hb dX11_rests_42 rfl (lv_at hl 1 rfl) ?_
        obtain ⟨c9, hv⟩ := hv
        refine k_cSz (wq_X τ ad) hx hb hml hC hLS hA hw hl.1 (mX11_isBestAnswer l D τ ad sA sV _ v3 v4 p1 c9 c7 hp1 M hM _ hv) kX11_isBestAnswer ml_X11_471 rfl rfl (Nat.le_of_ble_eq_true rfl) (rm_ok (by decide) (by decide)) ⟨Nat.zero_le _, Nat.zero_le _⟩ dX11_rests_43 (fun x10 M10 H locs g10 z10 hM hv hw => ?_)
        have hv := hv g10 z10
        refine r_if_eq (tgt := 79) hx hb dX11_rests_46 (by decide) g10  (fun b11 => ?_) (fun b11 => ?_)
        · have hv := hv.1 b11
          refine r_iinc (v := (v4 + 1)) (lv' := [(4, .int (iI (v4 + 1))), (0, .ref (ad 155)), (1, .int (iI p1)), (2, .int (iI v2)), (3, .int (iI v3))]) hx hb dX11_rests_79 hl (k := 4) rfl rfl (by decide) rfl (fun ls hl => ?_)
          refine lv_goto (tgt := 32) hx hb dX11_rests_82 (by decide) ?_
          exact ih v2 v3 (v4 + 1) M10 _ _ _ hM hv hw (lv_sub hl [1, 2, 3, 4, 0] rfl)
        · have hv := hv.2 b11
          refine lv_iload hx hb dX11_rests_49 (lv_at hl 4 rfl) ?_
          refine lv_iload_n hx hb dX11_rests_51 rfl (lv_at hl 3 rfl) ?_
          refine lv_iload_n hx hb dX11_rests_52 rfl (lv_at hl 1 rfl) ?_
          refine k_cSz (wq_X τ ad) hx hb hml hC hLS hA hw hl.1 (mX11_isBestAnswer l D τ ad sA sV _ v4 v3 p1 c7 c9 hp1 M10 hM _ hv) kX11_isBestAnswer ml_X11_471 rfl rfl (Nat.le_of_ble_eq_true rfl) (rm_ok (by decide) (by decide)) ⟨Nat.zero_le _, Nat.zero_le _⟩ dX11_rests_53 (fun x12 M12 H locs g12 z12 hM hv hw => ?_)
          have hv := hv g12 z12
          refine r_if_eq (tgt := 79) hx hb dX11_rests_56 (by decide) g12  (fun b13 => ?_) (fun b13 => ?_)
          · have hv := hv.1 b13
            refine r_iinc (v := (v4 + 1)) (lv' := [(4, .int (iI (v4 + 1))), (0, .ref (ad 155)), (1, .int (iI p1)), (2, .int (iI v2)), (3, .int (iI v3))]) hx hb dX11_rests_79 hl (k := 4) rfl rfl (by decide) rfl (fun ls hl => ?_)
            refine lv_goto (tgt := 32) hx hb dX11_rests_82 (by decide) ?_
            exact ih v2 v3 (v4 + 1) M12 _ _ _ hM hv hw (lv_sub hl [1, 2, 3, 4, 0] rfl)
          · have hv := hv.2 b13
            refine r_iinc (v := (v2 + 1)) (lv' := [(2, .int (iI (v2 + 1))), (0, .ref (ad 155)), (1, .int (iI p1)), (3, .int (iI v3)), (4, .int (iI v4))]) hx hb dX11_rests_59 hl (k := 2) rfl rfl (by decide) rfl (fun ls hl => ?_)
            refine lv_iload_n hx hb dX11_rests_62 rfl (lv_at hl 0 rfl) ?_
            refine r_iconst hx hb dX11_rests_63 ?_
            obtain ⟨c14, hv⟩ := hv
            refine r_icmp_ne (tgt := 79) hx hb dX11_rests_64 (by decide) c14 (by decide) (fun b15 => ?_) (fun b15 => ?_)
            · have hv := hv.1 b15
              refine r_iinc (v := (v4 + 1)) (lv' := [(4, .int (iI (v4 + 1))), (2, .int (iI (v2 + 1))), (0, .ref (ad 155)), (1, .int (iI p1)), (3, .int (iI v3))]) hx hb dX11_rests_79 hl (k := 4) rfl rfl (by decide) rfl (fun ls hl => ?_)
              refine lv_goto (tgt := 32) hx hb dX11_rests_82 (by decide) ?_
              exact ih (v2 + 1) v3 (v4 + 1) M12 _ _ _ hM hv hw (lv_sub hl [2, 3, 1, 4, 0] rfl)
            · have hv := hv.2 b15
              refine lv_aload_n hx hb dX11_rests_67 rfl (lv_at hl 1 rfl) ?_
              refine gf_X11_66 hx hb hC hw 155 (gX_155 τ ad M12) rfl dX11_rests_68 ?_
              refine lv_iload_n hx hb dX11_rests_71 rfl (lv_at hl 3 rfl) ?_
              refine r_i2l hx hb dX11_rests_72 c9 ?_
              refine lv_iload hx hb dX11_rests_73 (lv_at hl 4 rfl) ?_
              refine r_i2l hx hb dX11_rests_75 c7 ?_
              refine k_cVv (wq_X τ ad) hx hb hml hC hLS hA hw hl.1 (mX4_tellTwo l D τ ad sA sV _ v3 v4 (iR_lR c9) (iR_lR c7) M12 hM _ hv) kX4_tellTwo ml_X11_298 rfl (gX_167 τ ad M12) rfl rfl (Nat.le_of_ble_eq_true rfl) (rm_ok (by decide) (by decide)) ⟨Nat.zero_le _, Nat.zero_le _⟩ dX11_rests_76 (fun M16 H locs hM hv hw => ?_)
              refine r_iinc (v := (v4 + 1)) (lv' := [(4, .int (iI (v4 + 1))), (2, .int (iI (v2 + 1))), (0, .ref (ad 155)), (1, .int (iI p1)), (3, .int (iI v3))]) hx hb dX11_rests_79 hl (k := 4) rfl rfl (by decide) rfl (fun ls hl => ?_)
              refine lv_goto (tgt := 32) hx hb dX11_rests_82 (by decide) ?_
              exact ih (v2 + 1) v3 (v4 + 1) M16 _ _ _ hM hv hw (lv_sub hl [2, 3, 1, 4, 0] rfl)
  have L23 : ∀ (n : Nat) (v2 : Int) (v3 : Int) (M : Mem) (H : Heap) (locs : List Loc) (ls : Array Slot), MR M → qX11_rests_L23 p1  Q n v2 v3 M → wS D A s.heap (WX τ ad M) H locs → lv_has ls 5 [(0, .ref (ad 155)), (1, .int (iI p1)), (2, .int (iI v2)), (3, .int (iI v3))] → W p l e (rmk 3 0 0) s m args below meth c H locs 0 0 (MQ below (gQi D (EQi (WX τ ad) MR Q) A) args s 0 0 A) (F0 m 23 ls []) := by
    intro n
    induction n with
    | zero => intro v2 v3 M H locs ls hM hv; rw [qX11_rests_L23] at hv; exact hv.elim
    | succ n ih =>
      intro v2 v3 M H locs ls hM hv hw hl
      rw [qX11_rests_L23] at hv
      refine lv_iload_n hx hb dX11_rests_23 rfl (lv_at hl 3 rfl) ?_
      refine r_bipush hx hb dX11_rests_24 (by decide +kernel) ?_
      obtain ⟨c4, hv⟩ := hv
      refine r_icmp_gt (tgt := 91) hx hb dX11_rests_26 (by decide) c4 (by decide) (fun b5 => ?_) (fun b5 => ?_)
      · have hv := hv.1 b5
        refine lv_iload_n hx hb dX11_rests_91 rfl (lv_at hl 2 rfl) ?_
        obtain ⟨c6, hv⟩ := hv
        exact k_iret (wq_X τ ad) hx hb hr hlk hw hM c6 hv dX11_rests_92
      · have hv := hv.2 b5
        refine r_iconst hx hb dX11_rests_29 ?_
        refine lv_istore (lv' := [(4, .int (iI 0)), (0, .ref (ad 155)), (1, .int (iI p1)), (2, .int (iI v2)), (3, .int (iI v3))]) hx hb dX11_rests_30 hl (by decide) rfl (fun ls hl => ?_)
        obtain ⟨n17, hv⟩ := hv
        refine L32 _ ?_ n17 v2 v3 0 M _ _ _ hM hv hw (lv_sub hl [1, 2, 3, 4, 0] rfl)
        · intro v2 v3 M H locs ls hM hv hw hl
          refine r_iinc (v := (v3 + 1)) (lv' := [(3, .int (iI (v3 + 1))), (0, .ref (ad 155)), (1, .int (iI p1)), (2, .int (iI v2))]) hx hb dX11_rests_85 hl (k := 3) rfl rfl (by decide) rfl (fun ls hl => ?_)
          refine lv_goto (tgt := 23) hx hb dX11_rests_88 (by decide) ?_
          exact ih v2 (v3 + 1) M _ _ _ hM hv hw (lv_sub hl [1, 2, 3, 0] rfl)
  refine lv_iload_n hx hb dX11_rests_0 rfl (lv_at hl 1 rfl) ?_
  refine r_if_lt (tgt := 10) hx hb dX11_rests_1 (by decide) hp1  (fun b1 => ?_) (fun b1 => ?_)
  · have hv := hv.1 b1
    refine r_iconst hx hb dX11_rests_10 ?_
    exact k_iret (wq_X τ ad) hx hb hr hlk hw hM (by decide) hv dX11_rests_11
  · have hv := hv.2 b1
    refine lv_iload_n hx hb dX11_rests_4 rfl (lv_at hl 1 rfl) ?_
    refine r_bipush hx hb dX11_rests_5 (by decide +kernel) ?_
    refine r_icmp_le (tgt := 12) hx hb dX11_rests_7 (by decide) hp1 (by decide) (fun b2 => ?_) (fun b2 => ?_)
    · have hv := hv.1 b2
      refine lv_aload_n hx hb dX11_rests_12 rfl (lv_at hl 0 rfl) ?_
      refine gf_X11_66 hx hb hC hw 155 (gX_155 τ ad M) rfl dX11_rests_13 ?_
      refine k_cVv (wq_X τ ad) hx hb hml hC hLS hA hw hl.1 (mX4_clear l D τ ad sA sV _   M hM _ hv) kX4_clear ml_X11_349 rfl (gX_167 τ ad M) rfl rfl (Nat.le_of_ble_eq_true rfl) (rm_ok (by decide) (by decide)) ⟨Nat.zero_le _, Nat.zero_le _⟩ dX11_rests_16 (fun M3 H locs hM hv hw => ?_)
      refine r_iconst hx hb dX11_rests_19 ?_
      refine lv_istore_n (lv' := [(2, .int (iI 0)), (0, .ref (ad 155)), (1, .int (iI p1))]) hx hb dX11_rests_20 rfl hl (by decide) rfl (fun ls hl => ?_)
      refine r_iconst hx hb dX11_rests_21 ?_
      refine lv_istore_n (lv' := [(3, .int (iI 0)), (2, .int (iI 0)), (0, .ref (ad 155)), (1, .int (iI p1))]) hx hb dX11_rests_22 rfl hl (by decide) rfl (fun ls hl => ?_)
      obtain ⟨n18, hv⟩ := hv
      refine L23  n18 0 0 M3 _ _ _ hM hv hw (lv_sub hl [2, 3, 1, 0] rfl)
    · have hv := hv.2 b2
      refine r_iconst hx hb dX11_rests_10 ?_
      exact k_iret (wq_X τ ad) hx hb hr hlk hw hM (by decide) hv dX11_rests_11
set_option maxHeartbeats 4000000 in
set_option maxRecDepth 100000 in
theorem mX11_draw (l : Launch) (D : va_G) (τ : Nat → ClassId) (ad : Nat → Nat) (sA sV : Nat → Nat) (sz : Nat) (p1 : Int) (hp1 : iR p1) (M : Mem) (hM : MR M) (Q : Int → Mem → Prop) (hv : qX11_draw p1 M Q) : Met l yX11_draw (lw_w yX11_draw cX11_draw 2 (some .int)) (rmk 1 0 0) (kPc D τ sA sV (WX τ ad M) sz [.ref (ad 155), .int (iI p1)]) (gQi D (EQi (WX τ ad) MR Q) (va_A (WX τ ad M) sz)) 0 0 (va_A (WX τ ad M) sz) := by
  refine k_met (ret := (some .int)) (Qc := gQi D (EQi (WX τ ad) MR Q)) (by decide +kernel) (Nat.le_of_ble_eq_true rfl) ?_
  intro p e s m args below meth c A ls hx hb hml hr hlk hnm hC hLS hA hw hl
  have hC : cx D τ s m args RX11 := hC
  have hl : lv_has ls 2 [(0, .ref (ad 155)), (1, .int (iI p1))] := hl
  unfold qX11_draw at hv
  refine lv_aload_n hx hb dX11_draw_0 rfl (lv_at hl 0 rfl) ?_
  refine lv_aload_n hx hb dX11_draw_1 rfl (lv_at hl 0 rfl) ?_
  refine gf_X11_98 hx hb hC hw 155 (gX_155 τ ad M) rfl dX11_draw_2 ?_
  refine r_top (fun x1 e1 => ?_)
  have g1 : iR x1 := by rw [e1]; exact hM.get (by decide) _
  have hv := hv x1 e1 g1
  refine r_ldcw (z := 1103515245) hx hb hC ct_X11_485 (by decide +kernel) dX11_draw_5 ?_
  refine r_imulW hx hb dX11_draw_8 (fun x2 e2 g2 => ?_)
  have hv := hv x2 e2 g2
  refine r_sipush hx hb dX11_draw_9 (by decide +kernel) ?_
  refine r_iaddW hx hb dX11_draw_12 (fun x3 e3 g3 => ?_)
  have hv := hv x3 e3 g3
  obtain ⟨M4, e4⟩ : ∃ M4 : Mem, M4 = up2 M 155 15 x3 := ⟨_, rfl⟩
  have hv := hv M4 e4
  refine pf_X11_98 (ws' := (WX τ ad M4)) hx hb hC hw 155 (gX_155 τ ad M) (Nat.le_of_ble_eq_true rfl) (by rw [e4]; exact sX_155_15 τ ad M _) dX11_draw_13 (fun H locs hw => ?_)
  have hM : MR M4 := by rw [e4]; exact hM.put (by decide) g3
  refine lv_iload_n hx hb dX11_draw_16 rfl (lv_at hl 1 rfl) ?_
  refine r_iconst hx hb dX11_draw_17 ?_
  refine r_icmp_ge (tgt := 25) hx hb dX11_draw_18 (by decide) hp1 (by decide) (fun b5 => ?_) (fun b5 => ?_)
  · have hv := hv.1 b5
    refine lv_aload_n hx hb dX11_draw_25 rfl (lv_at hl 0 rfl) ?_
    refine gf_X11_98 hx hb hC hw 155 (gX_155 τ ad M4) rfl dX11_draw_26 ?_
    refine r_top (fun x6 e6 => ?_)
    have g6 : iR x6 := by rw [e6]; exact hM.get (by decide) _
    have hv := hv x6 e6 g6
    refine r_bipush hx hb dX11_draw_29 (by decide +kernel) ?_
    refine r_iushrF hx hb dX11_draw_31 (fun x7 e7 g7 => ?_)
    have hv := hv x7 e7 g7
    refine lv_iload_n hx hb dX11_draw_32 rfl (lv_at hl 1 rfl) ?_
    obtain ⟨c8, hv⟩ := hv
    refine r_iremF hx hb dX11_draw_33 hp1 c8 (fun x9 e9 g9 => ?_)
    have hv := hv x9 e9 g9
    exact k_iret (wq_X τ ad) hx hb hr hlk hw hM g9 hv dX11_draw_34
  · have hv := hv.2 b5
    refine r_iconst hx hb dX11_draw_21 ?_
    refine lv_goto (tgt := 34) hx hb dX11_draw_22 (by decide) ?_
    exact k_iret (wq_X τ ad) hx hb hr hlk hw hM (by decide) hv dX11_draw_34
set_option maxHeartbeats 4000000 in
set_option maxRecDepth 100000 in
theorem mX11_years (l : Launch) (D : va_G) (τ : Nat → ClassId) (ad : Nat → Nat) (sA sV : Nat → Nat) (sz : Nat) (p1 : Int) (p2 : Int) (hp1 : iR p1) (hp2 : iR p2) (M : Mem) (hM : MR M) (Q : Int → Mem → Prop) (hv : qX11_years p1 p2 M Q) : Met l yX11_years (lw_w yX11_years cX11_years 6 (some .int)) (rmk 5 0 0) (kPc D τ sA sV (WX τ ad M) sz [.ref (ad 155), .int (iI p1), .int (iI p2)]) (gQi D (EQi (WX τ ad) MR Q) (va_A (WX τ ad M) sz)) 0 0 (va_A (WX τ ad M) sz) := by
  refine k_met (ret := (some .int)) (Qc := gQi D (EQi (WX τ ad) MR Q)) (by decide +kernel) (Nat.le_of_ble_eq_true rfl) ?_
  intro p e s m args below meth c A ls hx hb hml hr hlk hnm hC hLS hA hw hl
  have hC : cx D τ s m args RX11 := hC
  have hl : lv_has ls 6 [(0, .ref (ad 155)), (1, .int (iI p1)), (2, .int (iI p2))] := hl
  unfold qX11_years at hv
  have L31 : ∀ (X155 : Mem → Prop), (∀  (M : Mem) (H : Heap) (locs : List Loc) (ls : Array Slot), MR M → X155  M → wS D A s.heap (WX τ ad M) H locs → lv_has ls 6 [(0, .ref (ad 155))] → W p l e (rmk 5 0 0) s m args below meth c H locs 0 0 (MQ below (gQi D (EQi (WX τ ad) MR Q) A) args s 0 0 A) (F0 m 155 ls [])) → ∀ (n : Nat) (v3 : Int) (M : Mem) (H : Heap) (locs : List Loc) (ls : Array Slot), MR M → qX11_years_L31 p1 p2 X155 Q n v3 M → wS D A s.heap (WX τ ad M) H locs → lv_has ls 6 [(0, .ref (ad 155)), (2, .int (iI p2)), (3, .int (iI v3))] → W p l e (rmk 5 0 0) s m args below meth c H locs 0 0 (MQ below (gQi D (EQi (WX τ ad) MR Q) A) args s 0 0 A) (F0 m 31 ls []) := by
    intro X155 hX155 n
    induction n with
    | zero => intro v3 M H locs ls hM hv; rw [qX11_years_L31] at hv; exact hv.elim
    | succ n ih =>
      intro v3 M H locs ls hM hv hw hl
      rw [qX11_years_L31] at hv
      refine lv_iload_n hx hb dX11_years_31 rfl (lv_at hl 2 rfl) ?_
      refine lv_iload_n hx hb dX11_years_32 rfl (lv_at hl 1 rfl) ?_
      obtain ⟨c5, hv⟩ := hv
      refine r_icmp_ge (tgt := 155) hx hb dX11_years_33 (by decide) c5 hp2 (fun b6 => ?_) (fun b6 => ?_)
      · have hv := hv.1 b6
        exact hX155  M _ _ _ hM hv hw (lv_sub hl [0] rfl)
      · have hv := hv.2 b6
        refine lv_aload_n hx hb dX11_years_36 rfl (lv_at hl 0 rfl) ?_
        refine r_iconst hx hb dX11_years_37 ?_
        refine k_cVi (wq_X τ ad) hx hb hml hC hLS hA hw hl.1 (mX11_draw l D τ ad sA sV _ 4 (by decide) M hM _ hv) kX11_draw ml_X11_479 rfl (gX_155 τ ad M) rfl rfl (Nat.le_of_ble_eq_true rfl) (rm_ok (by decide) (by decide)) ⟨Nat.zero_le _, Nat.zero_le _⟩ dX11_years_38 (fun x7 M7 H locs g7 hM hv hw => ?_)
        have hv := hv g7
        refine lv_istore (lv' := [(4, .int (iI x7)), (0, .ref (ad 155)), (2, .int (iI p2)), (3, .int (iI v3))]) hx hb dX11_years_41 hl (by decide) rfl (fun ls hl => ?_)
        refine lv_iload hx hb dX11_years_43 (lv_at hl 0 rfl) ?_
        refine r_iconst hx hb dX11_years_45 ?_
        refine r_icmp_ge (tgt := 67) hx hb dX11_years_46 (by decide) g7 (by decide) (fun b8 => ?_) (fun b8 => ?_)
        · have hv := hv.1 b8
          refine lv_iload hx hb dX11_years_67 (lv_at hl 0 rfl) ?_
          refine r_iconst hx hb dX11_years_69 ?_
          refine r_icmp_ne (tgt := 105) hx hb dX11_years_70 (by decide) g7 (by decide) (fun b9 => ?_) (fun b9 => ?_)
          · have hv := hv.1 b9
            refine lv_aload_n hx hb dX11_years_105 rfl (lv_at hl 1 rfl) ?_
            refine gf_X11_30 hx hb hC hw 155 (gX_155 τ ad M7) rfl dX11_years_106 ?_
            refine gf_X11_191 hx hb hC hw 8 (gS_X (by decide) τ ad M7) rfl dX11_years_109 ?_
            refine r_top (fun x10 e10 => ?_)
            have g10 : iR x10 := by rw [e10]; exact hM.get (by decide) _
            have hv := hv x10 e10 g10
            refine r_if_le (tgt := 149) hx hb dX11_years_112 (by decide) g10  (fun b11 => ?_) (fun b11 => ?_)
            · have hv := hv.1 b11
              refine r_iinc (v := (v3 + 1)) (lv' := [(3, .int (iI (v3 + 1))), (4, .int (iI x7)), (0, .ref (ad 155)), (2, .int (iI p2))]) hx hb dX11_years_149 hl (k := 3) rfl rfl (by decide) rfl (fun ls hl => ?_)
              refine lv_goto (tgt := 31) hx hb dX11_years_152 (by decide) ?_
              exact ih (v3 + 1) M7 _ _ _ hM hv hw (lv_sub hl [2, 3, 0] rfl)
            · have hv := hv.2 b11
              refine lv_aload_n hx hb dX11_years_115 rfl (lv_at hl 1 rfl) ?_
              refine lv_aload_n hx hb dX11_years_116 rfl (lv_at hl 1 rfl) ?_
              refine gf_X11_30 hx hb hC hw 155 (gX_155 τ ad M7) rfl dX11_years_117 ?_
              refine gf_X11_191 hx hb hC hw 8 (gS_X (by decide) τ ad M7) rfl dX11_years_120 ?_
              refine r_top (fun x12 e12 => ?_)
              have g12 : iR x12 := by rw [e12]; exact hM.get (by decide) _
              have hv := hv x12 e12 g12
              refine k_cVi (wq_X τ ad) hx hb hml hC hLS hA hw hl.1 (mX11_draw l D τ ad sA sV _ x12 g12 M7 hM _ hv) kX11_draw ml_X11_479 rfl (gX_155 τ ad M7) rfl rfl (Nat.le_of_ble_eq_true rfl) (rm_ok (by decide) (by decide)) ⟨Nat.zero_le _, Nat.zero_le _⟩ dX11_years_123 (fun x13 M13 H locs g13 hM hv hw => ?_)
              have hv := hv g13
              refine lv_istore (lv' := [(5, .int (iI x13)), (4, .int (iI x7)), (0, .ref (ad 155)), (2, .int (iI p2)), (3, .int (iI v3))]) hx hb dX11_years_126 hl (by decide) rfl (fun ls hl => ?_)
              refine lv_aload_n hx hb dX11_years_128 rfl (lv_at hl 2 rfl) ?_
              refine gf_X11_30 hx hb hC hw 155 (gX_155 τ ad M13) rfl dX11_years_129 ?_
              refine lv_iload hx hb dX11_years_132 (lv_at hl 0 rfl) ?_
              refine lv_aload_n hx hb dX11_years_134 rfl (lv_at hl 2 rfl) ?_
              refine r_iconst hx hb dX11_years_135 ?_
              refine k_cVi (wq_X τ ad) hx hb hml hC hLS hA hw hl.1 (mX11_draw l D τ ad sA sV _ 5 (by decide) M13 hM _ hv) kX11_draw ml_X11_479 rfl (gX_155 τ ad M13) rfl rfl (Nat.le_of_ble_eq_true rfl) (rm_ok (by decide) (by decide)) ⟨Nat.zero_le _, Nat.zero_le _⟩ dX11_years_136 (fun x14 M14 H locs g14 hM hv hw => ?_)
              have hv := hv g14
              refine r_iconst hx hb dX11_years_139 ?_
              refine r_isub (z := (x14 - 2)) hx hb dX11_years_140 rfl ?_
              refine lv_aload_n hx hb dX11_years_141 rfl (lv_at hl 2 rfl) ?_
              refine gf_X11_19 hx hb hC hw 155 (gX_155 τ ad M14) rfl dX11_years_142 ?_
              obtain ⟨c15, hv⟩ := hv
              refine k_cVi (wq_X τ ad) hx hb hml hC hLS hA hw hl.1 (mX6_shove l D τ ad sA sV _ 8 x13 (x14 - 2) (by decide) g13 c15 M14 hM _ hv) kX6_shove ml_X11_311 rfl (gS_X (by decide) τ ad M14) rfl rfl (Nat.le_of_ble_eq_true rfl) (rm_ok (by decide) (by decide)) ⟨Nat.zero_le _, Nat.zero_le _⟩ dX11_years_145 (fun x16 M16 H locs g16 hM hv hw => ?_)
              have hv := hv g16
              refine lv_pop hx hb dX11_years_148 rfl ?_
              refine r_iinc (v := (v3 + 1)) (lv' := [(3, .int (iI (v3 + 1))), (5, .int (iI x13)), (4, .int (iI x7)), (0, .ref (ad 155)), (2, .int (iI p2))]) hx hb dX11_years_149 hl (k := 4) rfl rfl (by decide) rfl (fun ls hl => ?_)
              refine lv_goto (tgt := 31) hx hb dX11_years_152 (by decide) ?_
              exact ih (v3 + 1) M16 _ _ _ hM hv hw (lv_sub hl [3, 4, 0] rfl)
          · have hv := hv.2 b9
            refine lv_aload_n hx hb dX11_years_73 rfl (lv_at hl 1 rfl) ?_
            refine gf_X11_30 hx hb hC hw 155 (gX_155 τ ad M7) rfl dX11_years_74 ?_
            refine gf_X11_191 hx hb hC hw 8 (gS_X (by decide) τ ad M7) rfl dX11_years_77 ?_
            refine r_top (fun x17 e17 => ?_)
            have g17 : iR x17 := by rw [e17]; exact hM.get (by decide) _
            have hv := hv x17 e17 g17
            refine r_if_le (tgt := 149) hx hb dX11_years_80 (by decide) g17  (fun b18 => ?_) (fun b18 => ?_)
            · have hv := hv.1 b18
              refine r_iinc (v := (v3 + 1)) (lv' := [(3, .int (iI (v3 + 1))), (4, .int (iI x7)), (0, .ref (ad 155)), (2, .int (iI p2))]) hx hb dX11_years_149 hl (k := 3) rfl rfl (by decide) rfl (fun ls hl => ?_)
              refine lv_goto (tgt := 31) hx hb dX11_years_152 (by decide) ?_
              exact ih (v3 + 1) M7 _ _ _ hM hv hw (lv_sub hl [2, 3, 0] rfl)
            · have hv := hv.2 b18
              refine lv_aload_n hx hb dX11_years_83 rfl (lv_at hl 1 rfl) ?_
              refine gf_X11_30 hx hb hC hw 155 (gX_155 τ ad M7) rfl dX11_years_84 ?_
              refine lv_aload_n hx hb dX11_years_87 rfl (lv_at hl 1 rfl) ?_
              refine lv_aload_n hx hb dX11_years_88 rfl (lv_at hl 1 rfl) ?_
              refine gf_X11_30 hx hb hC hw 155 (gX_155 τ ad M7) rfl dX11_years_89 ?_
              refine gf_X11_191 hx hb hC hw 8 (gS_X (by decide) τ ad M7) rfl dX11_years_92 ?_
              refine r_top (fun x19 e19 => ?_)
              have g19 : iR x19 := by rw [e19]; exact hM.get (by decide) _
              have hv := hv x19 e19 g19
              refine k_cVi (wq_X τ ad) hx hb hml hC hLS hA hw hl.1 (mX11_draw l D τ ad sA sV _ x19 g19 M7 hM _ hv) kX11_draw ml_X11_479 rfl (gX_155 τ ad M7) rfl rfl (Nat.le_of_ble_eq_true rfl) (rm_ok (by decide) (by decide)) ⟨Nat.zero_le _, Nat.zero_le _⟩ dX11_years_95 (fun x20 M20 H locs g20 hM hv hw => ?_)
              have hv := hv g20
              refine k_cVi (wq_X τ ad) hx hb hml hC hLS hA hw hl.1 (mX6_turn l D τ ad sA sV _ 8 x20 (by decide) g20 M20 hM _ hv) kX6_turn ml_X11_308 rfl (gS_X (by decide) τ ad M20) rfl rfl (Nat.le_of_ble_eq_true rfl) (rm_ok (by decide) (by decide)) ⟨Nat.zero_le _, Nat.zero_le _⟩ dX11_years_98 (fun x21 M21 H locs g21 hM hv hw => ?_)
              have hv := hv g21
              refine lv_pop hx hb dX11_years_101 rfl ?_
              refine lv_goto (tgt := 149) hx hb dX11_years_102 (by decide) ?_
              refine r_iinc (v := (v3 + 1)) (lv' := [(3, .int (iI (v3 + 1))), (4, .int (iI x7)), (0, .ref (ad 155)), (2, .int (iI p2))]) hx hb dX11_years_149 hl (k := 3) rfl rfl (by decide) rfl (fun ls hl => ?_)
              refine lv_goto (tgt := 31) hx hb dX11_years_152 (by decide) ?_
              exact ih (v3 + 1) M21 _ _ _ hM hv hw (lv_sub hl [2, 3, 0] rfl)
        · have hv := hv.2 b8
          refine lv_aload_n hx hb dX11_years_49 rfl (lv_at hl 1 rfl) ?_
          refine gf_X11_44 hx hb hC hw 155 (gX_155 τ ad M7) rfl dX11_years_50 ?_
          refine lv_aload_n hx hb dX11_years_53 rfl (lv_at hl 1 rfl) ?_
          refine gf_X11_30 hx hb hC hw 155 (gX_155 τ ad M7) rfl dX11_years_54 ?_
          refine lv_aload_n hx hb dX11_years_57 rfl (lv_at hl 1 rfl) ?_
          refine gf_X11_105 hx hb hC hw 155 (gX_155 τ ad M7) rfl dX11_years_58 ?_
          obtain ⟨c22, hv⟩ := hv
          refine k_cVv (wq_X τ ad) hx hb hml hC hLS hA hw hl.1 (mX10_advance l D τ ad sA sV _ 8 (M7 155 16).toNat (by decide) c22 M7 hM _ hv) kX10_advance ml_X11_362 rfl (gX_160 τ ad M7) rfl rfl (Nat.le_of_ble_eq_true rfl) (rm_ok (by decide) (by decide)) ⟨Nat.zero_le _, Nat.zero_le _⟩ dX11_years_61 (fun M23 H locs hM hv hw => ?_)
          refine lv_goto (tgt := 149) hx hb dX11_years_64 (by decide) ?_
          refine r_iinc (v := (v3 + 1)) (lv' := [(3, .int (iI (v3 + 1))), (4, .int (iI x7)), (0, .ref (ad 155)), (2, .int (iI p2))]) hx hb dX11_years_149 hl (k := 3) rfl rfl (by decide) rfl (fun ls hl => ?_)
          refine lv_goto (tgt := 31) hx hb dX11_years_152 (by decide) ?_
          exact ih (v3 + 1) M23 _ _ _ hM hv hw (lv_sub hl [2, 3, 0] rfl)
  refine lv_iload_n hx hb dX11_years_0 rfl (lv_at hl 2 rfl) ?_
  refine r_iconst hx hb dX11_years_1 ?_
  refine r_icmp_lt (tgt := 11) hx hb dX11_years_2 (by decide) hp2 (by decide) (fun b1 => ?_) (fun b1 => ?_)
  · have hv := hv.1 b1
    refine r_iconst hx hb dX11_years_11 ?_
    exact k_iret (wq_X τ ad) hx hb hr hlk hw hM (by decide) hv dX11_years_12
  · have hv := hv.2 b1
    refine lv_iload_n hx hb dX11_years_5 rfl (lv_at hl 2 rfl) ?_
    refine r_bipush hx hb dX11_years_6 (by decide +kernel) ?_
    refine r_icmp_le (tgt := 13) hx hb dX11_years_8 (by decide) hp2 (by decide) (fun b2 => ?_) (fun b2 => ?_)
    · have hv := hv.1 b2
      refine lv_aload_n hx hb dX11_years_13 rfl (lv_at hl 0 rfl) ?_
      refine gf_X11_30 hx hb hC hw 155 (gX_155 τ ad M) rfl dX11_years_14 ?_
      refine lv_aload_n hx hb dX11_years_17 rfl (lv_at hl 0 rfl) ?_
      refine gf_X11_26 hx hb hC hw 155 (gX_155 τ ad M) rfl dX11_years_18 ?_
      refine k_cVv (wq_X τ ad) hx hb hml hC hLS hA hw hl.1 (mX6_copyFrom l D τ ad sA sV _ 8 1 (by decide) (by decide) M hM _ hv) kX6_copyFrom ml_X11_153 rfl (gS_X (by decide) τ ad M) rfl rfl (Nat.le_of_ble_eq_true rfl) (rm_ok (by decide) (by decide)) ⟨Nat.zero_le _, Nat.zero_le _⟩ dX11_years_21 (fun M3 H locs hM hv hw => ?_)
      refine lv_aload_n hx hb dX11_years_24 rfl (lv_at hl 0 rfl) ?_
      refine lv_iload_n hx hb dX11_years_25 rfl (lv_at hl 1 rfl) ?_
      obtain ⟨M4, e4⟩ : ∃ M4 : Mem, M4 = up2 M3 155 15 p1 := ⟨_, rfl⟩
      have hv := hv M4 e4
      refine pf_X11_98 (ws' := (WX τ ad M4)) hx hb hC hw 155 (gX_155 τ ad M3) (Nat.le_of_ble_eq_true rfl) (by rw [e4]; exact sX_155_15 τ ad M3 _) dX11_years_26 (fun H locs hw => ?_)
      have hM : MR M4 := by rw [e4]; exact hM.put (by decide) hp1
      refine r_iconst hx hb dX11_years_29 ?_
      refine lv_istore_n (lv' := [(3, .int (iI 0)), (0, .ref (ad 155)), (1, .int (iI p1)), (2, .int (iI p2))]) hx hb dX11_years_30 rfl hl (by decide) rfl (fun ls hl => ?_)
      obtain ⟨n24, hv⟩ := hv
      refine L31 _ ?_ n24 0 M4 _ _ _ hM hv hw (lv_sub hl [1, 3, 0] rfl)
      · intro  M H locs ls hM hv hw hl
        refine lv_aload_n hx hb dX11_years_155 rfl (lv_at hl 0 rfl) ?_
        refine gf_X11_66 hx hb hC hw 155 (gX_155 τ ad M) rfl dX11_years_156 ?_
        refine lv_aload_n hx hb dX11_years_159 rfl (lv_at hl 0 rfl) ?_
        refine gf_X11_30 hx hb hC hw 155 (gX_155 τ ad M) rfl dX11_years_160 ?_
        refine gf_X11_482 hx hb hC hw 8 (gS_X (by decide) τ ad M) rfl dX11_years_163 ?_
        refine r_top (fun x25 e25 => ?_)
        have g25 : iR x25 := by rw [e25]; exact hM.get (by decide) _
        have hv := hv x25 e25 g25
        refine r_i2l hx hb dX11_years_166 g25 ?_
        refine lv_aload_n hx hb dX11_years_167 rfl (lv_at hl 0 rfl) ?_
        refine gf_X11_30 hx hb hC hw 155 (gX_155 τ ad M) rfl dX11_years_168 ?_
        refine k_cVi (wq_X τ ad) hx hb hml hC hLS hA hw hl.1 (mX6_rightBits l D τ ad sA sV _ 8 (by decide) M hM _ hv) kX6_rightBits ml_X11_397 rfl (gS_X (by decide) τ ad M) rfl rfl (Nat.le_of_ble_eq_true rfl) (rm_ok (by decide) (by decide)) ⟨Nat.zero_le _, Nat.zero_le _⟩ dX11_years_171 (fun x26 M26 H locs g26 hM hv hw => ?_)
        have hv := hv g26
        refine k_cSi (wq_X τ ad) hx hb hml hC hLS hA hw hl.1 (mJ6_bitCount_0f7a4X l D τ ad sA sV _ x26 g26 M26 hM _ hv) kJ6_bitCount_0f7a4 ml_X11_389 rfl rfl (Nat.le_of_ble_eq_true rfl) (rm_ok (by decide) (by decide)) ⟨Nat.zero_le _, Nat.zero_le _⟩ dX11_years_174 (fun x27 M27 H locs g27 hM hv hw => ?_)
        have hv := hv g27
        refine r_i2l hx hb dX11_years_177 g27 ?_
        refine k_cVv (wq_X τ ad) hx hb hml hC hLS hA hw hl.1 (mX4_tellTwo l D τ ad sA sV _ x25 x27 (iR_lR g25) (iR_lR g27) M27 hM _ hv) kX4_tellTwo ml_X11_298 rfl (gX_167 τ ad M27) rfl rfl (Nat.le_of_ble_eq_true rfl) (rm_ok (by decide) (by decide)) ⟨Nat.zero_le _, Nat.zero_le _⟩ dX11_years_178 (fun M28 H locs hM hv hw => ?_)
        refine lv_aload_n hx hb dX11_years_181 rfl (lv_at hl 0 rfl) ?_
        refine gf_X11_30 hx hb hC hw 155 (gX_155 τ ad M28) rfl dX11_years_182 ?_
        refine gf_X11_302 hx hb hC hw 8 (gS_X (by decide) τ ad M28) rfl dX11_years_185 ?_
        refine r_top (fun x29 e29 => ?_)
        have g29 : iR x29 := by rw [e29]; exact hM.get (by decide) _
        have hv := hv x29 e29 g29
        exact k_iret (wq_X τ ad) hx hb hr hlk hw hM g29 hv dX11_years_188
    · have hv := hv.2 b2
      refine r_iconst hx hb dX11_years_11 ?_
      exact k_iret (wq_X τ ad) hx hb hr hlk hw hM (by decide) hv dX11_years_12
set_option maxHeartbeats 4000000 in
set_option maxRecDepth 100000 in
theorem mX11_keep (l : Launch) (D : va_G) (τ : Nat → ClassId) (ad : Nat → Nat) (sA sV : Nat → Nat) (sz : Nat) (p1 : Int) (hp1 : iR p1) (M : Mem) (hM : MR M) (Q : Int → Mem → Prop) (hv : qX11_keep p1 M Q) : Met l yX11_keep (lw_w yX11_keep cX11_keep 2 (some .boolean)) (rmk 2 0 0) (kPc D τ sA sV (WX τ ad M) sz [.ref (ad 155), .int (iI p1)]) (gQi D (EQz (WX τ ad) MR Q) (va_A (WX τ ad M) sz)) 0 0 (va_A (WX τ ad M) sz) := by
  refine k_met (ret := (some .boolean)) (Qc := gQi D (EQz (WX τ ad) MR Q)) (by decide +kernel) (Nat.le_of_ble_eq_true rfl) ?_
  intro p e s m args below meth c A ls hx hb hml hr hlk hnm hC hLS hA hw hl
  have hC : cx D τ s m args RX11 := hC
  have hl : lv_has ls 2 [(0, .ref (ad 155)), (1, .int (iI p1))] := hl
  unfold qX11_keep at hv
  refine lv_iload_n hx hb dX11_keep_0 rfl (lv_at hl 1 rfl) ?_
  refine r_if_lt (tgt := 9) hx hb dX11_keep_1 (by decide) hp1  (fun b1 => ?_) (fun b1 => ?_)
  · have hv := hv.1 b1
    refine r_iconst hx hb dX11_keep_9 ?_
    exact k_zret (wq_X τ ad) hx hb hr hlk hw hM (by decide) (by decide) hv dX11_keep_10
  · have hv := hv.2 b1
    refine lv_iload_n hx hb dX11_keep_4 rfl (lv_at hl 1 rfl) ?_
    refine r_iconst hx hb dX11_keep_5 ?_
    refine r_icmp_lt (tgt := 11) hx hb dX11_keep_6 (by decide) hp1 (by decide) (fun b2 => ?_) (fun b2 => ?_)
    · have hv := hv.1 b2
      refine lv_aload_n hx hb dX11_keep_11 rfl (lv_at hl 0 rfl) ?_
      refine gf_X11_55 hx hb hC hw 155 (gX_155 τ ad M) rfl dX11_keep_12 ?_
      refine lv_iload_n hx hb dX11_keep_15 rfl (lv_at hl 1 rfl) ?_
      obtain ⟨c3, hv⟩ := hv
      obtain ⟨c4, hv⟩ := hv
      refine r_aaldS (f := fun i => some (ad (29 + 7 * i))) (v := .ref (ad (29 + 7 * p1.toNat))) hx hb hC hw 165 (gR_165 τ ad M) c3 c4 (by decide) rfl dX11_keep_16 ?_
      refine lv_aload_n hx hb dX11_keep_17 rfl (lv_at hl 0 rfl) ?_
      refine gf_X11_26 hx hb hC hw 155 (gX_155 τ ad M) rfl dX11_keep_18 ?_
      refine k_cVv (wq_X τ ad) hx hb hml hC hLS hA hw hl.1 (mX6_copyFrom l D τ ad sA sV _ (29 + 7 * p1.toNat) 1 (isS_kept c3 c4) (by decide) M hM _ hv) kX6_copyFrom ml_X11_153 rfl (gS_X (isS_kept c3 c4) τ ad M) rfl rfl (Nat.le_of_ble_eq_true rfl) (rm_ok (by decide) (by decide)) ⟨Nat.zero_le _, Nat.zero_le _⟩ dX11_keep_21 (fun M5 H locs hM hv hw => ?_)
      refine lv_aload_n hx hb dX11_keep_24 rfl (lv_at hl 0 rfl) ?_
      refine gf_X11_59 hx hb hC hw 155 (gX_155 τ ad M5) rfl dX11_keep_25 ?_
      refine lv_iload_n hx hb dX11_keep_28 rfl (lv_at hl 1 rfl) ?_
      refine r_iconst hx hb dX11_keep_29 ?_
      obtain ⟨M6, e6⟩ : ∃ M6 : Mem, M6 = up2 M5 166 p1 1 := ⟨_, rfl⟩
      have hv := hv M6 e6
      refine r_zast (ws' := (WX τ ad M6)) hx hb hC hw 166 (gZ_X aX_166 τ ad M5) c3 c4 (by decide) (by decide) (by rw [e6]; exact sZ_X aX_166 τ ad M5 _ _) dX11_keep_30 (fun H locs hw => ?_)
      have hM : MR M6 := by rw [e6]; exact hM.put aX_166.pos (by decide)
      refine r_iconst hx hb dX11_keep_31 ?_
      exact k_zret (wq_X τ ad) hx hb hr hlk hw hM (by decide) (by decide) hv dX11_keep_32
    · have hv := hv.2 b2
      refine r_iconst hx hb dX11_keep_9 ?_
      exact k_zret (wq_X τ ad) hx hb hr hlk hw hM (by decide) (by decide) hv dX11_keep_10
set_option maxHeartbeats 4000000 in
set_option maxRecDepth 100000 in
theorem mX11_again (l : Launch) (D : va_G) (τ : Nat → ClassId) (ad : Nat → Nat) (sA sV : Nat → Nat) (sz : Nat) (p1 : Int) (hp1 : iR p1) (M : Mem) (hM : MR M) (Q : Int → Mem → Prop) (hv : qX11_again p1 M Q) : Met l yX11_again (lw_w yX11_again cX11_again 2 (some .boolean)) (rmk 2 0 0) (kPc D τ sA sV (WX τ ad M) sz [.ref (ad 155), .int (iI p1)]) (gQi D (EQz (WX τ ad) MR Q) (va_A (WX τ ad M) sz)) 0 0 (va_A (WX τ ad M) sz) := by
  refine k_met (ret := (some .boolean)) (Qc := gQi D (EQz (WX τ ad) MR Q)) (by decide +kernel) (Nat.le_of_ble_eq_true rfl) ?_
  intro p e s m args below meth c A ls hx hb hml hr hlk hnm hC hLS hA hw hl
  have hC : cx D τ s m args RX11 := hC
  have hl : lv_has ls 2 [(0, .ref (ad 155)), (1, .int (iI p1))] := hl
  unfold qX11_again at hv
  refine lv_iload_n hx hb dX11_again_0 rfl (lv_at hl 1 rfl) ?_
  refine r_if_lt (tgt := 18) hx hb dX11_again_1 (by decide) hp1  (fun b1 => ?_) (fun b1 => ?_)
  · have hv := hv.1 b1
    refine r_iconst hx hb dX11_again_18 ?_
    exact k_zret (wq_X τ ad) hx hb hr hlk hw hM (by decide) (by decide) hv dX11_again_19
  · have hv := hv.2 b1
    refine lv_iload_n hx hb dX11_again_4 rfl (lv_at hl 1 rfl) ?_
    refine r_iconst hx hb dX11_again_5 ?_
    refine r_icmp_ge (tgt := 18) hx hb dX11_again_6 (by decide) hp1 (by decide) (fun b2 => ?_) (fun b2 => ?_)
    · have hv := hv.1 b2
      refine r_iconst hx hb dX11_again_18 ?_
      exact k_zret (wq_X τ ad) hx hb hr hlk hw hM (by decide) (by decide) hv dX11_again_19
    · have hv := hv.2 b2
      refine lv_aload_n hx hb dX11_again_9 rfl (lv_at hl 0 rfl) ?_
      refine gf_X11_59 hx hb hC hw 155 (gX_155 τ ad M) rfl dX11_again_10 ?_
      refine lv_iload_n hx hb dX11_again_13 rfl (lv_at hl 1 rfl) ?_
      obtain ⟨c3, hv⟩ := hv
      obtain ⟨c4, hv⟩ := hv
      refine r_zald hx hb hC hw 166 (gZ_X aX_166 τ ad M) c3 c4 (by decide) dX11_again_14 ?_
      refine r_top (fun x5 e5 => ?_)
      have g5 : iR x5 := by rw [e5]; exact hM.get aX_166.pos _
      have hv := hv x5 e5 g5
      refine r_if_ne (tgt := 20) hx hb dX11_again_15 (by decide) g5  (fun b6 => ?_) (fun b6 => ?_)
      · have hv := hv.1 b6
        refine lv_aload_n hx hb dX11_again_20 rfl (lv_at hl 0 rfl) ?_
        refine gf_X11_55 hx hb hC hw 155 (gX_155 τ ad M) rfl dX11_again_21 ?_
        refine lv_iload_n hx hb dX11_again_24 rfl (lv_at hl 1 rfl) ?_
        refine r_aaldS (f := fun i => some (ad (29 + 7 * i))) (v := .ref (ad (29 + 7 * p1.toNat))) hx hb hC hw 165 (gR_165 τ ad M) c3 c4 (by decide) rfl dX11_again_25 ?_
        refine gf_X11_176 hx hb hC hw (29 + 7 * p1.toNat) (gS_X (isS_kept c3 c4) τ ad M) rfl dX11_again_26 ?_
        refine r_top (fun x7 e7 => ?_)
        have g7 : iR x7 := by rw [e7]; exact hM.get (isS_kept c3 c4).pos _
        have hv := hv x7 e7 g7
        refine lv_aload_n hx hb dX11_again_29 rfl (lv_at hl 0 rfl) ?_
        refine gf_X11_26 hx hb hC hw 155 (gX_155 τ ad M) rfl dX11_again_30 ?_
        refine gf_X11_176 hx hb hC hw 1 (gS_X (by decide) τ ad M) rfl dX11_again_33 ?_
        refine r_top (fun x8 e8 => ?_)
        have g8 : iR x8 := by rw [e8]; exact hM.get (by decide) _
        have hv := hv x8 e8 g8
        refine r_icmp_ne (tgt := 58) hx hb dX11_again_36 (by decide) g7 g8 (fun b9 => ?_) (fun b9 => ?_)
        · have hv := hv.1 b9
          refine r_iconst hx hb dX11_again_58 ?_
          exact k_zret (wq_X τ ad) hx hb hr hlk hw hM (by decide) (by decide) hv dX11_again_59
        · have hv := hv.2 b9
          refine lv_aload_n hx hb dX11_again_39 rfl (lv_at hl 0 rfl) ?_
          refine gf_X11_55 hx hb hC hw 155 (gX_155 τ ad M) rfl dX11_again_40 ?_
          refine lv_iload_n hx hb dX11_again_43 rfl (lv_at hl 1 rfl) ?_
          refine r_aaldS (f := fun i => some (ad (29 + 7 * i))) (v := .ref (ad (29 + 7 * p1.toNat))) hx hb hC hw 165 (gR_165 τ ad M) c3 c4 (by decide) rfl dX11_again_44 ?_
          refine gf_X11_191 hx hb hC hw (29 + 7 * p1.toNat) (gS_X (isS_kept c3 c4) τ ad M) rfl dX11_again_45 ?_
          refine r_top (fun x10 e10 => ?_)
          have g10 : iR x10 := by rw [e10]; exact hM.get (isS_kept c3 c4).pos _
          have hv := hv x10 e10 g10
          refine lv_aload_n hx hb dX11_again_48 rfl (lv_at hl 0 rfl) ?_
          refine gf_X11_26 hx hb hC hw 155 (gX_155 τ ad M) rfl dX11_again_49 ?_
          refine gf_X11_191 hx hb hC hw 1 (gS_X (by decide) τ ad M) rfl dX11_again_52 ?_
          refine r_top (fun x11 e11 => ?_)
          have g11 : iR x11 := by rw [e11]; exact hM.get (by decide) _
          have hv := hv x11 e11 g11
          refine r_icmp_eq (tgt := 60) hx hb dX11_again_55 (by decide) g10 g11 (fun b12 => ?_) (fun b12 => ?_)
          · have hv := hv.1 b12
            refine lv_aload_n hx hb dX11_again_60 rfl (lv_at hl 0 rfl) ?_
            refine gf_X11_26 hx hb hC hw 155 (gX_155 τ ad M) rfl dX11_again_61 ?_
            refine lv_aload_n hx hb dX11_again_64 rfl (lv_at hl 0 rfl) ?_
            refine gf_X11_55 hx hb hC hw 155 (gX_155 τ ad M) rfl dX11_again_65 ?_
            refine lv_iload_n hx hb dX11_again_68 rfl (lv_at hl 1 rfl) ?_
            refine r_aaldS (f := fun i => some (ad (29 + 7 * i))) (v := .ref (ad (29 + 7 * p1.toNat))) hx hb hC hw 165 (gR_165 τ ad M) c3 c4 (by decide) rfl dX11_again_69 ?_
            refine k_cVv (wq_X τ ad) hx hb hml hC hLS hA hw hl.1 (mX6_copyFrom l D τ ad sA sV _ 1 (29 + 7 * p1.toNat) (by decide) (isS_kept c3 c4) M hM _ hv) kX6_copyFrom ml_X11_153 rfl (gS_X (by decide) τ ad M) rfl rfl (Nat.le_of_ble_eq_true rfl) (rm_ok (by decide) (by decide)) ⟨Nat.zero_le _, Nat.zero_le _⟩ dX11_again_70 (fun M13 H locs hM hv hw => ?_)
            refine lv_aload_n hx hb dX11_again_73 rfl (lv_at hl 0 rfl) ?_
            refine gf_X11_51 hx hb hC hw 155 (gX_155 τ ad M13) rfl dX11_again_74 ?_
            refine k_cVv (wq_X τ ad) hx hb hml hC hLS hA hw hl.1 (mX1_clear l D τ ad sA sV _   M13 hM _ hv) kX1_clear ml_X11_136 rfl (gX_163 τ ad M13) rfl rfl (Nat.le_of_ble_eq_true rfl) (rm_ok (by decide) (by decide)) ⟨Nat.zero_le _, Nat.zero_le _⟩ dX11_again_77 (fun M14 H locs hM hv hw => ?_)
            refine r_iconst hx hb dX11_again_80 ?_
            exact k_zret (wq_X τ ad) hx hb hr hlk hw hM (by decide) (by decide) hv dX11_again_81
          · have hv := hv.2 b12
            refine r_iconst hx hb dX11_again_58 ?_
            exact k_zret (wq_X τ ad) hx hb hr hlk hw hM (by decide) (by decide) hv dX11_again_59
      · have hv := hv.2 b6
        refine r_iconst hx hb dX11_again_18 ?_
        exact k_zret (wq_X τ ad) hx hb hr hlk hw hM (by decide) (by decide) hv dX11_again_19
