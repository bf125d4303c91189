set_option maxHeartbeats 4000000 in
set_option maxRecDepth 100000 in
theorem mX2_join (l : Launch) (D : va_G) (τ : Nat → ClassId) (ad : Nat → Nat) (sA sV : Nat → Nat) (sz : Nat) (p0 : Int) (p1 : Int) (p2 : Int) (hp0 : iR p0) (hp1 : iR p1) (hp2 : iR p2) (M : Mem) (hM : MR M) (Q : Int → Mem → Prop) (hv : qX2_join p0 p1 p2 M Q) : Met l yX2_join (lw_w yX2_join cX2_join 3 (some .int)) (rmk 1 0 0) (kPc D τ sA sV (WX τ ad M) sz [.int (iI p0), .int (iI p1), .int (iI p2)]) (gQi D (EQi (WX τ ad) MR Q) (va_A (WX τ ad M) sz)) 0 0 (va_A (WX τ ad M) sz) := by
  refine k_met (ret := (some .int)) (Qc := gQi D (EQi (WX τ ad) MR Q)) (by decide +kernel) (Nat.le_of_ble_eq_true rfl) ?_
  intro p e s m args below meth c A ls hx hb hml hr hlk hnm hC hLS hA hw hl
  have hC : cx D τ s m args RX2 := hC
  have hl : lv_has ls 3 [(0, .int (iI p0)), (1, .int (iI p1)), (2, .int (iI p2))] := hl
  unfold qX2_join at hv
  refine lv_iload_n hx hb dX2_join_0 rfl (lv_at hl 0 rfl) ?_
  rcases (show p0 = 42 ∨ p0 = 43 ∨ p0 = 45 ∨ p0 = 47 ∨ p0 = 60 ∨ p0 = 62 ∨ (¬ p0 = 42 ∧ ¬ p0 = 43 ∧ ¬ p0 = 45 ∧ ¬ p0 = 47 ∧ ¬ p0 = 60 ∧ ¬ p0 = 62) by omega) with b1 | b1 | b1 | b1 | b1 | b1 | b1
  · refine r_lkI (tgt := 68) hx hb dX2_join_1 hp0 (by decide) (by rw [b1]; first | done | rfl) (by decide) ?_
    have hv := hv.1 b1
    refine lv_iload_n hx hb dX2_join_68 rfl (lv_at hl 1 rfl) ?_
    refine lv_iload_n hx hb dX2_join_69 rfl (lv_at hl 2 rfl) ?_
    refine r_imulW hx hb dX2_join_70 (fun x2 e2 g2 => ?_)
    have hv := hv x2 e2 g2
    exact k_iret (wq_X τ ad) hx hb hr hlk hw hM g2 hv dX2_join_71
  · refine r_lkI (tgt := 60) hx hb dX2_join_1 hp0 (by decide) (by rw [b1]; first | done | rfl) (by decide) ?_
    have hv := hv.2.1 b1
    refine lv_iload_n hx hb dX2_join_60 rfl (lv_at hl 1 rfl) ?_
    refine lv_iload_n hx hb dX2_join_61 rfl (lv_at hl 2 rfl) ?_
    refine r_iaddW hx hb dX2_join_62 (fun x3 e3 g3 => ?_)
    have hv := hv x3 e3 g3
    exact k_iret (wq_X τ ad) hx hb hr hlk hw hM g3 hv dX2_join_63
  · refine r_lkI (tgt := 64) hx hb dX2_join_1 hp0 (by decide) (by rw [b1]; first | done | rfl) (by decide) ?_
    have hv := hv.2.2.1 b1
    refine lv_iload_n hx hb dX2_join_64 rfl (lv_at hl 1 rfl) ?_
    refine lv_iload_n hx hb dX2_join_65 rfl (lv_at hl 2 rfl) ?_
    refine r_isubW hx hb dX2_join_66 (fun x4 e4 g4 => ?_)
    have hv := hv x4 e4 g4
    exact k_iret (wq_X τ ad) hx hb hr hlk hw hM g4 hv dX2_join_67
  · refine r_lkI (tgt := 72) hx hb dX2_join_1 hp0 (by decide) (by rw [b1]; first | done | rfl) (by decide) ?_
    have hv := hv.2.2.2.1 b1
    refine lv_iload_n hx hb dX2_join_72 rfl (lv_at hl 2 rfl) ?_
    refine r_if_ne (tgt := 80) hx hb dX2_join_73 (by decide) hp2  (fun b5 => ?_) (fun b5 => ?_)
    · have hv := hv.1 b5
      refine lv_iload_n hx hb dX2_join_80 rfl (lv_at hl 1 rfl) ?_
      refine lv_iload_n hx hb dX2_join_81 rfl (lv_at hl 2 rfl) ?_
      obtain ⟨c6, hv⟩ := hv
      refine r_idivF hx hb dX2_join_82 hp2 c6 (fun x7 e7 g7 => ?_)
      have hv := hv x7 e7 g7
      exact k_iret (wq_X τ ad) hx hb hr hlk hw hM g7 hv dX2_join_83
    · have hv := hv.2 b5
      refine r_iconst hx hb dX2_join_76 ?_
      refine lv_goto (tgt := 83) hx hb dX2_join_77 (by decide) ?_
      exact k_iret (wq_X τ ad) hx hb hr hlk hw hM (by decide) hv dX2_join_83
  · refine r_lkI (tgt := 84) hx hb dX2_join_1 hp0 (by decide) (by rw [b1]; first | done | rfl) (by decide) ?_
    have hv := hv.2.2.2.2.1 b1
    refine lv_iload_n hx hb dX2_join_84 rfl (lv_at hl 1 rfl) ?_
    refine lv_iload_n hx hb dX2_join_85 rfl (lv_at hl 2 rfl) ?_
    refine r_icmp_ge (tgt := 93) hx hb dX2_join_86 (by decide) hp1 hp2 (fun b8 => ?_) (fun b8 => ?_)
    · have hv := hv.1 b8
      refine r_iconst hx hb dX2_join_93 ?_
      exact k_iret (wq_X τ ad) hx hb hr hlk hw hM (by decide) hv dX2_join_94
    · have hv := hv.2 b8
      refine r_iconst hx hb dX2_join_89 ?_
      refine lv_goto (tgt := 94) hx hb dX2_join_90 (by decide) ?_
      exact k_iret (wq_X τ ad) hx hb hr hlk hw hM (by decide) hv dX2_join_94
  · refine r_lkI (tgt := 95) hx hb dX2_join_1 hp0 (by decide) (by rw [b1]; first | done | rfl) (by decide) ?_
    have hv := hv.2.2.2.2.2.1 b1
    refine lv_iload_n hx hb dX2_join_95 rfl (lv_at hl 1 rfl) ?_
    refine lv_iload_n hx hb dX2_join_96 rfl (lv_at hl 2 rfl) ?_
    refine r_icmp_le (tgt := 104) hx hb dX2_join_97 (by decide) hp1 hp2 (fun b9 => ?_) (fun b9 => ?_)
    · have hv := hv.1 b9
      refine r_iconst hx hb dX2_join_104 ?_
      exact k_iret (wq_X τ ad) hx hb hr hlk hw hM (by decide) hv dX2_join_105
    · have hv := hv.2 b9
      refine r_iconst hx hb dX2_join_100 ?_
      refine lv_goto (tgt := 105) hx hb dX2_join_101 (by decide) ?_
      exact k_iret (wq_X τ ad) hx hb hr hlk hw hM (by decide) hv dX2_join_105
  · refine r_lkI (off := 105) (tgt := 106) hx hb dX2_join_1 hp0 (by decide) (by simp [Op.lookupswitch.offset]; (repeat rw [if_neg (by omega)])) (by decide) ?_
    have hv := hv.2.2.2.2.2.2 b1
    refine lv_iload_n hx hb dX2_join_106 rfl (lv_at hl 1 rfl) ?_
    refine lv_iload_n hx hb dX2_join_107 rfl (lv_at hl 2 rfl) ?_
    refine r_icmp_ne (tgt := 115) hx hb dX2_join_108 (by decide) hp1 hp2 (fun b10 => ?_) (fun b10 => ?_)
    · have hv := hv.1 b10
      refine r_iconst hx hb dX2_join_115 ?_
      exact k_iret (wq_X τ ad) hx hb hr hlk hw hM (by decide) hv dX2_join_116
    · have hv := hv.2 b10
      refine r_iconst hx hb dX2_join_111 ?_
      refine lv_goto (tgt := 116) hx hb dX2_join_112 (by decide) ?_
      exact k_iret (wq_X τ ad) hx hb hr hlk hw hM (by decide) hv dX2_join_116
set_option maxHeartbeats 4000000 in
set_option maxRecDepth 100000 in
theorem mX2_pace (l : Launch) (D : va_G) (τ : Nat → ClassId) (ad : Nat → Nat) (sA sV : Nat → Nat) (sz : Nat) (k0 : Nat) (hk0 : isL k0) (M : Mem) (hM : MR M) (Q : Int → Mem → Prop) (hv : qX2_pace k0 M Q) : Met l yX2_pace (lw_w yX2_pace cX2_pace 4 (some .int)) (rmk 2 0 0) (kPc D τ sA sV (WX τ ad M) sz [.ref (ad k0)]) (gQi D (EQi (WX τ ad) MR Q) (va_A (WX τ ad M) sz)) 0 0 (va_A (WX τ ad M) sz) := by
  refine k_met (ret := (some .int)) (Qc := gQi D (EQi (WX τ ad) MR Q)) (by decide +kernel) (Nat.le_of_ble_eq_true rfl) ?_
  intro p e s m args below meth c A ls hx hb hml hr hlk hnm hC hLS hA hw hl
  have hC : cx D τ s m args RX2 := hC
  have hl : lv_has ls 4 [(0, .ref (ad k0))] := hl
  unfold qX2_pace at hv
  have J105 : ∀ (R : Int → Int → Mem → Prop), (∀ (v1 : Int) (v2 : Int) (M : Mem) (H : Heap) (locs : List Loc) (ls : Array Slot), MR M → R v1 v2 M → wS D A s.heap (WX τ ad M) H locs → lv_has ls 4 [(0, .ref (ad k0)), (1, .int (iI v1)), (2, .int (iI v2))] → W p l e (rmk 2 0 0) s m args below meth c H locs 0 0 (MQ below (gQi D (EQi (WX τ ad) MR Q) A) args s 0 0 A) (F0 m 4 ls [])) → ∀ (X145 : Mem → Prop), (∀  (M : Mem) (H : Heap) (locs : List Loc) (ls : Array Slot), MR M → X145  M → wS D A s.heap (WX τ ad M) H locs → lv_has ls 4 [(0, .ref (ad k0))] → W p l e (rmk 2 0 0) s m args below meth c H locs 0 0 (MQ below (gQi D (EQi (WX τ ad) MR Q) A) args s 0 0 A) (F0 m 145 ls [])) → ∀ (v1 : Int) (v2 : Int) (v3 : Int) (M : Mem) (H : Heap) (locs : List Loc) (ls : Array Slot), MR M → qX2_pace_J105 k0 R X145 Q v1 v2 v3 M → wS D A s.heap (WX τ ad M) H locs → lv_has ls 4 [(0, .ref (ad k0)), (1, .int (iI v1)), (2, .int (iI v2)), (3, .int (iI v3))] → W p l e (rmk 2 0 0) s m args below meth c H locs 0 0 (MQ below (gQi D (EQi (WX τ ad) MR Q) A) args s 0 0 A) (F0 m 105 ls []) := by
    intro R hR X145 hX145 v1 v2 v3 M H locs ls hM hv hw hl
    unfold qX2_pace_J105 at hv
    refine lv_iload_n hx hb dX2_pace_105 rfl (lv_at hl 1 rfl) ?_
    refine r_iconst hx hb dX2_pace_106 ?_
    obtain ⟨c10, hv⟩ := hv
    refine r_icmp_le (tgt := 139) hx hb dX2_pace_107 (by decide) c10 (by decide) (fun b11 => ?_) (fun b11 => ?_)
    · have hv := hv.1 b11
      refine r_iinc (v := (v2 + 1)) (lv' := [(2, .int (iI (v2 + 1))), (0, .ref (ad k0)), (1, .int (iI v1)), (3, .int (iI v3))]) hx hb dX2_pace_139 hl (k := 2) rfl rfl (by decide) rfl (fun ls hl => ?_)
      refine lv_goto (tgt := 4) hx hb dX2_pace_142 (by decide) ?_
      exact hR v1 (v2 + 1) M _ _ _ hM hv hw (lv_sub hl [1, 2, 0] rfl)
    · have hv := hv.2 b11
      refine r_iinc (v := (v1 + (-1))) (lv' := [(1, .int (iI (v1 + (-1)))), (0, .ref (ad k0)), (2, .int (iI v2)), (3, .int (iI v3))]) hx hb dX2_pace_110 hl (k := 1) rfl rfl (by decide) rfl (fun ls hl => ?_)
      refine lv_aload_n hx hb dX2_pace_113 rfl (lv_at hl 1 rfl) ?_
      refine gf_X2_18 hx hb hC hw k0 (gL_X hk0 τ ad M) rfl dX2_pace_114 ?_
      refine lv_iload_n hx hb dX2_pace_117 rfl (lv_at hl 0 rfl) ?_
      refine r_iconst hx hb dX2_pace_118 ?_
      refine r_isubW hx hb dX2_pace_119 (fun x12 e12 g12 => ?_)
      have hv := hv x12 e12 g12
      refine lv_iload_n hx hb dX2_pace_120 rfl (lv_at hl 3 rfl) ?_
      refine lv_aload_n hx hb dX2_pace_121 rfl (lv_at hl 1 rfl) ?_
      refine gf_X2_18 hx hb hC hw k0 (gL_X hk0 τ ad M) rfl dX2_pace_122 ?_
      refine lv_iload_n hx hb dX2_pace_125 rfl (lv_at hl 0 rfl) ?_
      refine r_iconst hx hb dX2_pace_126 ?_
      refine r_isubW hx hb dX2_pace_127 (fun x13 e13 g13 => ?_)
      have hv := hv x13 e13 g13
      obtain ⟨c14, hv⟩ := hv
      obtain ⟨c15, hv⟩ := hv
      refine r_iald hx hb hC hw (k0 + 3) (gI_X (isL_f2 hk0) τ ad M) c14 c15 (by decide) dX2_pace_128 ?_
      refine r_top (fun x16 e16 => ?_)
      have g16 : iR x16 := by rw [e16]; exact hM.get (isL_f2 hk0).pos _
      have hv := hv x16 e16 g16
      refine lv_aload_n hx hb dX2_pace_129 rfl (lv_at hl 1 rfl) ?_
      refine gf_X2_18 hx hb hC hw k0 (gL_X hk0 τ ad M) rfl dX2_pace_130 ?_
      refine lv_iload_n hx hb dX2_pace_133 rfl (lv_at hl 0 rfl) ?_
      obtain ⟨c17, hv⟩ := hv
      obtain ⟨c18, hv⟩ := hv
      refine r_iald hx hb hC hw (k0 + 3) (gI_X (isL_f2 hk0) τ ad M) c17 c18 (by decide) dX2_pace_134 ?_
      refine r_top (fun x19 e19 => ?_)
      have g19 : iR x19 := by rw [e19]; exact hM.get (isL_f2 hk0).pos _
      have hv := hv x19 e19 g19
      obtain ⟨c20, hv⟩ := hv
      refine k_cSi (wq_X τ ad) hx hb hml hC hLS hA hw hl.1 (mX2_join l D τ ad sA sV _ v3 x16 x19 c20 g16 g19 M hM _ hv) kX2_join ml_X2_86 rfl rfl (Nat.le_of_ble_eq_true rfl) (rm_ok (by decide) (by decide)) ⟨Nat.zero_le _, Nat.zero_le _⟩ dX2_pace_135 (fun x21 M21 H locs g21 hM hv hw => ?_)
      have hv := hv g21
      obtain ⟨c22, hv⟩ := hv
      obtain ⟨c23, hv⟩ := hv
      obtain ⟨M24, e24⟩ : ∃ M24 : Mem, M24 = up2 M21 (k0 + 3) x12 x21 := ⟨_, rfl⟩
      have hv := hv M24 e24
      refine r_iast (ws' := (WX τ ad M24)) hx hb hC hw (k0 + 3) (gI_X (isL_f2 hk0) τ ad M21) c22 c23 (by decide) (by rw [e24]; exact sI_X (isL_f2 hk0) τ ad M21 _ _) dX2_pace_138 (fun H locs hw => ?_)
      have hM : MR M24 := by rw [e24]; exact hM.put (isL_f2 hk0).pos g21
      refine r_iinc (v := (v2 + 1)) (lv' := [(2, .int (iI (v2 + 1))), (1, .int (iI (v1 + (-1)))), (0, .ref (ad k0)), (3, .int (iI v3))]) hx hb dX2_pace_139 hl (k := 2) rfl rfl (by decide) rfl (fun ls hl => ?_)
      refine lv_goto (tgt := 4) hx hb dX2_pace_142 (by decide) ?_
      exact hR (v1 + (-1)) (v2 + 1) M24 _ _ _ hM hv hw (lv_sub hl [2, 1, 0] rfl)
  have L4 : ∀ (X145 : Mem → Prop), (∀  (M : Mem) (H : Heap) (locs : List Loc) (ls : Array Slot), MR M → X145  M → wS D A s.heap (WX τ ad M) H locs → lv_has ls 4 [(0, .ref (ad k0))] → W p l e (rmk 2 0 0) s m args below meth c H locs 0 0 (MQ below (gQi D (EQi (WX τ ad) MR Q) A) args s 0 0 A) (F0 m 145 ls [])) → ∀ (n : Nat) (v1 : Int) (v2 : Int) (M : Mem) (H : Heap) (locs : List Loc) (ls : Array Slot), MR M → qX2_pace_L4 k0 X145 Q n v1 v2 M → wS D A s.heap (WX τ ad M) H locs → lv_has ls 4 [(0, .ref (ad k0)), (1, .int (iI v1)), (2, .int (iI v2))] → W p l e (rmk 2 0 0) s m args below meth c H locs 0 0 (MQ below (gQi D (EQi (WX τ ad) MR Q) A) args s 0 0 A) (F0 m 4 ls []) := by
    intro X145 hX145 n
    induction n with
    | zero => intro v1 v2 M H locs ls hM hv; rw [qX2_pace_L4] at hv; exact hv.elim
    | succ n ih =>
      intro v1 v2 M H locs ls hM hv hw hl
      rw [qX2_pace_L4] at hv
      refine lv_iload_n hx hb dX2_pace_4 rfl (lv_at hl 2 rfl) ?_
      refine lv_aload_n hx hb dX2_pace_5 rfl (lv_at hl 0 rfl) ?_
      refine gf_X2_24 hx hb hC hw k0 (gL_X hk0 τ ad M) rfl dX2_pace_6 ?_
      refine r_top (fun x1 e1 => ?_)
      have g1 : iR x1 := by rw [e1]; exact hM.get hk0.pos _
      have hv := hv x1 e1 g1
      obtain ⟨c2, hv⟩ := hv
      refine r_icmp_ge (tgt := 145) hx hb dX2_pace_9 (by decide) c2 g1 (fun b3 => ?_) (fun b3 => ?_)
      · have hv := hv.1 b3
        exact hX145  M _ _ _ hM hv hw (lv_sub hl [0] rfl)
      · have hv := hv.2 b3
        refine lv_aload_n hx hb dX2_pace_12 rfl (lv_at hl 0 rfl) ?_
        refine gf_X2_9 hx hb hC hw k0 (gL_X hk0 τ ad M) rfl dX2_pace_13 ?_
        refine lv_iload_n hx hb dX2_pace_16 rfl (lv_at hl 2 rfl) ?_
        obtain ⟨c4, hv⟩ := hv
        obtain ⟨c5, hv⟩ := hv
        refine r_iald hx hb hC hw (k0 + 1) (gI_X (isL_f0 hk0) τ ad M) c4 c5 (by decide) dX2_pace_17 ?_
        refine r_top (fun x6 e6 => ?_)
        have g6 : iR x6 := by rw [e6]; exact hM.get (isL_f0 hk0).pos _
        have hv := hv x6 e6 g6
        refine lv_istore_n (lv' := [(3, .int (iI x6)), (0, .ref (ad k0)), (1, .int (iI v1)), (2, .int (iI v2))]) hx hb dX2_pace_18 rfl hl (by decide) rfl (fun ls hl => ?_)
        refine lv_iload_n hx hb dX2_pace_19 rfl (lv_at hl 0 rfl) ?_
        refine r_sipush hx hb dX2_pace_20 (by decide +kernel) ?_
        refine r_icmp_ne (tgt := 44) hx hb dX2_pace_23 (by decide) g6 (by decide) (fun b7 => ?_) (fun b7 => ?_)
        · have hv := hv.1 b7
          refine lv_iload_n hx hb dX2_pace_44 rfl (lv_at hl 0 rfl) ?_
          refine r_sipush hx hb dX2_pace_45 (by decide +kernel) ?_
          refine r_icmp_ne (tgt := 74) hx hb dX2_pace_48 (by decide) g6 (by decide) (fun b8 => ?_) (fun b8 => ?_)
          · have hv := hv.1 b8
            refine lv_iload_n hx hb dX2_pace_74 rfl (lv_at hl 0 rfl) ?_
            refine r_sipush hx hb dX2_pace_75 (by decide +kernel) ?_
            refine r_icmp_ne (tgt := 105) hx hb dX2_pace_78 (by decide) g6 (by decide) (fun b9 => ?_) (fun b9 => ?_)
            · have hv := hv.1 b9
              exact J105 _ ih _ hX145 v1 v2 x6 M _ _ _ hM hv hw (lv_sub hl [1, 2, 3, 0] rfl)
            · have hv := hv.2 b9
              refine lv_iload_n hx hb dX2_pace_81 rfl (lv_at hl 2 rfl) ?_
              obtain ⟨c25, hv⟩ := hv
              refine r_if_le (tgt := 105) hx hb dX2_pace_82 (by decide) c25  (fun b26 => ?_) (fun b26 => ?_)
              · have hv := hv.1 b26
                exact J105 _ ih _ hX145 v1 v2 x6 M _ _ _ hM hv hw (lv_sub hl [1, 2, 3, 0] rfl)
              · have hv := hv.2 b26
                refine lv_aload_n hx hb dX2_pace_85 rfl (lv_at hl 1 rfl) ?_
                refine gf_X2_18 hx hb hC hw k0 (gL_X hk0 τ ad M) rfl dX2_pace_86 ?_
                refine lv_iload_n hx hb dX2_pace_89 rfl (lv_at hl 2 rfl) ?_
                refine r_iconst hx hb dX2_pace_90 ?_
                refine r_isubW hx hb dX2_pace_91 (fun x27 e27 g27 => ?_)
                have hv := hv x27 e27 g27
                refine lv_aload_n hx hb dX2_pace_92 rfl (lv_at hl 1 rfl) ?_
                refine gf_X2_18 hx hb hC hw k0 (gL_X hk0 τ ad M) rfl dX2_pace_93 ?_
                refine lv_iload_n hx hb dX2_pace_96 rfl (lv_at hl 2 rfl) ?_
                refine r_iconst hx hb dX2_pace_97 ?_
                refine r_isubW hx hb dX2_pace_98 (fun x28 e28 g28 => ?_)
                have hv := hv x28 e28 g28
                obtain ⟨c29, hv⟩ := hv
                obtain ⟨c30, hv⟩ := hv
                refine r_iald hx hb hC hw (k0 + 3) (gI_X (isL_f2 hk0) τ ad M) c29 c30 (by decide) dX2_pace_99 ?_
                refine r_top (fun x31 e31 => ?_)
                have g31 : iR x31 := by rw [e31]; exact hM.get (isL_f2 hk0).pos _
                have hv := hv x31 e31 g31
                refine r_inegW hx hb dX2_pace_100 (fun x32 e32 g32 => ?_)
                have hv := hv x32 e32 g32
                obtain ⟨c33, hv⟩ := hv
                obtain ⟨c34, hv⟩ := hv
                obtain ⟨M35, e35⟩ : ∃ M35 : Mem, M35 = up2 M (k0 + 3) x27 x32 := ⟨_, rfl⟩
                have hv := hv M35 e35
                refine r_iast (ws' := (WX τ ad M35)) hx hb hC hw (k0 + 3) (gI_X (isL_f2 hk0) τ ad M) c33 c34 (by decide) (by rw [e35]; exact sI_X (isL_f2 hk0) τ ad M _ _) dX2_pace_101 (fun H locs hw => ?_)
                have hM : MR M35 := by rw [e35]; exact hM.put (isL_f2 hk0).pos g32
                refine lv_goto (tgt := 139) hx hb dX2_pace_102 (by decide) ?_
                refine r_iinc (v := (v2 + 1)) (lv' := [(2, .int (iI (v2 + 1))), (3, .int (iI x6)), (0, .ref (ad k0)), (1, .int (iI v1))]) hx hb dX2_pace_139 hl (k := 3) rfl rfl (by decide) rfl (fun ls hl => ?_)
                refine lv_goto (tgt := 4) hx hb dX2_pace_142 (by decide) ?_
                exact ih v1 (v2 + 1) M35 _ _ _ hM hv hw (lv_sub hl [2, 3, 0] rfl)
          · have hv := hv.2 b8
            refine lv_aload_n hx hb dX2_pace_51 rfl (lv_at hl 1 rfl) ?_
            refine gf_X2_18 hx hb hC hw k0 (gL_X hk0 τ ad M) rfl dX2_pace_52 ?_
            refine lv_iload_n hx hb dX2_pace_55 rfl (lv_at hl 2 rfl) ?_
            refine lv_aload_n hx hb dX2_pace_56 rfl (lv_at hl 1 rfl) ?_
            refine gf_X2_21 hx hb hC hw k0 (gL_X hk0 τ ad M) rfl dX2_pace_57 ?_
            refine lv_aload_n hx hb dX2_pace_60 rfl (lv_at hl 1 rfl) ?_
            refine gf_X2_15 hx hb hC hw k0 (gL_X hk0 τ ad M) rfl dX2_pace_61 ?_
            refine lv_iload_n hx hb dX2_pace_64 rfl (lv_at hl 3 rfl) ?_
            refine r_iald hx hb hC hw (k0 + 2) (gI_X (isL_f1 hk0) τ ad M) c4 c5 (by decide) dX2_pace_65 ?_
            refine r_top (fun x36 e36 => ?_)
            have g36 : iR x36 := by rw [e36]; exact hM.get (isL_f1 hk0).pos _
            have hv := hv x36 e36 g36
            obtain ⟨c37, hv⟩ := hv
            obtain ⟨c38, hv⟩ := hv
            refine r_iald hx hb hC hw (k0 + 4) (gI_X (isL_f3 hk0) τ ad M) c37 c38 (by decide) dX2_pace_66 ?_
            refine r_top (fun x39 e39 => ?_)
            have g39 : iR x39 := by rw [e39]; exact hM.get (isL_f3 hk0).pos _
            have hv := hv x39 e39 g39
            obtain ⟨c40, hv⟩ := hv
            obtain ⟨c41, hv⟩ := hv
            obtain ⟨M42, e42⟩ : ∃ M42 : Mem, M42 = up2 M (k0 + 3) v1 x39 := ⟨_, rfl⟩
            have hv := hv M42 e42
            refine r_iast (ws' := (WX τ ad M42)) hx hb hC hw (k0 + 3) (gI_X (isL_f2 hk0) τ ad M) c40 c41 (by decide) (by rw [e42]; exact sI_X (isL_f2 hk0) τ ad M _ _) dX2_pace_67 (fun H locs hw => ?_)
            have hM : MR M42 := by rw [e42]; exact hM.put (isL_f2 hk0).pos g39
            refine r_iinc (v := (v1 + 1)) (lv' := [(1, .int (iI (v1 + 1))), (3, .int (iI x6)), (0, .ref (ad k0)), (2, .int (iI v2))]) hx hb dX2_pace_68 hl (k := 2) rfl rfl (by decide) rfl (fun ls hl => ?_)
            refine lv_goto (tgt := 139) hx hb dX2_pace_71 (by decide) ?_
            refine r_iinc (v := (v2 + 1)) (lv' := [(2, .int (iI (v2 + 1))), (1, .int (iI (v1 + 1))), (3, .int (iI x6)), (0, .ref (ad k0))]) hx hb dX2_pace_139 hl (k := 3) rfl rfl (by decide) rfl (fun ls hl => ?_)
            refine lv_goto (tgt := 4) hx hb dX2_pace_142 (by decide) ?_
            exact ih (v1 + 1) (v2 + 1) M42 _ _ _ hM hv hw (lv_sub hl [3, 1, 0] rfl)
        · have hv := hv.2 b7
          refine lv_aload_n hx hb dX2_pace_26 rfl (lv_at hl 1 rfl) ?_
          refine gf_X2_18 hx hb hC hw k0 (gL_X hk0 τ ad M) rfl dX2_pace_27 ?_
          refine lv_iload_n hx hb dX2_pace_30 rfl (lv_at hl 2 rfl) ?_
          refine lv_aload_n hx hb dX2_pace_31 rfl (lv_at hl 1 rfl) ?_
          refine gf_X2_15 hx hb hC hw k0 (gL_X hk0 τ ad M) rfl dX2_pace_32 ?_
          refine lv_iload_n hx hb dX2_pace_35 rfl (lv_at hl 3 rfl) ?_
          refine r_iald hx hb hC hw (k0 + 2) (gI_X (isL_f1 hk0) τ ad M) c4 c5 (by decide) dX2_pace_36 ?_
          refine r_top (fun x43 e43 => ?_)
          have g43 : iR x43 := by rw [e43]; exact hM.get (isL_f1 hk0).pos _
          have hv := hv x43 e43 g43
          obtain ⟨c44, hv⟩ := hv
          obtain ⟨c45, hv⟩ := hv
          obtain ⟨M46, e46⟩ : ∃ M46 : Mem, M46 = up2 M (k0 + 3) v1 x43 := ⟨_, rfl⟩
          have hv := hv M46 e46
          refine r_iast (ws' := (WX τ ad M46)) hx hb hC hw (k0 + 3) (gI_X (isL_f2 hk0) τ ad M) c44 c45 (by decide) (by rw [e46]; exact sI_X (isL_f2 hk0) τ ad M _ _) dX2_pace_37 (fun H locs hw => ?_)
          have hM : MR M46 := by rw [e46]; exact hM.put (isL_f2 hk0).pos g43
          refine r_iinc (v := (v1 + 1)) (lv' := [(1, .int (iI (v1 + 1))), (3, .int (iI x6)), (0, .ref (ad k0)), (2, .int (iI v2))]) hx hb dX2_pace_38 hl (k := 2) rfl rfl (by decide) rfl (fun ls hl => ?_)
          refine lv_goto (tgt := 139) hx hb dX2_pace_41 (by decide) ?_
          refine r_iinc (v := (v2 + 1)) (lv' := [(2, .int (iI (v2 + 1))), (1, .int (iI (v1 + 1))), (3, .int (iI x6)), (0, .ref (ad k0))]) hx hb dX2_pace_139 hl (k := 3) rfl rfl (by decide) rfl (fun ls hl => ?_)
          refine lv_goto (tgt := 4) hx hb dX2_pace_142 (by decide) ?_
          exact ih (v1 + 1) (v2 + 1) M46 _ _ _ hM hv hw (lv_sub hl [3, 1, 0] rfl)
  refine r_iconst hx hb dX2_pace_0 ?_
  refine lv_istore_n (lv' := [(1, .int (iI 0)), (0, .ref (ad k0))]) hx hb dX2_pace_1 rfl hl (by decide) rfl (fun ls hl => ?_)
  refine r_iconst hx hb dX2_pace_2 ?_
  refine lv_istore_n (lv' := [(2, .int (iI 0)), (1, .int (iI 0)), (0, .ref (ad k0))]) hx hb dX2_pace_3 rfl hl (by decide) rfl (fun ls hl => ?_)
  obtain ⟨n47, hv⟩ := hv
  refine L4 _ ?_ n47 0 0 M _ _ _ hM hv hw (lv_sub hl [2, 1, 0] rfl)
  · intro  M H locs ls hM hv hw hl
    refine r_iconst hx hb dX2_pace_145 ?_
    refine lv_aload_n hx hb dX2_pace_146 rfl (lv_at hl 0 rfl) ?_
    refine gf_X2_18 hx hb hC hw k0 (gL_X hk0 τ ad M) rfl dX2_pace_147 ?_
    refine r_iconst hx hb dX2_pace_150 ?_
    refine r_iald hx hb hC hw (k0 + 3) (gI_X (isL_f2 hk0) τ ad M) (by decide) (by decide) (by decide) dX2_pace_151 ?_
    refine r_top (fun x48 e48 => ?_)
    have g48 : iR x48 := by rw [e48]; exact hM.get (isL_f2 hk0).pos _
    have hv := hv x48 e48 g48
    refine r_iconst hx hb dX2_pace_152 ?_
    refine r_mminF hx hb hml hC hl.1 ml_X2_90 sm_min in_J9 cd_min (by decide) (Nat.le_of_ble_eq_true rfl) (Nat.zero_le _) (Nat.zero_le _) g48 (by decide) dX2_pace_153 (fun x49 e49 g49 => ?_)
    have hv := hv x49 e49 g49
    refine r_mmaxF hx hb hml hC hl.1 ml_X2_95 sm_max in_J9 cd_max (by decide) (Nat.le_of_ble_eq_true rfl) (Nat.zero_le _) (Nat.zero_le _) (by decide) g49 dX2_pace_156 (fun x50 e50 g50 => ?_)
    have hv := hv x50 e50 g50
    exact k_iret (wq_X τ ad) hx hb hr hlk hw hM g50 hv dX2_pace_159
set_option maxHeartbeats 4000000 in
set_option maxRecDepth 100000 in
theorem mX6_arrive (l : Launch) (D : va_G) (τ : Nat → ClassId) (ad : Nat → Nat) (sA sV : Nat → Nat) (sz : Nat) (k0 : Nat) (p1 : Int) (hk0 : isS k0) (hp1 : iR p1) (M : Mem) (hM : MR M) (Q : Mem → Prop) (hv : qX6_arrive k0 p1 M Q) : Met l yX6_arrive (lw_w yX6_arrive cX6_arrive 2 none) (rmk 1 0 0) (kPc D τ sA sV (WX τ ad M) sz [.ref (ad k0), .int (iI p1)]) (gQv D (EQv (WX τ ad) MR Q) (va_A (WX τ ad M) sz)) 0 0 (va_A (WX τ ad M) sz) := by
  refine k_met (ret := none) (Qc := gQv D (EQv (WX τ ad) MR Q)) (by decide +kernel) (Nat.le_of_ble_eq_true rfl) ?_
  intro p e s m args below meth c A ls hx hb hml hr hlk hnm hC hLS hA hw hl
  have hC : cx D τ s m args RX6 := hC
  have hl : lv_has ls 2 [(0, .ref (ad k0)), (1, .int (iI p1))] := hl
  unfold qX6_arrive at hv
  refine lv_aload_n hx hb dX6_arrive_0 rfl (lv_at hl 0 rfl) ?_
  refine lv_dup hx hb dX6_arrive_1 rfl ?_
  refine gf_X6_37 hx hb hC hw k0 (gS_X hk0 τ ad M) rfl dX6_arrive_2 ?_
  refine r_top (fun x1 e1 => ?_)
  have g1 : iR x1 := by rw [e1]; exact hM.get hk0.pos _
  have hv := hv x1 e1 g1
  refine r_iconst hx hb dX6_arrive_5 ?_
  refine r_iaddW hx hb dX6_arrive_6 (fun x2 e2 g2 => ?_)
  have hv := hv x2 e2 g2
  obtain ⟨M3, e3⟩ : ∃ M3 : Mem, M3 = up2 M k0 8 x2 := ⟨_, rfl⟩
  have hv := hv M3 e3
  refine pf_X6_37 (ws' := (WX τ ad M3)) hx hb hC hw k0 (gS_X hk0 τ ad M) (Nat.le_of_ble_eq_true rfl) (by rw [e3]; exact sS_8 hk0 τ ad M _) dX6_arrive_7 (fun H locs hw => ?_)
  have hM : MR M3 := by rw [e3]; exact hM.put hk0.pos g2
  refine lv_aload_n hx hb dX6_arrive_10 rfl (lv_at hl 0 rfl) ?_
  refine gf_X6_15 hx hb hC hw k0 (gS_X hk0 τ ad M3) rfl dX6_arrive_11 ?_
  refine lv_iload_n hx hb dX6_arrive_14 rfl (lv_at hl 1 rfl) ?_
  refine lv_aload_n hx hb dX6_arrive_15 rfl (lv_at hl 0 rfl) ?_
  refine gf_X6_37 hx hb hC hw k0 (gS_X hk0 τ ad M3) rfl dX6_arrive_16 ?_
  refine r_top (fun x4 e4 => ?_)
  have g4 : iR x4 := by rw [e4]; exact hM.get hk0.pos _
  have hv := hv x4 e4 g4
  obtain ⟨c5, hv⟩ := hv
  obtain ⟨c6, hv⟩ := hv
  obtain ⟨M7, e7⟩ : ∃ M7 : Mem, M7 = up2 M3 (k0 + 2) p1 x4 := ⟨_, rfl⟩
  have hv := hv M7 e7
  refine r_iast (ws' := (WX τ ad M7)) hx hb hC hw (k0 + 2) (gI_X (isS_f1 hk0) τ ad M3) c5 c6 (by decide) (by rw [e7]; exact sI_X (isS_f1 hk0) τ ad M3 _ _) dX6_arrive_19 (fun H locs hw => ?_)
  have hM : MR M7 := by rw [e7]; exact hM.put (isS_f1 hk0).pos g4
  refine lv_aload_n hx hb dX6_arrive_20 rfl (lv_at hl 0 rfl) ?_
  refine gf_X6_9 hx hb hC hw k0 (gS_X hk0 τ ad M7) rfl dX6_arrive_21 ?_
  refine lv_iload_n hx hb dX6_arrive_24 rfl (lv_at hl 1 rfl) ?_
  refine r_iconst hx hb dX6_arrive_25 ?_
  obtain ⟨M8, e8⟩ : ∃ M8 : Mem, M8 = up2 M7 (k0 + 1) p1 (-1) := ⟨_, rfl⟩
  have hv := hv M8 e8
  refine r_iast (ws' := (WX τ ad M8)) hx hb hC hw (k0 + 1) (gI_X (isS_f0 hk0) τ ad M7) c5 c6 (by decide) (by rw [e8]; exact sI_X (isS_f0 hk0) τ ad M7 _ _) dX6_arrive_26 (fun H locs hw => ?_)
  have hM : MR M8 := by rw [e8]; exact hM.put (isS_f0 hk0).pos (by decide)
  exact k_vret (wq_X τ ad) hx hb hr hlk hw hM hv dX6_arrive_27
set_option maxHeartbeats 4000000 in
set_option maxRecDepth 100000 in
theorem mX6_takenCells (l : Launch) (D : va_G) (τ : Nat → ClassId) (ad : Nat → Nat) (sA sV : Nat → Nat) (sz : Nat) (k0 : Nat) (hk0 : isS k0) (M : Mem) (hM : MR M) (Q : Int → Mem → Prop) (hv : qX6_takenCells k0 M Q) : Met l yX6_takenCells (lw_w yX6_takenCells cX6_takenCells 3 (some .int)) (rmk 1 0 0) (kPc D τ sA sV (WX τ ad M) sz [.ref (ad k0)]) (gQi D (EQi (WX τ ad) MR Q) (va_A (WX τ ad M) sz)) 0 0 (va_A (WX τ ad M) sz) := by
  refine k_met (ret := (some .int)) (Qc := gQi D (EQi (WX τ ad) MR Q)) (by decide +kernel) (Nat.le_of_ble_eq_true rfl) ?_
  intro p e s m args below meth c A ls hx hb hml hr hlk hnm hC hLS hA hw hl
  have hC : cx D τ s m args RX6 := hC
  have hl : lv_has ls 3 [(0, .ref (ad k0))] := hl
  unfold qX6_takenCells at hv
  have L4 : ∀ (n : Nat) (v1 : Int) (v2 : Int) (M : Mem) (H : Heap) (locs : List Loc) (ls : Array Slot), MR M → qX6_takenCells_L4 k0  Q n v1 v2 M → wS D A s.heap (WX τ ad M) H locs → lv_has ls 3 [(0, .ref (ad k0)), (1, .int (iI v1)), (2, .int (iI v2))] → W p l e (rmk 1 0 0) s m args below meth c H locs 0 0 (MQ below (gQi D (EQi (WX τ ad) MR Q) A) args s 0 0 A) (F0 m 4 ls []) := by
    intro n
    induction n with
    | zero => intro v1 v2 M H locs ls hM hv; rw [qX6_takenCells_L4] at hv; exact hv.elim
    | succ n ih =>
      intro v1 v2 M H locs ls hM hv hw hl
      rw [qX6_takenCells_L4] at hv
      refine lv_iload_n hx hb dX6_takenCells_4 rfl (lv_at hl 2 rfl) ?_
      refine lv_aload_n hx hb dX6_takenCells_5 rfl (lv_at hl 0 rfl) ?_
      refine gf_X6_30 hx hb hC hw k0 (gS_X hk0 τ ad M) rfl dX6_takenCells_6 ?_
      refine r_top (fun x1 e1 => ?_)
      have g1 : iR x1 := by rw [e1]; exact hM.get hk0.pos _
      have hv := hv x1 e1 g1
      obtain ⟨c2, hv⟩ := hv
      refine r_icmp_ge (tgt := 42) hx hb dX6_takenCells_9 (by decide) c2 g1 (fun b3 => ?_) (fun b3 => ?_)
      · have hv := hv.1 b3
        refine lv_iload_n hx hb dX6_takenCells_42 rfl (lv_at hl 1 rfl) ?_
        obtain ⟨c4, hv⟩ := hv
        exact k_iret (wq_X τ ad) hx hb hr hlk hw hM c4 hv dX6_takenCells_43
      · have hv := hv.2 b3
        refine lv_iload_n hx hb dX6_takenCells_12 rfl (lv_at hl 1 rfl) ?_
        refine lv_aload_n hx hb dX6_takenCells_13 rfl (lv_at hl 0 rfl) ?_
        refine gf_X6_9 hx hb hC hw k0 (gS_X hk0 τ ad M) rfl dX6_takenCells_14 ?_
        refine lv_iload_n hx hb dX6_takenCells_17 rfl (lv_at hl 2 rfl) ?_
        obtain ⟨c5, hv⟩ := hv
        obtain ⟨c6, hv⟩ := hv
        refine r_iald hx hb hC hw (k0 + 1) (gI_X (isS_f0 hk0) τ ad M) c5 c6 (by decide) dX6_takenCells_18 ?_
        refine r_top (fun x7 e7 => ?_)
        have g7 : iR x7 := by rw [e7]; exact hM.get (isS_f0 hk0).pos _
        have hv := hv x7 e7 g7
        refine r_if_ge (tgt := 26) hx hb dX6_takenCells_19 (by decide) g7  (fun b8 => ?_) (fun b8 => ?_)
        · have hv := hv.1 b8
          refine r_iconst hx hb dX6_takenCells_26 ?_
          refine lv_aload_n hx hb dX6_takenCells_27 rfl (lv_at hl 0 rfl) ?_
          refine gf_X6_9 hx hb hC hw k0 (gS_X hk0 τ ad M) rfl dX6_takenCells_28 ?_
          refine lv_iload_n hx hb dX6_takenCells_31 rfl (lv_at hl 2 rfl) ?_
          refine r_iald hx hb hC hw (k0 + 1) (gI_X (isS_f0 hk0) τ ad M) c5 c6 (by decide) dX6_takenCells_32 ?_
          refine r_top (fun x9 e9 => ?_)
          have g9 : iR x9 := by rw [e9]; exact hM.get (isS_f0 hk0).pos _
          have hv := hv x9 e9 g9
          refine r_ishlF hx hb dX6_takenCells_33 (fun x10 e10 g10 => ?_)
          have hv := hv x10 e10 g10
          refine r_iorF hx hb dX6_takenCells_34 (fun x11 e11 g11 => ?_)
          have hv := hv x11 e11 g11
          refine lv_istore_n (lv' := [(1, .int (iI x11)), (0, .ref (ad k0)), (2, .int (iI v2))]) hx hb dX6_takenCells_35 rfl hl (by decide) rfl (fun ls hl => ?_)
          refine r_iinc (v := (v2 + 1)) (lv' := [(2, .int (iI (v2 + 1))), (1, .int (iI x11)), (0, .ref (ad k0))]) hx hb dX6_takenCells_36 hl (k := 2) rfl rfl (by decide) rfl (fun ls hl => ?_)
          refine lv_goto (tgt := 4) hx hb dX6_takenCells_39 (by decide) ?_
          exact ih x11 (v2 + 1) M _ _ _ hM hv hw (lv_sub hl [2, 1, 0] rfl)
        · have hv := hv.2 b8
          refine r_iconst hx hb dX6_takenCells_22 ?_
          refine lv_goto (tgt := 34) hx hb dX6_takenCells_23 (by decide) ?_
          refine r_iorF hx hb dX6_takenCells_34 (fun x12 e12 g12 => ?_)
          have hv := hv x12 e12 g12
          refine lv_istore_n (lv' := [(1, .int (iI x12)), (0, .ref (ad k0)), (2, .int (iI v2))]) hx hb dX6_takenCells_35 rfl hl (by decide) rfl (fun ls hl => ?_)
          refine r_iinc (v := (v2 + 1)) (lv' := [(2, .int (iI (v2 + 1))), (1, .int (iI x12)), (0, .ref (ad k0))]) hx hb dX6_takenCells_36 hl (k := 2) rfl rfl (by decide) rfl (fun ls hl => ?_)
          refine lv_goto (tgt := 4) hx hb dX6_takenCells_39 (by decide) ?_
          exact ih x12 (v2 + 1) M _ _ _ hM hv hw (lv_sub hl [2, 1, 0] rfl)
  refine r_iconst hx hb dX6_takenCells_0 ?_
  refine lv_istore_n (lv' := [(1, .int (iI 0)), (0, .ref (ad k0))]) hx hb dX6_takenCells_1 rfl hl (by decide) rfl (fun ls hl => ?_)
  refine r_iconst hx hb dX6_takenCells_2 ?_
  refine lv_istore_n (lv' := [(2, .int (iI 0)), (1, .int (iI 0)), (0, .ref (ad k0))]) hx hb dX6_takenCells_3 rfl hl (by decide) rfl (fun ls hl => ?_)
  obtain ⟨n13, hv⟩ := hv
  refine L4  n13 0 0 M _ _ _ hM hv hw (lv_sub hl [2, 1, 0] rfl)
set_option maxHeartbeats 4000000 in
set_option maxRecDepth 100000 in
theorem mX10_moveHearse (l : Launch) (D : va_G) (τ : Nat → ClassId) (ad : Nat → Nat) (sA sV : Nat → Nat) (sz : Nat) (k1 : Nat) (k2 : Nat) (p3 : Int) (hk1 : isS k1) (hk2 : isL k2) (hp3 : iR p3) (M : Mem) (hM : MR M) (Q : Mem → Prop) (hv : qX10_moveHearse k1 k2 p3 M Q) : Met l yX10_moveHearse (lw_w yX10_moveHearse cX10_moveHearse 6 none) (rmk 3 0 0) (kPc D τ sA sV (WX τ ad M) sz [.ref (ad 160), .ref (ad k1), .ref (ad k2), .int (iI p3)]) (gQv D (EQv (WX τ ad) MR Q) (va_A (WX τ ad M) sz)) 0 0 (va_A (WX τ ad M) sz) := by
  refine k_met (ret := none) (Qc := gQv D (EQv (WX τ ad) MR Q)) (by decide +kernel) (Nat.le_of_ble_eq_true rfl) ?_
  intro p e s m args below meth c A ls hx hb hml hr hlk hnm hC hLS hA hw hl
  have hC : cx D τ s m args RX10 := hC
  have hl : lv_has ls 6 [(0, .ref (ad 160)), (1, .ref (ad k1)), (2, .ref (ad k2)), (3, .int (iI p3))] := hl
  unfold qX10_moveHearse at hv
  refine lv_aload_n hx hb dX10_moveHearse_0 rfl (lv_at hl 1 rfl) ?_
  refine gf_X10_69 hx hb hC hw k1 (gS_X hk1 τ ad M) rfl dX10_moveHearse_1 ?_
  refine lv_iload_n hx hb dX10_moveHearse_4 rfl (lv_at hl 3 rfl) ?_
  obtain ⟨c1, hv⟩ := hv
  obtain ⟨c2, hv⟩ := hv
  refine r_iald hx hb hC hw (k1 + 1) (gI_X (isS_f0 hk1) τ ad M) c1 c2 (by decide) dX10_moveHearse_5 ?_
  refine r_top (fun x3 e3 => ?_)
  have g3 : iR x3 := by rw [e3]; exact hM.get (isS_f0 hk1).pos _
  have hv := hv x3 e3 g3
  refine lv_istore (lv' := [(4, .int (iI x3)), (0, .ref (ad 160)), (1, .ref (ad k1)), (2, .ref (ad k2)), (3, .int (iI p3))]) hx hb dX10_moveHearse_6 hl (by decide) rfl (fun ls hl => ?_)
  refine lv_aload_n hx hb dX10_moveHearse_8 rfl (lv_at hl 3 rfl) ?_
  refine lv_aload_n hx hb dX10_moveHearse_9 rfl (lv_at hl 2 rfl) ?_
  refine lv_aload_n hx hb dX10_moveHearse_10 rfl (lv_at hl 1 rfl) ?_
  refine gf_X10_29 hx hb hC hw 160 (gX_160 τ ad M) rfl dX10_moveHearse_11 ?_
  refine lv_iload_n hx hb dX10_moveHearse_14 rfl (lv_at hl 4 rfl) ?_
  refine k_cVv (wq_X τ ad) hx hb hml hC hLS hA hw hl.1 (mX2_observe l D τ ad sA sV _ k2 k1 p3 hk2 hk1 hp3 M hM _ hv) kX2_observe ml_X10_87 rfl (gL_X hk2 τ ad M) rfl rfl (Nat.le_of_ble_eq_true rfl) (rm_ok (by decide) (by decide)) ⟨Nat.zero_le _, Nat.zero_le _⟩ dX10_moveHearse_15 (fun M4 H locs hM hv hw => ?_)
  refine lv_aload_n hx hb dX10_moveHearse_18 rfl (lv_at hl 1 rfl) ?_
  refine lv_aload_n hx hb dX10_moveHearse_19 rfl (lv_at hl 2 rfl) ?_
  refine k_cVi (wq_X τ ad) hx hb hml hC hLS hA hw hl.1 (mX6_takenCells l D τ ad sA sV _ k1 hk1 M4 hM _ hv) kX6_takenCells ml_X10_91 rfl (gS_X hk1 τ ad M4) rfl rfl (Nat.le_of_ble_eq_true rfl) (rm_ok (by decide) (by decide)) ⟨Nat.zero_le _, Nat.zero_le _⟩ dX10_moveHearse_20 (fun x5 M5 H locs g5 hM hv hw => ?_)
  have hv := hv g5
  refine lv_iload hx hb dX10_moveHearse_23 (lv_at hl 0 rfl) ?_
  refine lv_aload_n hx hb dX10_moveHearse_25 rfl (lv_at hl 3 rfl) ?_
  refine k_cVi (wq_X τ ad) hx hb hml hC hLS hA hw hl.1 (mX2_pace l D τ ad sA sV _ k2 hk2 M5 hM _ hv) kX2_pace ml_X10_95 rfl (gL_X hk2 τ ad M5) rfl rfl (Nat.le_of_ble_eq_true rfl) (rm_ok (by decide) (by decide)) ⟨Nat.zero_le _, Nat.zero_le _⟩ dX10_moveHearse_26 (fun x6 M6 H locs g6 hM hv hw => ?_)
  have hv := hv g6
  refine k_cVi (wq_X τ ad) hx hb hml hC hLS hA hw hl.1 (mX10_goal l D τ ad sA sV _ x5 x3 x6 g5 g3 g6 M6 hM _ hv) kX10_goal ml_X10_98 rfl (gX_160 τ ad M6) rfl rfl (Nat.le_of_ble_eq_true rfl) (rm_ok (by decide) (by decide)) ⟨Nat.zero_le _, Nat.zero_le _⟩ dX10_moveHearse_29 (fun x7 M7 H locs g7 hM hv hw => ?_)
  have hv := hv g7
  refine lv_istore (lv' := [(5, .int (iI x7)), (4, .int (iI x3)), (0, .ref (ad 160)), (1, .ref (ad k1)), (2, .ref (ad k2)), (3, .int (iI p3))]) hx hb dX10_moveHearse_32 hl (by decide) rfl (fun ls hl => ?_)
  refine lv_iload hx hb dX10_moveHearse_34 (lv_at hl 0 rfl) ?_
  refine r_iconst hx hb dX10_moveHearse_36 ?_
  refine r_icmp_ne (tgt := 62) hx hb dX10_moveHearse_37 (by decide) g7 (by decide) (fun b8 => ?_) (fun b8 => ?_)
  · have hv := hv.1 b8
    refine lv_aload_n hx hb dX10_moveHearse_62 rfl (lv_at hl 2 rfl) ?_
    refine r_iconst hx hb dX10_moveHearse_63 ?_
    obtain ⟨M9, e9⟩ : ∃ M9 : Mem, M9 = up2 M7 160 5 1 := ⟨_, rfl⟩
    have hv := hv M9 e9
    refine pf_X10_25 (ws' := (WX τ ad M9)) hx hb hC hw 160 (by decide) (gX_160 τ ad M7) (Nat.le_of_ble_eq_true rfl) (by rw [e9]; exact sX_160_5 τ ad M7 _) dX10_moveHearse_64 (fun H locs hw => ?_)
    have hM : MR M9 := by rw [e9]; exact hM.put (by decide) (by decide)
    refine lv_iload hx hb dX10_moveHearse_67 (lv_at hl 0 rfl) ?_
    refine lv_aload_n hx hb dX10_moveHearse_69 rfl (lv_at hl 2 rfl) ?_
    refine gf_X10_29 hx hb hC hw 160 (gX_160 τ ad M9) rfl dX10_moveHearse_70 ?_
    refine k_cVi (wq_X τ ad) hx hb hml hC hLS hA hw hl.1 (mX8_gate l D τ ad sA sV _   M9 hM _ hv) kX8_gate ml_X10_102 rfl (gX_158 τ ad M9) rfl rfl (Nat.le_of_ble_eq_true rfl) (rm_ok (by decide) (by decide)) ⟨Nat.zero_le _, Nat.zero_le _⟩ dX10_moveHearse_73 (fun x10 M10 H locs g10 hM hv hw => ?_)
    have hv := hv g10
    refine r_icmp_ne (tgt := 87) hx hb dX10_moveHearse_76 (by decide) g7 g10 (fun b11 => ?_) (fun b11 => ?_)
    · have hv := hv.1 b11
      refine lv_aload_n hx hb dX10_moveHearse_87 rfl (lv_at hl 3 rfl) ?_
      refine gf_X10_69 hx hb hC hw k1 (gS_X hk1 τ ad M10) rfl dX10_moveHearse_88 ?_
      refine lv_iload_n hx hb dX10_moveHearse_91 rfl (lv_at hl 5 rfl) ?_
      refine lv_iload hx hb dX10_moveHearse_92 (lv_at hl 0 rfl) ?_
      obtain ⟨M12, e12⟩ : ∃ M12 : Mem, M12 = up2 M10 (k1 + 1) p3 x7 := ⟨_, rfl⟩
      have hv := hv M12 e12
      refine r_iast (ws' := (WX τ ad M12)) hx hb hC hw (k1 + 1) (gI_X (isS_f0 hk1) τ ad M10) c1 c2 (by decide) (by rw [e12]; exact sI_X (isS_f0 hk1) τ ad M10 _ _) dX10_moveHearse_94 (fun H locs hw => ?_)
      have hM : MR M12 := by rw [e12]; exact hM.put (isS_f0 hk1).pos g7
      exact k_vret (wq_X τ ad) hx hb hr hlk hw hM hv dX10_moveHearse_95
    · have hv := hv.2 b11
      refine lv_aload_n hx hb dX10_moveHearse_79 rfl (lv_at hl 3 rfl) ?_
      refine lv_iload_n hx hb dX10_moveHearse_80 rfl (lv_at hl 5 rfl) ?_
      refine k_cVv (wq_X τ ad) hx hb hml hC hLS hA hw hl.1 (mX6_arrive l D τ ad sA sV _ k1 p3 hk1 hp3 M10 hM _ hv) kX6_arrive ml_X10_105 rfl (gS_X hk1 τ ad M10) rfl rfl (Nat.le_of_ble_eq_true rfl) (rm_ok (by decide) (by decide)) ⟨Nat.zero_le _, Nat.zero_le _⟩ dX10_moveHearse_81 (fun M13 H locs hM hv hw => ?_)
      refine lv_goto (tgt := 95) hx hb dX10_moveHearse_84 (by decide) ?_
      exact k_vret (wq_X τ ad) hx hb hr hlk hw hM hv dX10_moveHearse_95
  · have hv := hv.2 b8
    refine lv_aload_n hx hb dX10_moveHearse_40 rfl (lv_at hl 2 rfl) ?_
    refine lv_dup hx hb dX10_moveHearse_41 rfl ?_
    refine gf_X10_18 hx hb hC hw 160 (gX_160 τ ad M7) rfl dX10_moveHearse_42 ?_
    refine r_top (fun x14 e14 => ?_)
    have g14 : iR x14 := by rw [e14]; exact hM.get (by decide) _
    have hv := hv x14 e14 g14
    refine r_iconst hx hb dX10_moveHearse_45 ?_
    refine r_iaddW hx hb dX10_moveHearse_46 (fun x15 e15 g15 => ?_)
    have hv := hv x15 e15 g15
    obtain ⟨M16, e16⟩ : ∃ M16 : Mem, M16 = up2 M7 160 3 x15 := ⟨_, rfl⟩
    have hv := hv M16 e16
    refine pf_X10_18 (ws' := (WX τ ad M16)) hx hb hC hw 160 (gX_160 τ ad M7) (Nat.le_of_ble_eq_true rfl) (by rw [e16]; exact sX_160_3 τ ad M7 _) dX10_moveHearse_47 (fun H locs hw => ?_)
    have hM : MR M16 := by rw [e16]; exact hM.put (by decide) g15
    refine lv_aload_n hx hb dX10_moveHearse_50 rfl (lv_at hl 2 rfl) ?_
    refine gf_X10_9 hx hb hC hw 160 (gX_160 τ ad M16) rfl dX10_moveHearse_51 ?_
    refine lv_iload hx hb dX10_moveHearse_54 (lv_at hl 1 rfl) ?_
    refine lv_dup2_11 hx hb dX10_moveHearse_56 rfl rfl ?_
    obtain ⟨c17, hv⟩ := hv
    obtain ⟨c18, hv⟩ := hv
    refine r_iald hx hb hC hw 161 (gI_X aX_161 τ ad M16) c17 c18 (by decide) dX10_moveHearse_57 ?_
    refine r_top (fun x19 e19 => ?_)
    have g19 : iR x19 := by rw [e19]; exact hM.get aX_161.pos _
    have hv := hv x19 e19 g19
    refine r_iconst hx hb dX10_moveHearse_58 ?_
    refine r_iaddW hx hb dX10_moveHearse_59 (fun x20 e20 g20 => ?_)
    have hv := hv x20 e20 g20
    obtain ⟨M21, e21⟩ : ∃ M21 : Mem, M21 = up2 M16 161 x3 x20 := ⟨_, rfl⟩
    have hv := hv M21 e21
    refine r_iast (ws' := (WX τ ad M21)) hx hb hC hw 161 (gI_X aX_161 τ ad M16) c17 c18 (by decide) (by rw [e21]; exact sI_X aX_161 τ ad M16 _ _) dX10_moveHearse_60 (fun H locs hw => ?_)
    have hM : MR M21 := by rw [e21]; exact hM.put aX_161.pos g20
    exact k_vret (wq_X τ ad) hx hb hr hlk hw hM hv dX10_moveHearse_61
set_option maxHeartbeats 4000000 in
set_option maxRecDepth 100000 in
theorem mX6_endAt (l : Launch) (D : va_G) (τ : Nat → ClassId) (ad : Nat → Nat) (sA sV : Nat → Nat) (sz : Nat) (k0 : Nat) (p1 : Int) (p2 : Int) (hk0 : isS k0) (hp1 : iR p1) (hp2 : iR p2) (M : Mem) (hM : MR M) (Q : Mem → Prop) (hv : qX6_endAt k0 p1 p2 M Q) : Met l yX6_endAt (lw_w yX6_endAt cX6_endAt 3 none) (rmk 1 0 0) (kPc D τ sA sV (WX τ ad M) sz [.ref (ad k0), .int (iI p1), .int (iI p2)]) (gQv D (EQv (WX τ ad) MR Q) (va_A (WX τ ad M) sz)) 0 0 (va_A (WX τ ad M) sz) := by
  refine k_met (ret := none) (Qc := gQv D (EQv (WX τ ad) MR Q)) (by decide +kernel) (Nat.le_of_ble_eq_true rfl) ?_
  intro p e s m args below meth c A ls hx hb hml hr hlk hnm hC hLS hA hw hl
  have hC : cx D τ s m args RX6 := hC
  have hl : lv_has ls 3 [(0, .ref (ad k0)), (1, .int (iI p1)), (2, .int (iI p2))] := hl
  unfold qX6_endAt at hv
  refine lv_aload_n hx hb dX6_endAt_0 rfl (lv_at hl 0 rfl) ?_
  refine gf_X6_27 hx hb hC hw k0 (gS_X hk0 τ ad M) rfl dX6_endAt_1 ?_
  refine lv_iload_n hx hb dX6_endAt_4 rfl (lv_at hl 1 rfl) ?_
  refine lv_iload_n hx hb dX6_endAt_5 rfl (lv_at hl 2 rfl) ?_
  obtain ⟨c1, hv⟩ := hv
  obtain ⟨c2, hv⟩ := hv
  obtain ⟨M3, e3⟩ : ∃ M3 : Mem, M3 = up2 M (k0 + 6) p1 p2 := ⟨_, rfl⟩
  have hv := hv M3 e3
  refine r_iast (ws' := (WX τ ad M3)) hx hb hC hw (k0 + 6) (gI_X (isS_f5 hk0) τ ad M) c1 c2 (by decide) (by rw [e3]; exact sI_X (isS_f5 hk0) τ ad M _ _) dX6_endAt_6 (fun H locs hw => ?_)
  have hM : MR M3 := by rw [e3]; exact hM.put (isS_f5 hk0).pos hp2
  refine lv_aload_n hx hb dX6_endAt_7 rfl (lv_at hl 0 rfl) ?_
  refine lv_dup hx hb dX6_endAt_8 rfl ?_
  refine gf_X6_40 hx hb hC hw k0 (gS_X hk0 τ ad M3) rfl dX6_endAt_9 ?_
  refine r_top (fun x4 e4 => ?_)
  have g4 : iR x4 := by rw [e4]; exact hM.get hk0.pos _
  have hv := hv x4 e4 g4
  refine r_iconst hx hb dX6_endAt_12 ?_
  refine r_iaddW hx hb dX6_endAt_13 (fun x5 e5 g5 => ?_)
  have hv := hv x5 e5 g5
  obtain ⟨M6, e6⟩ : ∃ M6 : Mem, M6 = up2 M3 k0 9 x5 := ⟨_, rfl⟩
  have hv := hv M6 e6
  refine pf_X6_40 (ws' := (WX τ ad M6)) hx hb hC hw k0 (gS_X hk0 τ ad M3) (Nat.le_of_ble_eq_true rfl) (by rw [e6]; exact sS_9 hk0 τ ad M3 _) dX6_endAt_14 (fun H locs hw => ?_)
  have hM : MR M6 := by rw [e6]; exact hM.put hk0.pos g5
  exact k_vret (wq_X τ ad) hx hb hr hlk hw hM hv dX6_endAt_17
set_option maxHeartbeats 4000000 in
set_option maxRecDepth 100000 in
theorem mX6_hasArrived (l : Launch) (D : va_G) (τ : Nat → ClassId) (ad : Nat → Nat) (sA sV : Nat → Nat) (sz : Nat) (k0 : Nat) (p1 : Int) (hk0 : isS k0) (hp1 : iR p1) (M : Mem) (hM : MR M) (Q : Int → Mem → Prop) (hv : qX6_hasArrived k0 p1 M Q) : Met l yX6_hasArrived (lw_w yX6_hasArrived cX6_hasArrived 2 (some .boolean)) (rmk 1 0 0) (kPc D τ sA sV (WX τ ad M) sz [.ref (ad k0), .int (iI p1)]) (gQi D (EQz (WX τ ad) MR Q) (va_A (WX τ ad M) sz)) 0 0 (va_A (WX τ ad M) sz) := by
  refine k_met (ret := (some .boolean)) (Qc := gQi D (EQz (WX τ ad) MR Q)) (by decide +kernel) (Nat.le_of_ble_eq_true rfl) ?_
  intro p e s m args below meth c A ls hx hb hml hr hlk hnm hC hLS hA hw hl
  have hC : cx D τ s m args RX6 := hC
  have hl : lv_has ls 2 [(0, .ref (ad k0)), (1, .int (iI p1))] := hl
  unfold qX6_hasArrived at hv
  refine lv_aload_n hx hb dX6_hasArrived_0 rfl (lv_at hl 0 rfl) ?_
  refine gf_X6_15 hx hb hC hw k0 (gS_X hk0 τ ad M) rfl dX6_hasArrived_1 ?_
  refine lv_iload_n hx hb dX6_hasArrived_4 rfl (lv_at hl 1 rfl) ?_
  obtain ⟨c1, hv⟩ := hv
  obtain ⟨c2, hv⟩ := hv
  refine r_iald hx hb hC hw (k0 + 2) (gI_X (isS_f1 hk0) τ ad M) c1 c2 (by decide) dX6_hasArrived_5 ?_
  refine r_top (fun x3 e3 => ?_)
  have g3 : iR x3 := by rw [e3]; exact hM.get (isS_f1 hk0).pos _
  have hv := hv x3 e3 g3
  refine r_if_le (tgt := 13) hx hb dX6_hasArrived_6 (by decide) g3  (fun b4 => ?_) (fun b4 => ?_)
  · have hv := hv.1 b4
    refine r_iconst hx hb dX6_hasArrived_13 ?_
    exact k_zret (wq_X τ ad) hx hb hr hlk hw hM (by decide) (by decide) hv dX6_hasArrived_14
  · have hv := hv.2 b4
    refine r_iconst hx hb dX6_hasArrived_9 ?_
    refine lv_goto (tgt := 14) hx hb dX6_hasArrived_10 (by decide) ?_
    exact k_zret (wq_X τ ad) hx hb hr hlk hw hM (by decide) (by decide) hv dX6_hasArrived_14
set_option maxHeartbeats 4000000 in
set_option maxRecDepth 100000 in
theorem mX6_nearestTo (l : Launch) (D : va_G) (τ : Nat → ClassId) (ad : Nat → Nat) (sA sV : Nat → Nat) (sz : Nat) (k0 : Nat) (p1 : Int) (hk0 : isS k0) (hp1 : iR p1) (M : Mem) (hM : MR M) (Q : Int → Mem → Prop) (hv : qX6_nearestTo k0 p1 M Q) : Met l yX6_nearestTo (lw_w yX6_nearestTo cX6_nearestTo 7 (some .int)) (rmk 1 0 0) (kPc D τ sA sV (WX τ ad M) sz [.ref (ad k0), .int (iI p1)]) (gQi D (EQi (WX τ ad) MR Q) (va_A (WX τ ad M) sz)) 0 0 (va_A (WX τ ad M) sz) := by
  refine k_met (ret := (some .int)) (Qc := gQi D (EQi (WX τ ad) MR Q)) (by decide +kernel) (Nat.le_of_ble_eq_true rfl) ?_
  intro p e s m args below meth c A ls hx hb hml hr hlk hnm hC hLS hA hw hl
  have hC : cx D τ s m args RX6 := hC
  have hl : lv_has ls 7 [(0, .ref (ad k0)), (1, .int (iI p1))] := hl
  unfold qX6_nearestTo at hv
  have J59 : ∀ (R : Int → Int → Int → Mem → Prop), (∀ (v2 : Int) (v3 : Int) (v4 : Int) (M : Mem) (H : Heap) (locs : List Loc) (ls : Array Slot), MR M → R v2 v3 v4 M → wS D A s.heap (WX τ ad M) H locs → lv_has ls 7 [(0, .ref (ad k0)), (1, .int (iI p1)), (2, .int (iI v2)), (3, .int (iI v3)), (4, .int (iI v4))] → W p l e (rmk 1 0 0) s m args below meth c H locs 0 0 (MQ below (gQi D (EQi (WX τ ad) MR Q) A) args s 0 0 A) (F0 m 8 ls [])) → ∀ (v2 : Int) (v3 : Int) (v4 : Int) (v5 : Int) (t0 : Int) (M : Mem) (H : Heap) (locs : List Loc) (ls : Array Slot), MR M → qX6_nearestTo_J59 k0 p1 R  Q v2 v3 v4 v5 t0 M → wS D A s.heap (WX τ ad M) H locs → lv_has ls 7 [(0, .ref (ad k0)), (1, .int (iI p1)), (2, .int (iI v2)), (3, .int (iI v3)), (4, .int (iI v4)), (5, .int (iI v5))] → W p l e (rmk 1 0 0) s m args below meth c H locs 0 0 (MQ below (gQi D (EQi (WX τ ad) MR Q) A) args s 0 0 A) (F0 m 59 ls [.int (iI t0)]) := by
    intro R hR  v2 v3 v4 v5 t0 M H locs ls hM hv hw hl
    unfold qX6_nearestTo_J59 at hv
    refine lv_istore (lv' := [(6, .int (iI t0)), (0, .ref (ad k0)), (1, .int (iI p1)), (2, .int (iI v2)), (3, .int (iI v3)), (4, .int (iI v4)), (5, .int (iI v5))]) hx hb dX6_nearestTo_59 hl (by decide) rfl (fun ls hl => ?_)
    refine lv_iload hx hb dX6_nearestTo_61 (lv_at hl 0 rfl) ?_
    obtain ⟨c13, hv⟩ := hv
    refine r_if_eq (tgt := 82) hx hb dX6_nearestTo_63 (by decide) c13  (fun b14 => ?_) (fun b14 => ?_)
    · have hv := hv.1 b14
      refine r_iinc (v := (v4 + 1)) (lv' := [(4, .int (iI (v4 + 1))), (6, .int (iI t0)), (0, .ref (ad k0)), (1, .int (iI p1)), (2, .int (iI v2)), (3, .int (iI v3)), (5, .int (iI v5))]) hx hb dX6_nearestTo_82 hl (k := 5) rfl rfl (by decide) rfl (fun ls hl => ?_)
      refine lv_goto (tgt := 8) hx hb dX6_nearestTo_85 (by decide) ?_
      exact hR v2 v3 (v4 + 1) M _ _ _ hM hv hw (lv_sub hl [2, 3, 4, 5, 0] rfl)
    · have hv := hv.2 b14
      refine lv_aload_n hx hb dX6_nearestTo_66 rfl (lv_at hl 1 rfl) ?_
      refine gf_X6_9 hx hb hC hw k0 (gS_X hk0 τ ad M) rfl dX6_nearestTo_67 ?_
      refine lv_iload hx hb dX6_nearestTo_70 (lv_at hl 5 rfl) ?_
      obtain ⟨c15, hv⟩ := hv
      obtain ⟨c16, hv⟩ := hv
      refine r_iald hx hb hC hw (k0 + 1) (gI_X (isS_f0 hk0) τ ad M) c15 c16 (by decide) dX6_nearestTo_72 ?_
      refine r_top (fun x17 e17 => ?_)
      have g17 : iR x17 := by rw [e17]; exact hM.get (isS_f0 hk0).pos _
      have hv := hv x17 e17 g17
      refine r_if_lt (tgt := 82) hx hb dX6_nearestTo_73 (by decide) g17  (fun b18 => ?_) (fun b18 => ?_)
      · have hv := hv.1 b18
        refine r_iinc (v := (v4 + 1)) (lv' := [(4, .int (iI (v4 + 1))), (6, .int (iI t0)), (0, .ref (ad k0)), (1, .int (iI p1)), (2, .int (iI v2)), (3, .int (iI v3)), (5, .int (iI v5))]) hx hb dX6_nearestTo_82 hl (k := 5) rfl rfl (by decide) rfl (fun ls hl => ?_)
        refine lv_goto (tgt := 8) hx hb dX6_nearestTo_85 (by decide) ?_
        exact hR v2 v3 (v4 + 1) M _ _ _ hM hv hw (lv_sub hl [2, 3, 4, 5, 0] rfl)
      · have hv := hv.2 b18
        refine lv_iload hx hb dX6_nearestTo_76 (lv_at hl 5 rfl) ?_
        refine lv_istore_n (lv' := [(2, .int (iI v4)), (6, .int (iI t0)), (0, .ref (ad k0)), (1, .int (iI p1)), (3, .int (iI v3)), (4, .int (iI v4)), (5, .int (iI v5))]) hx hb dX6_nearestTo_78 rfl hl (by decide) rfl (fun ls hl => ?_)
        refine lv_iload hx hb dX6_nearestTo_79 (lv_at hl 6 rfl) ?_
        refine lv_istore_n (lv' := [(3, .int (iI v5)), (2, .int (iI v4)), (6, .int (iI t0)), (0, .ref (ad k0)), (1, .int (iI p1)), (4, .int (iI v4)), (5, .int (iI v5))]) hx hb dX6_nearestTo_81 rfl hl (by decide) rfl (fun ls hl => ?_)
        refine r_iinc (v := (v4 + 1)) (lv' := [(4, .int (iI (v4 + 1))), (3, .int (iI v5)), (2, .int (iI v4)), (6, .int (iI t0)), (0, .ref (ad k0)), (1, .int (iI p1)), (5, .int (iI v5))]) hx hb dX6_nearestTo_82 hl (k := 5) rfl rfl (by decide) rfl (fun ls hl => ?_)
        refine lv_goto (tgt := 8) hx hb dX6_nearestTo_85 (by decide) ?_
        exact hR v4 v5 (v4 + 1) M _ _ _ hM hv hw (lv_sub hl [4, 5, 2, 1, 0] rfl)
  have J54 : ∀ (R : Int → Int → Int → Mem → Prop), (∀ (v2 : Int) (v3 : Int) (v4 : Int) (M : Mem) (H : Heap) (locs : List Loc) (ls : Array Slot), MR M → R v2 v3 v4 M → wS D A s.heap (WX τ ad M) H locs → lv_has ls 7 [(0, .ref (ad k0)), (1, .int (iI p1)), (2, .int (iI v2)), (3, .int (iI v3)), (4, .int (iI v4))] → W p l e (rmk 1 0 0) s m args below meth c H locs 0 0 (MQ below (gQi D (EQi (WX τ ad) MR Q) A) args s 0 0 A) (F0 m 8 ls [])) → ∀ (v2 : Int) (v3 : Int) (v4 : Int) (v5 : Int) (M : Mem) (H : Heap) (locs : List Loc) (ls : Array Slot), MR M → qX6_nearestTo_J54 k0 p1 R  Q v2 v3 v4 v5 M → wS D A s.heap (WX τ ad M) H locs → lv_has ls 7 [(0, .ref (ad k0)), (1, .int (iI p1)), (2, .int (iI v2)), (3, .int (iI v3)), (4, .int (iI v4)), (5, .int (iI v5))] → W p l e (rmk 1 0 0) s m args below meth c H locs 0 0 (MQ below (gQi D (EQi (WX τ ad) MR Q) A) args s 0 0 A) (F0 m 54 ls []) := by
    intro R hR  v2 v3 v4 v5 M H locs ls hM hv hw hl
    unfold qX6_nearestTo_J54 at hv
    refine r_iconst hx hb dX6_nearestTo_54 ?_
    refine lv_goto (tgt := 59) hx hb dX6_nearestTo_55 (by decide) ?_
    exact J59 _ hR  v2 v3 v4 v5 1 M _ _ _ hM hv hw (lv_sub hl [0, 1, 2, 3, 4, 5] rfl)
  have J58 : ∀ (R : Int → Int → Int → Mem → Prop), (∀ (v2 : Int) (v3 : Int) (v4 : Int) (M : Mem) (H : Heap) (locs : List Loc) (ls : Array Slot), MR M → R v2 v3 v4 M → wS D A s.heap (WX τ ad M) H locs → lv_has ls 7 [(0, .ref (ad k0)), (1, .int (iI p1)), (2, .int (iI v2)), (3, .int (iI v3)), (4, .int (iI v4))] → W p l e (rmk 1 0 0) s m args below meth c H locs 0 0 (MQ below (gQi D (EQi (WX τ ad) MR Q) A) args s 0 0 A) (F0 m 8 ls [])) → ∀ (v2 : Int) (v3 : Int) (v4 : Int) (v5 : Int) (M : Mem) (H : Heap) (locs : List Loc) (ls : Array Slot), MR M → qX6_nearestTo_J58 k0 p1 R  Q v2 v3 v4 v5 M → wS D A s.heap (WX τ ad M) H locs → lv_has ls 7 [(0, .ref (ad k0)), (1, .int (iI p1)), (2, .int (iI v2)), (3, .int (iI v3)), (4, .int (iI v4)), (5, .int (iI v5))] → W p l e (rmk 1 0 0) s m args below meth c H locs 0 0 (MQ below (gQi D (EQi (WX τ ad) MR Q) A) args s 0 0 A) (F0 m 58 ls []) := by
    intro R hR  v2 v3 v4 v5 M H locs ls hM hv hw hl
    unfold qX6_nearestTo_J58 at hv
    refine r_iconst hx hb dX6_nearestTo_58 ?_
    exact J59 _ hR  v2 v3 v4 v5 0 M _ _ _ hM hv hw (lv_sub hl [0, 1, 2, 3, 4, 5] rfl)
  have L8 : ∀ (n : Nat) (v2 : Int) (v3 : Int) (v4 : Int) (M : Mem) (H : Heap) (locs : List Loc) (ls : Array Slot), MR M → qX6_nearestTo_L8 k0 p1  Q n v2 v3 v4 M → wS D A s.heap (WX τ ad M) H locs → lv_has ls 7 [(0, .ref (ad k0)), (1, .int (iI p1)), (2, .int (iI v2)), (3, .int (iI v3)), (4, .int (iI v4))] → W p l e (rmk 1 0 0) s m args below meth c H locs 0 0 (MQ below (gQi D (EQi (WX τ ad) MR Q) A) args s 0 0 A) (F0 m 8 ls []) := by
    intro n
    induction n with
    | zero => intro v2 v3 v4 M H locs ls hM hv; rw [qX6_nearestTo_L8] at hv; exact hv.elim
    | succ n ih =>
      intro v2 v3 v4 M H locs ls hM hv hw hl
      rw [qX6_nearestTo_L8] at hv
      refine lv_iload hx hb dX6_nearestTo_8 (lv_at hl 4 rfl) ?_
      refine lv_aload_n hx hb dX6_nearestTo_10 rfl (lv_at hl 0 rfl) ?_
      refine gf_X6_30 hx hb hC hw k0 (gS_X hk0 τ ad M) rfl dX6_nearestTo_11 ?_
      refine r_top (fun x1 e1 => ?_)
      have g1 : iR x1 := by rw [e1]; exact hM.get hk0.pos _
      have hv := hv x1 e1 g1
      obtain ⟨c2, hv⟩ := hv
      refine r_icmp_ge (tgt := 88) hx hb dX6_nearestTo_14 (by decide) c2 g1 (fun b3 => ?_) (fun b3 => ?_)
      · have hv := hv.1 b3
        refine lv_iload_n hx hb dX6_nearestTo_88 rfl (lv_at hl 2 rfl) ?_
        obtain ⟨c4, hv⟩ := hv
        exact k_iret (wq_X τ ad) hx hb hr hlk hw hM c4 hv dX6_nearestTo_89
      · have hv := hv.2 b3
        refine lv_aload_n hx hb dX6_nearestTo_17 rfl (lv_at hl 0 rfl) ?_
        refine gf_X6_9 hx hb hC hw k0 (gS_X hk0 τ ad M) rfl dX6_nearestTo_18 ?_
        refine lv_iload hx hb dX6_nearestTo_21 (lv_at hl 4 rfl) ?_
        obtain ⟨c5, hv⟩ := hv
        obtain ⟨c6, hv⟩ := hv
        refine r_iald hx hb hC hw (k0 + 1) (gI_X (isS_f0 hk0) τ ad M) c5 c6 (by decide) dX6_nearestTo_23 ?_
        refine r_top (fun x7 e7 => ?_)
        have g7 : iR x7 := by rw [e7]; exact hM.get (isS_f0 hk0).pos _
        have hv := hv x7 e7 g7
        refine lv_iload_n hx hb dX6_nearestTo_24 rfl (lv_at hl 1 rfl) ?_
        refine r_isub (z := (x7 - p1)) hx hb dX6_nearestTo_25 rfl ?_
        obtain ⟨c8, hv⟩ := hv
        refine r_mabs hx hb hml hC hl.1 ml_X6_75 sm_abs in_J9 cd_abs (by decide) (Nat.le_of_ble_eq_true rfl) (Nat.zero_le _) (Nat.zero_le _) c8 dX6_nearestTo_26 (fun x9 e9 g9 => ?_)
        have hv := hv x9 e9 g9
        refine lv_istore (lv' := [(5, .int (iI x9)), (0, .ref (ad k0)), (1, .int (iI p1)), (2, .int (iI v2)), (3, .int (iI v3)), (4, .int (iI v4))]) hx hb dX6_nearestTo_29 hl (by decide) rfl (fun ls hl => ?_)
        refine lv_iload hx hb dX6_nearestTo_31 (lv_at hl 0 rfl) ?_
        refine lv_iload_n hx hb dX6_nearestTo_33 rfl (lv_at hl 4 rfl) ?_
        obtain ⟨c10, hv⟩ := hv
        obtain ⟨c11, hv⟩ := hv
        refine r_icmp_lt (tgt := 54) hx hb dX6_nearestTo_34 (by decide) c10 c11 (fun b12 => ?_) (fun b12 => ?_)
        · have hv := hv.1 b12
          exact J54 _ ih  v2 v3 v4 x9 M _ _ _ hM hv hw (lv_sub hl [1, 2, 3, 4, 5, 0] rfl)
        · have hv := hv.2 b12
          refine lv_iload hx hb dX6_nearestTo_37 (lv_at hl 0 rfl) ?_
          refine lv_iload_n hx hb dX6_nearestTo_39 rfl (lv_at hl 4 rfl) ?_
          refine r_icmp_ne (tgt := 58) hx hb dX6_nearestTo_40 (by decide) c10 c11 (fun b19 => ?_) (fun b19 => ?_)
          · have hv := hv.1 b19
            exact J58 _ ih  v2 v3 v4 x9 M _ _ _ hM hv hw (lv_sub hl [1, 2, 3, 4, 5, 0] rfl)
          · have hv := hv.2 b19
            refine lv_aload_n hx hb dX6_nearestTo_43 rfl (lv_at hl 1 rfl) ?_
            refine gf_X6_9 hx hb hC hw k0 (gS_X hk0 τ ad M) rfl dX6_nearestTo_44 ?_
            refine lv_iload hx hb dX6_nearestTo_47 (lv_at hl 5 rfl) ?_
            refine r_iald hx hb hC hw (k0 + 1) (gI_X (isS_f0 hk0) τ ad M) c5 c6 (by decide) dX6_nearestTo_49 ?_
            refine r_top (fun x20 e20 => ?_)
            have g20 : iR x20 := by rw [e20]; exact hM.get (isS_f0 hk0).pos _
            have hv := hv x20 e20 g20
            refine lv_iload_n hx hb dX6_nearestTo_50 rfl (lv_at hl 2 rfl) ?_
            refine r_icmp_le (tgt := 58) hx hb dX6_nearestTo_51 (by decide) g20 hp1 (fun b21 => ?_) (fun b21 => ?_)
            · have hv := hv.1 b21
              exact J58 _ ih  v2 v3 v4 x9 M _ _ _ hM hv hw (lv_sub hl [1, 2, 3, 4, 5, 0] rfl)
            · have hv := hv.2 b21
              exact J54 _ ih  v2 v3 v4 x9 M _ _ _ hM hv hw (lv_sub hl [1, 2, 3, 4, 5, 0] rfl)
  refine r_iconst hx hb dX6_nearestTo_0 ?_
  refine lv_istore_n (lv' := [(2, .int (iI (-1))), (0, .ref (ad k0)), (1, .int (iI p1))]) hx hb dX6_nearestTo_1 rfl hl (by decide) rfl (fun ls hl => ?_)
  refine r_bipush hx hb dX6_nearestTo_2 (by decide +kernel) ?_
  refine lv_istore_n (lv' := [(3, .int (iI 30)), (2, .int (iI (-1))), (0, .ref (ad k0)), (1, .int (iI p1))]) hx hb dX6_nearestTo_4 rfl hl (by decide) rfl (fun ls hl => ?_)
  refine r_iconst hx hb dX6_nearestTo_5 ?_
  refine lv_istore (lv' := [(4, .int (iI 0)), (3, .int (iI 30)), (2, .int (iI (-1))), (0, .ref (ad k0)), (1, .int (iI p1))]) hx hb dX6_nearestTo_6 hl (by decide) rfl (fun ls hl => ?_)
  obtain ⟨n22, hv⟩ := hv
  refine L8  n22 (-1) 30 0 M _ _ _ hM hv hw (lv_sub hl [3, 4, 2, 1, 0] rfl)
set_option maxHeartbeats 4000000 in
set_option maxRecDepth 100000 in
theorem mX10_moveMourner (l : Launch) (D : va_G) (τ : Nat → ClassId) (ad : Nat → Nat) (sA sV : Nat → Nat) (sz : Nat) (k1 : Nat) (p2 : Int) (hk1 : isS k1) (hp2 : iR p2) (M : Mem) (hM : MR M) (Q : Mem → Prop) (hv : qX10_moveMourner k1 p2 M Q) : Met l yX10_moveMourner (lw_w yX10_moveMourner cX10_moveMourner 7 none) (rmk 2 0 0) (kPc D τ sA sV (WX τ ad M) sz [.ref (ad 160), .ref (ad k1), .int (iI p2)]) (gQv D (EQv (WX τ ad) MR Q) (va_A (WX τ ad M) sz)) 0 0 (va_A (WX τ ad M) sz) := by
  refine k_met (ret := none) (Qc := gQv D (EQv (WX τ ad) MR Q)) (by decide +kernel) (Nat.le_of_ble_eq_true rfl) ?_
  intro p e s m args below meth c A ls hx hb hml hr hlk hnm hC hLS hA hw hl
  have hC : cx D τ s m args RX10 := hC
  have hl : lv_has ls 7 [(0, .ref (ad 160)), (1, .ref (ad k1)), (2, .int (iI p2))] := hl
  unfold qX10_moveMourner at hv
  have J177 : ∀ (t0 : Int) (M : Mem) (H : Heap) (locs : List Loc) (ls : Array Slot), MR M → qX10_moveMourner_J177 k1 p2 Q t0 M → wS D A s.heap (WX τ ad M) H locs → lv_has ls 7 [] → W p l e (rmk 2 0 0) s m args below meth c H locs 0 0 (MQ below (gQv D (EQv (WX τ ad) MR Q) A) args s 0 0 A) (F0 m 177 ls [.int (iI t0), .ref (ad 160)]) := by
    intro t0 M H locs ls hM hv hw hl
    unfold qX10_moveMourner_J177 at hv
    obtain ⟨c35, hv⟩ := hv
    obtain ⟨c36, hv⟩ := hv
    obtain ⟨M37, e37⟩ : ∃ M37 : Mem, M37 = up2 M 160 5 t0 := ⟨_, rfl⟩
    have hv := hv M37 e37
    refine pf_X10_25 (ws' := (WX τ ad M37)) hx hb hC hw 160 c36 (gX_160 τ ad M) (Nat.le_of_ble_eq_true rfl) (by rw [e37]; exact sX_160_5 τ ad M _) dX10_moveMourner_177 (fun H locs hw => ?_)
    have hM : MR M37 := by rw [e37]; exact hM.put (by decide) c35
    exact k_vret (wq_X τ ad) hx hb hr hlk hw hM hv dX10_moveMourner_180
  have J172 : ∀  (M : Mem) (H : Heap) (locs : List Loc) (ls : Array Slot), MR M → qX10_moveMourner_J172 k1 p2 Q  M → wS D A s.heap (WX τ ad M) H locs → lv_has ls 7 [] → W p l e (rmk 2 0 0) s m args below meth c H locs 0 0 (MQ below (gQv D (EQv (WX τ ad) MR Q) A) args s 0 0 A) (F0 m 172 ls [.ref (ad 160)]) := by
    intro  M H locs ls hM hv hw hl
    unfold qX10_moveMourner_J172 at hv
    refine r_iconst hx hb dX10_moveMourner_172 ?_
    refine lv_goto (tgt := 177) hx hb dX10_moveMourner_173 (by decide) ?_
    exact J177 1 M _ _ _ hM hv hw (lv_sub hl [] rfl)
  have J139 : ∀ (v4 : Int) (v6 : Int) (M : Mem) (H : Heap) (locs : List Loc) (ls : Array Slot), MR M → qX10_moveMourner_J139 k1 p2 Q v4 v6 M → wS D A s.heap (WX τ ad M) H locs → lv_has ls 7 [(0, .ref (ad 160)), (1, .ref (ad k1)), (2, .int (iI p2)), (4, .int (iI v4)), (6, .int (iI v6))] → W p l e (rmk 2 0 0) s m args below meth c H locs 0 0 (MQ below (gQv D (EQv (WX τ ad) MR Q) A) args s 0 0 A) (F0 m 139 ls []) := by
    intro v4 v6 M H locs ls hM hv hw hl
    unfold qX10_moveMourner_J139 at hv
    refine lv_aload_n hx hb dX10_moveMourner_139 rfl (lv_at hl 1 rfl) ?_
    refine gf_X10_128 hx hb hC hw k1 (gS_X hk1 τ ad M) rfl dX10_moveMourner_140 ?_
    refine lv_iload_n hx hb dX10_moveMourner_143 rfl (lv_at hl 2 rfl) ?_
    refine lv_iload hx hb dX10_moveMourner_144 (lv_at hl 3 rfl) ?_
    refine r_bipush hx hb dX10_moveMourner_146 (by decide +kernel) ?_
    refine lv_iload hx hb dX10_moveMourner_148 (lv_at hl 4 rfl) ?_
    refine r_iconst hx hb dX10_moveMourner_150 ?_
    obtain ⟨c26, hv⟩ := hv
    refine r_mminF hx hb hml hC hl.1 ml_X10_109 sm_min in_J9 cd_min (by decide) (Nat.le_of_ble_eq_true rfl) (Nat.zero_le _) (Nat.zero_le _) c26 (by decide) dX10_moveMourner_151 (fun x27 e27 g27 => ?_)
    have hv := hv x27 e27 g27
    refine r_mmaxF hx hb hml hC hl.1 ml_X10_137 sm_max in_J9 cd_max (by decide) (Nat.le_of_ble_eq_true rfl) (Nat.zero_le _) (Nat.zero_le _) (by decide) g27 dX10_moveMourner_154 (fun x28 e28 g28 => ?_)
    have hv := hv x28 e28 g28
    refine r_iadd (z := (v4 + x28)) hx hb dX10_moveMourner_157 rfl ?_
    obtain ⟨c29, hv⟩ := hv
    obtain ⟨c30, hv⟩ := hv
    obtain ⟨c31, hv⟩ := hv
    obtain ⟨M32, e32⟩ : ∃ M32 : Mem, M32 = up2 M (k1 + 3) p2 (v4 + x28) := ⟨_, rfl⟩
    have hv := hv M32 e32
    refine r_iast (ws' := (WX τ ad M32)) hx hb hC hw (k1 + 3) (gI_X (isS_f2 hk1) τ ad M) c29 c30 (by decide) (by rw [e32]; exact sI_X (isS_f2 hk1) τ ad M _ _) dX10_moveMourner_158 (fun H locs hw => ?_)
    have hM : MR M32 := by rw [e32]; exact hM.put (isS_f2 hk1).pos c31
    refine lv_aload_n hx hb dX10_moveMourner_159 rfl (lv_at hl 0 rfl) ?_
    refine lv_aload_n hx hb dX10_moveMourner_160 rfl (lv_at hl 0 rfl) ?_
    refine gf_X10_25 hx hb hC hw 160 (gX_160 τ ad M32) rfl dX10_moveMourner_161 ?_
    refine r_top (fun x33 e33 => ?_)
    have g33 : iR x33 := by rw [e33]; exact hM.get (by decide) _
    have hv := hv x33 e33 g33
    refine r_if_ne (tgt := 172) hx hb dX10_moveMourner_164 (by decide) g33  (fun b34 => ?_) (fun b34 => ?_)
    · have hv := hv.1 b34
      exact J172  M32 _ _ _ hM hv hw (lv_sub hl [] rfl)
    · have hv := hv.2 b34
      refine lv_iload hx hb dX10_moveMourner_167 (lv_at hl 4 rfl) ?_
      refine r_if_eq (tgt := 176) hx hb dX10_moveMourner_169 (by decide) c26  (fun b38 => ?_) (fun b38 => ?_)
      · have hv := hv.1 b38
        refine r_iconst hx hb dX10_moveMourner_176 ?_
        exact J177 0 M32 _ _ _ hM hv hw (lv_sub hl [] rfl)
      · have hv := hv.2 b38
        exact J172  M32 _ _ _ hM hv hw (lv_sub hl [] rfl)
  have J92 : ∀ (v4 : Int) (v5 : Int) (v6 : Int) (M : Mem) (H : Heap) (locs : List Loc) (ls : Array Slot), MR M → qX10_moveMourner_J92 k1 p2 Q v4 v5 v6 M → wS D A s.heap (WX τ ad M) H locs → lv_has ls 7 [(0, .ref (ad 160)), (1, .ref (ad k1)), (2, .int (iI p2)), (4, .int (iI v4)), (5, .int (iI v5)), (6, .int (iI v6))] → W p l e (rmk 2 0 0) s m args below meth c H locs 0 0 (MQ below (gQv D (EQv (WX τ ad) MR Q) A) args s 0 0 A) (F0 m 92 ls []) := by
    intro v4 v5 v6 M H locs ls hM hv hw hl
    unfold qX10_moveMourner_J92 at hv
    refine lv_aload_n hx hb dX10_moveMourner_92 rfl (lv_at hl 1 rfl) ?_
    refine gf_X10_118 hx hb hC hw k1 (gS_X hk1 τ ad M) rfl dX10_moveMourner_93 ?_
    refine lv_iload_n hx hb dX10_moveMourner_96 rfl (lv_at hl 2 rfl) ?_
    refine lv_iload hx hb dX10_moveMourner_97 (lv_at hl 4 rfl) ?_
    obtain ⟨c15, hv⟩ := hv
    obtain ⟨c16, hv⟩ := hv
    obtain ⟨c17, hv⟩ := hv
    obtain ⟨M18, e18⟩ : ∃ M18 : Mem, M18 = up2 M (k1 + 5) p2 v5 := ⟨_, rfl⟩
    have hv := hv M18 e18
    refine r_iast (ws' := (WX τ ad M18)) hx hb hC hw (k1 + 5) (gI_X (isS_f4 hk1) τ ad M) c15 c16 (by decide) (by rw [e18]; exact sI_X (isS_f4 hk1) τ ad M _ _) dX10_moveMourner_99 (fun H locs hw => ?_)
    have hM : MR M18 := by rw [e18]; exact hM.put (isS_f4 hk1).pos c17
    refine lv_aload_n hx hb dX10_moveMourner_100 rfl (lv_at hl 0 rfl) ?_
    refine lv_dup hx hb dX10_moveMourner_101 rfl ?_
    refine gf_X10_22 hx hb hC hw 160 (gX_160 τ ad M18) rfl dX10_moveMourner_102 ?_
    refine r_top (fun x19 e19 => ?_)
    have g19 : iR x19 := by rw [e19]; exact hM.get (by decide) _
    have hv := hv x19 e19 g19
    refine r_iconst hx hb dX10_moveMourner_105 ?_
    refine r_iaddW hx hb dX10_moveMourner_106 (fun x20 e20 g20 => ?_)
    have hv := hv x20 e20 g20
    obtain ⟨M21, e21⟩ : ∃ M21 : Mem, M21 = up2 M18 160 4 x20 := ⟨_, rfl⟩
    have hv := hv M21 e21
    refine pf_X10_22 (ws' := (WX τ ad M21)) hx hb hC hw 160 (gX_160 τ ad M18) (Nat.le_of_ble_eq_true rfl) (by rw [e21]; exact sX_160_4 τ ad M18 _) dX10_moveMourner_107 (fun H locs hw => ?_)
    have hM : MR M21 := by rw [e21]; exact hM.put (by decide) g20
    refine lv_aload_n hx hb dX10_moveMourner_110 rfl (lv_at hl 0 rfl) ?_
    refine gf_X10_15 hx hb hC hw 160 (gX_160 τ ad M21) rfl dX10_moveMourner_111 ?_
    refine lv_iload_n hx hb dX10_moveMourner_114 rfl (lv_at hl 2 rfl) ?_
    refine lv_dup2_11 hx hb dX10_moveMourner_115 rfl rfl ?_
    refine r_iald hx hb hC hw 162 (gI_X aX_162 τ ad M21) c15 c16 (by decide) dX10_moveMourner_116 ?_
    refine r_top (fun x22 e22 => ?_)
    have g22 : iR x22 := by rw [e22]; exact hM.get aX_162.pos _
    have hv := hv x22 e22 g22
    refine r_iconst hx hb dX10_moveMourner_117 ?_
    refine r_iaddW hx hb dX10_moveMourner_118 (fun x23 e23 g23 => ?_)
    have hv := hv x23 e23 g23
    obtain ⟨M24, e24⟩ : ∃ M24 : Mem, M24 = up2 M21 162 p2 x23 := ⟨_, rfl⟩
    have hv := hv M24 e24
    refine r_iast (ws' := (WX τ ad M24)) hx hb hC hw 162 (gI_X aX_162 τ ad M21) c15 c16 (by decide) (by rw [e24]; exact sI_X aX_162 τ ad M21 _ _) dX10_moveMourner_119 (fun H locs hw => ?_)
    have hM : MR M24 := by rw [e24]; exact hM.put aX_162.pos g23
    refine lv_aload_n hx hb dX10_moveMourner_120 rfl (lv_at hl 0 rfl) ?_
    refine r_iconst hx hb dX10_moveMourner_121 ?_
    obtain ⟨M25, e25⟩ : ∃ M25 : Mem, M25 = up2 M24 160 5 1 := ⟨_, rfl⟩
    have hv := hv M25 e25
    refine pf_X10_25 (ws' := (WX τ ad M25)) hx hb hC hw 160 (by decide) (gX_160 τ ad M24) (Nat.le_of_ble_eq_true rfl) (by rw [e25]; exact sX_160_5 τ ad M24 _) dX10_moveMourner_122 (fun H locs hw => ?_)
    have hM : MR M25 := by rw [e25]; exact hM.put (by decide) (by decide)
    refine lv_goto (tgt := 139) hx hb dX10_moveMourner_125 (by decide) ?_
    exact J139 v4 v6 M25 _ _ _ hM hv hw (lv_sub hl [0, 1, 2, 3, 5] rfl)
  have J32 : ∀ (v3 : Int) (M : Mem) (H : Heap) (locs : List Loc) (ls : Array Slot), MR M → qX10_moveMourner_J32 k1 p2 Q v3 M → wS D A s.heap (WX τ ad M) H locs → lv_has ls 7 [(0, .ref (ad 160)), (1, .ref (ad k1)), (2, .int (iI p2)), (3, .int (iI v3))] → W p l e (rmk 2 0 0) s m args below meth c H locs 0 0 (MQ below (gQv D (EQv (WX τ ad) MR Q) A) args s 0 0 A) (F0 m 32 ls []) := by
    intro v3 M H locs ls hM hv hw hl
    unfold qX10_moveMourner_J32 at hv
    refine lv_aload_n hx hb dX10_moveMourner_32 rfl (lv_at hl 1 rfl) ?_
    refine gf_X10_128 hx hb hC hw k1 (gS_X hk1 τ ad M) rfl dX10_moveMourner_33 ?_
    refine lv_iload_n hx hb dX10_moveMourner_36 rfl (lv_at hl 2 rfl) ?_
    obtain ⟨c5, hv⟩ := hv
    obtain ⟨c6, hv⟩ := hv
    refine r_iald hx hb hC hw (k1 + 3) (gI_X (isS_f2 hk1) τ ad M) c5 c6 (by decide) dX10_moveMourner_37 ?_
    refine r_top (fun x7 e7 => ?_)
    have g7 : iR x7 := by rw [e7]; exact hM.get (isS_f2 hk1).pos _
    have hv := hv x7 e7 g7
    refine lv_istore (lv' := [(4, .int (iI x7)), (0, .ref (ad 160)), (1, .ref (ad k1)), (2, .int (iI p2)), (3, .int (iI v3))]) hx hb dX10_moveMourner_38 hl (by decide) rfl (fun ls hl => ?_)
    refine lv_aload_n hx hb dX10_moveMourner_40 rfl (lv_at hl 2 rfl) ?_
    refine lv_iload hx hb dX10_moveMourner_41 (lv_at hl 0 rfl) ?_
    refine k_cVi (wq_X τ ad) hx hb hml hC hLS hA hw hl.1 (mX6_nearestTo l D τ ad sA sV _ k1 x7 hk1 g7 M hM _ hv) kX6_nearestTo ml_X10_131 rfl (gS_X hk1 τ ad M) rfl rfl (Nat.le_of_ble_eq_true rfl) (rm_ok (by decide) (by decide)) ⟨Nat.zero_le _, Nat.zero_le _⟩ dX10_moveMourner_43 (fun x8 M8 H locs g8 hM hv hw => ?_)
    have hv := hv g8
    refine lv_istore (lv' := [(5, .int (iI x8)), (4, .int (iI x7)), (0, .ref (ad 160)), (1, .ref (ad k1)), (2, .int (iI p2)), (3, .int (iI v3))]) hx hb dX10_moveMourner_46 hl (by decide) rfl (fun ls hl => ?_)
    refine lv_iload hx hb dX10_moveMourner_48 (lv_at hl 0 rfl) ?_
    refine r_iconst hx hb dX10_moveMourner_50 ?_
    refine r_icmp_ne (tgt := 55) hx hb dX10_moveMourner_51 (by decide) g8 (by decide) (fun b9 => ?_) (fun b9 => ?_)
    · have hv := hv.1 b9
      refine lv_aload_n hx hb dX10_moveMourner_55 rfl (lv_at hl 3 rfl) ?_
      refine gf_X10_69 hx hb hC hw k1 (gS_X hk1 τ ad M8) rfl dX10_moveMourner_56 ?_
      refine lv_iload hx hb dX10_moveMourner_59 (lv_at hl 0 rfl) ?_
      obtain ⟨c10, hv⟩ := hv
      obtain ⟨c11, hv⟩ := hv
      refine r_iald hx hb hC hw (k1 + 1) (gI_X (isS_f0 hk1) τ ad M8) c10 c11 (by decide) dX10_moveMourner_61 ?_
      refine r_top (fun x12 e12 => ?_)
      have g12 : iR x12 := by rw [e12]; exact hM.get (isS_f0 hk1).pos _
      have hv := hv x12 e12 g12
      refine lv_iload hx hb dX10_moveMourner_62 (lv_at hl 1 rfl) ?_
      refine r_isub (z := (x12 - x7)) hx hb dX10_moveMourner_64 rfl ?_
      refine lv_istore (lv' := [(6, .int (iI (x12 - x7))), (5, .int (iI x8)), (4, .int (iI x7)), (0, .ref (ad 160)), (1, .ref (ad k1)), (2, .int (iI p2)), (3, .int (iI v3))]) hx hb dX10_moveMourner_65 hl (by decide) rfl (fun ls hl => ?_)
      refine lv_iload_n hx hb dX10_moveMourner_67 rfl (lv_at hl 6 rfl) ?_
      refine r_iconst hx hb dX10_moveMourner_68 ?_
      obtain ⟨c13, hv⟩ := hv
      refine r_icmp_eq (tgt := 92) hx hb dX10_moveMourner_69 (by decide) c13 (by decide) (fun b14 => ?_) (fun b14 => ?_)
      · have hv := hv.1 b14
        exact J92 x7 x8 (x12 - x7) M8 _ _ _ hM hv hw (lv_sub hl [3, 4, 5, 2, 1, 0] rfl)
      · have hv := hv.2 b14
        refine lv_iload hx hb dX10_moveMourner_72 (lv_at hl 0 rfl) ?_
        obtain ⟨c39, hv⟩ := hv
        refine r_mabs hx hb hml hC hl.1 ml_X10_134 sm_abs in_J9 cd_abs (by decide) (Nat.le_of_ble_eq_true rfl) (Nat.zero_le _) (Nat.zero_le _) c39 dX10_moveMourner_74 (fun x40 e40 g40 => ?_)
        have hv := hv x40 e40 g40
        refine lv_aload_n hx hb dX10_moveMourner_77 rfl (lv_at hl 4 rfl) ?_
        refine gf_X10_69 hx hb hC hw k1 (gS_X hk1 τ ad M8) rfl dX10_moveMourner_78 ?_
        refine lv_iload_n hx hb dX10_moveMourner_81 rfl (lv_at hl 6 rfl) ?_
        obtain ⟨c41, hv⟩ := hv
        obtain ⟨c42, hv⟩ := hv
        refine r_iald hx hb hC hw (k1 + 1) (gI_X (isS_f0 hk1) τ ad M8) c41 c42 (by decide) dX10_moveMourner_82 ?_
        refine r_top (fun x43 e43 => ?_)
        have g43 : iR x43 := by rw [e43]; exact hM.get (isS_f0 hk1).pos _
        have hv := hv x43 e43 g43
        refine lv_iload hx hb dX10_moveMourner_83 (lv_at hl 2 rfl) ?_
        refine r_isub (z := (x43 - x7)) hx hb dX10_moveMourner_85 rfl ?_
        obtain ⟨c44, hv⟩ := hv
        refine r_mabs hx hb hml hC hl.1 ml_X10_134 sm_abs in_J9 cd_abs (by decide) (Nat.le_of_ble_eq_true rfl) (Nat.zero_le _) (Nat.zero_le _) c44 dX10_moveMourner_86 (fun x45 e45 g45 => ?_)
        have hv := hv x45 e45 g45
        obtain ⟨c46, hv⟩ := hv
        obtain ⟨c47, hv⟩ := hv
        refine r_icmp_ge (tgt := 128) hx hb dX10_moveMourner_89 (by decide) c46 c47 (fun b48 => ?_) (fun b48 => ?_)
        · have hv := hv.1 b48
          refine lv_aload_n hx hb dX10_moveMourner_128 rfl (lv_at hl 4 rfl) ?_
          refine gf_X10_69 hx hb hC hw k1 (gS_X hk1 τ ad M8) rfl dX10_moveMourner_129 ?_
          refine lv_iload_n hx hb dX10_moveMourner_132 rfl (lv_at hl 6 rfl) ?_
          refine r_iald hx hb hC hw (k1 + 1) (gI_X (isS_f0 hk1) τ ad M8) c41 c42 (by decide) dX10_moveMourner_133 ?_
          refine r_top (fun x49 e49 => ?_)
          have g49 : iR x49 := by rw [e49]; exact hM.get (isS_f0 hk1).pos _
          have hv := hv x49 e49 g49
          refine lv_iload hx hb dX10_moveMourner_134 (lv_at hl 2 rfl) ?_
          refine r_isub (z := (x49 - x7)) hx hb dX10_moveMourner_136 rfl ?_
          refine lv_istore (lv' := [(6, .int (iI (x49 - x7))), (5, .int (iI x8)), (4, .int (iI x7)), (0, .ref (ad 160)), (1, .ref (ad k1)), (2, .int (iI p2)), (3, .int (iI v3))]) hx hb dX10_moveMourner_137 hl (by decide) rfl (fun ls hl => ?_)
          exact J139 x7 (x49 - x7) M8 _ _ _ hM hv hw (lv_sub hl [3, 4, 5, 2, 0] rfl)
        · have hv := hv.2 b48
          exact J92 x7 x8 (x12 - x7) M8 _ _ _ hM hv hw (lv_sub hl [3, 4, 5, 2, 1, 0] rfl)
    · have hv := hv.2 b9
      exact k_vret (wq_X τ ad) hx hb hr hlk hw hM hv dX10_moveMourner_54
  refine lv_aload_n hx hb dX10_moveMourner_0 rfl (lv_at hl 1 rfl) ?_
  refine gf_X10_118 hx hb hC hw k1 (gS_X hk1 τ ad M) rfl dX10_moveMourner_1 ?_
  refine lv_iload_n hx hb dX10_moveMourner_4 rfl (lv_at hl 2 rfl) ?_
  obtain ⟨c1, hv⟩ := hv
  obtain ⟨c2, hv⟩ := hv
  refine r_iald hx hb hC hw (k1 + 5) (gI_X (isS_f4 hk1) τ ad M) c1 c2 (by decide) dX10_moveMourner_5 ?_
  refine r_top (fun x3 e3 => ?_)
  have g3 : iR x3 := by rw [e3]; exact hM.get (isS_f4 hk1).pos _
  have hv := hv x3 e3 g3
  refine lv_istore_n (lv' := [(3, .int (iI x3)), (0, .ref (ad 160)), (1, .ref (ad k1)), (2, .int (iI p2))]) hx hb dX10_moveMourner_6 rfl hl (by decide) rfl (fun ls hl => ?_)
  refine lv_iload_n hx hb dX10_moveMourner_7 rfl (lv_at hl 0 rfl) ?_
  refine r_iconst hx hb dX10_moveMourner_8 ?_
  refine r_icmp_eq (tgt := 32) hx hb dX10_moveMourner_9 (by decide) g3 (by decide) (fun b4 => ?_) (fun b4 => ?_)
  · have hv := hv.1 b4
    exact J32 x3 M _ _ _ hM hv hw (lv_sub hl [1, 2, 3, 0] rfl)
  · have hv := hv.2 b4
    refine lv_aload_n hx hb dX10_moveMourner_12 rfl (lv_at hl 2 rfl) ?_
    refine lv_iload_n hx hb dX10_moveMourner_13 rfl (lv_at hl 0 rfl) ?_
    refine k_cVz (wq_X τ ad) hx hb hml hC hLS hA hw hl.1 (mX6_hasArrived l D τ ad sA sV _ k1 x3 hk1 g3 M hM _ hv) kX6_hasArrived ml_X10_121 rfl (gS_X hk1 τ ad M) rfl rfl (Nat.le_of_ble_eq_true rfl) (rm_ok (by decide) (by decide)) ⟨Nat.zero_le _, Nat.zero_le _⟩ dX10_moveMourner_14 (fun x50 M50 H locs g50 z50 hM hv hw => ?_)
    have hv := hv g50 z50
    refine r_if_eq (tgt := 32) hx hb dX10_moveMourner_17 (by decide) g50  (fun b51 => ?_) (fun b51 => ?_)
    · have hv := hv.1 b51
      exact J32 x3 M50 _ _ _ hM hv hw (lv_sub hl [1, 2, 3, 0] rfl)
    · have hv := hv.2 b51
      refine lv_aload_n hx hb dX10_moveMourner_20 rfl (lv_at hl 2 rfl) ?_
      refine lv_iload_n hx hb dX10_moveMourner_21 rfl (lv_at hl 3 rfl) ?_
      refine lv_iload_n hx hb dX10_moveMourner_22 rfl (lv_at hl 0 rfl) ?_
      refine k_cVv (wq_X τ ad) hx hb hml hC hLS hA hw hl.1 (mX6_endAt l D τ ad sA sV _ k1 p2 x3 hk1 hp2 g3 M50 hM _ hv) kX6_endAt ml_X10_124 rfl (gS_X hk1 τ ad M50) rfl rfl (Nat.le_of_ble_eq_true rfl) (rm_ok (by decide) (by decide)) ⟨Nat.zero_le _, Nat.zero_le _⟩ dX10_moveMourner_23 (fun M52 H locs hM hv hw => ?_)
      refine lv_aload_n hx hb dX10_moveMourner_26 rfl (lv_at hl 1 rfl) ?_
      refine r_iconst hx hb dX10_moveMourner_27 ?_
      obtain ⟨M53, e53⟩ : ∃ M53 : Mem, M53 = up2 M52 160 5 1 := ⟨_, rfl⟩
      have hv := hv M53 e53
      refine pf_X10_25 (ws' := (WX τ ad M53)) hx hb hC hw 160 (by decide) (gX_160 τ ad M52) (Nat.le_of_ble_eq_true rfl) (by rw [e53]; exact sX_160_5 τ ad M52 _) dX10_moveMourner_28 (fun H locs hw => ?_)
      have hM : MR M53 := by rw [e53]; exact hM.put (by decide) (by decide)
      exact k_vret (wq_X τ ad) hx hb hr hlk hw hM hv dX10_moveMourner_31
set_option maxHeartbeats 4000000 in
set_option maxRecDepth 100000 in
theorem mX6_foremostBelow (l : Launch) (D : va_G) (τ : Nat → ClassId) (ad : Nat → Nat) (sA sV : Nat → Nat) (sz : Nat) (k0 : Nat) (p1 : Int) (hk0 : isS k0) (hp1 : iR p1) (M : Mem) (hM : MR M) (Q : Int → Mem → Prop) (hv : qX6_foremostBelow k0 p1 M Q) : Met l yX6_foremostBelow (lw_w yX6_foremostBelow cX6_foremostBelow 5 (some .int)) (rmk 1 0 0) (kPc D τ sA sV (WX τ ad M) sz [.ref (ad k0), .int (iI p1)]) (gQi D (EQi (WX τ ad) MR Q) (va_A (WX τ ad M) sz)) 0 0 (va_A (WX τ ad M) sz) := by
  refine k_met (ret := (some .int)) (Qc := gQi D (EQi (WX τ ad) MR Q)) (by decide +kernel) (Nat.le_of_ble_eq_true rfl) ?_
  intro p e s m args below meth c A ls hx hb hml hr hlk hnm hC hLS hA hw hl
  have hC : cx D τ s m args RX6 := hC
  have hl : lv_has ls 5 [(0, .ref (ad k0)), (1, .int (iI p1))] := hl
  unfold qX6_foremostBelow at hv
  have L7 : ∀ (n : Nat) (v2 : Int) (v3 : Int) (v4 : Int) (M : Mem) (H : Heap) (locs : List Loc) (ls : Array Slot), MR M → qX6_foremostBelow_L7 k0 p1  Q n v2 v3 v4 M → wS D A s.heap (WX τ ad M) H locs → lv_has ls 5 [(0, .ref (ad k0)), (1, .int (iI p1)), (2, .int (iI v2)), (3, .int (iI v3)), (4, .int (iI v4))] → W p l e (rmk 1 0 0) s m args below meth c H locs 0 0 (MQ below (gQi D (EQi (WX τ ad) MR Q) A) args s 0 0 A) (F0 m 7 ls []) := by
    intro n
    induction n with
    | zero => intro v2 v3 v4 M H locs ls hM hv; rw [qX6_foremostBelow_L7] at hv; exact hv.elim
    | succ n ih =>
      intro v2 v3 v4 M H locs ls hM hv hw hl
      rw [qX6_foremostBelow_L7] at hv
      refine lv_iload hx hb dX6_foremostBelow_7 (lv_at hl 4 rfl) ?_
      refine lv_aload_n hx hb dX6_foremostBelow_9 rfl (lv_at hl 0 rfl) ?_
      refine gf_X6_30 hx hb hC hw k0 (gS_X hk0 τ ad M) rfl dX6_foremostBelow_10 ?_
      refine r_top (fun x1 e1 => ?_)
      have g1 : iR x1 := by rw [e1]; exact hM.get hk0.pos _
      have hv := hv x1 e1 g1
      obtain ⟨c2, hv⟩ := hv
      refine r_icmp_ge (tgt := 55) hx hb dX6_foremostBelow_13 (by decide) c2 g1 (fun b3 => ?_) (fun b3 => ?_)
      · have hv := hv.1 b3
        refine lv_iload_n hx hb dX6_foremostBelow_55 rfl (lv_at hl 2 rfl) ?_
        obtain ⟨c4, hv⟩ := hv
        exact k_iret (wq_X τ ad) hx hb hr hlk hw hM c4 hv dX6_foremostBelow_56
      · have hv := hv.2 b3
        refine lv_aload_n hx hb dX6_foremostBelow_16 rfl (lv_at hl 0 rfl) ?_
        refine gf_X6_9 hx hb hC hw k0 (gS_X hk0 τ ad M) rfl dX6_foremostBelow_17 ?_
        refine lv_iload hx hb dX6_foremostBelow_20 (lv_at hl 4 rfl) ?_
        obtain ⟨c5, hv⟩ := hv
        obtain ⟨c6, hv⟩ := hv
        refine r_iald hx hb hC hw (k0 + 1) (gI_X (isS_f0 hk0) τ ad M) c5 c6 (by decide) dX6_foremostBelow_22 ?_
        refine r_top (fun x7 e7 => ?_)
        have g7 : iR x7 := by rw [e7]; exact hM.get (isS_f0 hk0).pos _
        have hv := hv x7 e7 g7
        refine lv_iload_n hx hb dX6_foremostBelow_23 rfl (lv_at hl 1 rfl) ?_
        refine r_icmp_ge (tgt := 49) hx hb dX6_foremostBelow_24 (by decide) g7 hp1 (fun b8 => ?_) (fun b8 => ?_)
        · have hv := hv.1 b8
          refine r_iinc (v := (v4 + 1)) (lv' := [(4, .int (iI (v4 + 1))), (0, .ref (ad k0)), (1, .int (iI p1)), (2, .int (iI v2)), (3, .int (iI v3))]) hx hb dX6_foremostBelow_49 hl (k := 4) rfl rfl (by decide) rfl (fun ls hl => ?_)
          refine lv_goto (tgt := 7) hx hb dX6_foremostBelow_52 (by decide) ?_
          exact ih v2 v3 (v4 + 1) M _ _ _ hM hv hw (lv_sub hl [1, 2, 3, 4, 0] rfl)
        · have hv := hv.2 b8
          refine lv_aload_n hx hb dX6_foremostBelow_27 rfl (lv_at hl 0 rfl) ?_
          refine gf_X6_9 hx hb hC hw k0 (gS_X hk0 τ ad M) rfl dX6_foremostBelow_28 ?_
          refine lv_iload hx hb dX6_foremostBelow_31 (lv_at hl 4 rfl) ?_
          refine r_iald hx hb hC hw (k0 + 1) (gI_X (isS_f0 hk0) τ ad M) c5 c6 (by decide) dX6_foremostBelow_33 ?_
          refine r_top (fun x9 e9 => ?_)
          have g9 : iR x9 := by rw [e9]; exact hM.get (isS_f0 hk0).pos _
          have hv := hv x9 e9 g9
          refine lv_iload_n hx hb dX6_foremostBelow_34 rfl (lv_at hl 3 rfl) ?_
          obtain ⟨c10, hv⟩ := hv
          refine r_icmp_le (tgt := 49) hx hb dX6_foremostBelow_35 (by decide) g9 c10 (fun b11 => ?_) (fun b11 => ?_)
          · have hv := hv.1 b11
            refine r_iinc (v := (v4 + 1)) (lv' := [(4, .int (iI (v4 + 1))), (0, .ref (ad k0)), (1, .int (iI p1)), (2, .int (iI v2)), (3, .int (iI v3))]) hx hb dX6_foremostBelow_49 hl (k := 4) rfl rfl (by decide) rfl (fun ls hl => ?_)
            refine lv_goto (tgt := 7) hx hb dX6_foremostBelow_52 (by decide) ?_
            exact ih v2 v3 (v4 + 1) M _ _ _ hM hv hw (lv_sub hl [1, 2, 3, 4, 0] rfl)
          · have hv := hv.2 b11
            refine lv_iload hx hb dX6_foremostBelow_38 (lv_at hl 4 rfl) ?_
            refine lv_istore_n (lv' := [(2, .int (iI v4)), (0, .ref (ad k0)), (1, .int (iI p1)), (3, .int (iI v3)), (4, .int (iI v4))]) hx hb dX6_foremostBelow_40 rfl hl (by decide) rfl (fun ls hl => ?_)
            refine lv_aload_n hx hb dX6_foremostBelow_41 rfl (lv_at hl 1 rfl) ?_
            refine gf_X6_9 hx hb hC hw k0 (gS_X hk0 τ ad M) rfl dX6_foremostBelow_42 ?_
            refine lv_iload hx hb dX6_foremostBelow_45 (lv_at hl 4 rfl) ?_
            refine r_iald hx hb hC hw (k0 + 1) (gI_X (isS_f0 hk0) τ ad M) c5 c6 (by decide) dX6_foremostBelow_47 ?_
            refine r_top (fun x12 e12 => ?_)
            have g12 : iR x12 := by rw [e12]; exact hM.get (isS_f0 hk0).pos _
            have hv := hv x12 e12 g12
            refine lv_istore_n (lv' := [(3, .int (iI x12)), (2, .int (iI v4)), (0, .ref (ad k0)), (1, .int (iI p1)), (4, .int (iI v4))]) hx hb dX6_foremostBelow_48 rfl hl (by decide) rfl (fun ls hl => ?_)
            refine r_iinc (v := (v4 + 1)) (lv' := [(4, .int (iI (v4 + 1))), (3, .int (iI x12)), (2, .int (iI v4)), (0, .ref (ad k0)), (1, .int (iI p1))]) hx hb dX6_foremostBelow_49 hl (k := 4) rfl rfl (by decide) rfl (fun ls hl => ?_)
            refine lv_goto (tgt := 7) hx hb dX6_foremostBelow_52 (by decide) ?_
            exact ih v4 x12 (v4 + 1) M _ _ _ hM hv hw (lv_sub hl [3, 4, 2, 1, 0] rfl)
  refine r_iconst hx hb dX6_foremostBelow_0 ?_
  refine lv_istore_n (lv' := [(2, .int (iI (-1))), (0, .ref (ad k0)), (1, .int (iI p1))]) hx hb dX6_foremostBelow_1 rfl hl (by decide) rfl (fun ls hl => ?_)
  refine r_iconst hx hb dX6_foremostBelow_2 ?_
  refine lv_istore_n (lv' := [(3, .int (iI (-1))), (2, .int (iI (-1))), (0, .ref (ad k0)), (1, .int (iI p1))]) hx hb dX6_foremostBelow_3 rfl hl (by decide) rfl (fun ls hl => ?_)
  refine r_iconst hx hb dX6_foremostBelow_4 ?_
  refine lv_istore (lv' := [(4, .int (iI 0)), (3, .int (iI (-1))), (2, .int (iI (-1))), (0, .ref (ad k0)), (1, .int (iI p1))]) hx hb dX6_foremostBelow_5 hl (by decide) rfl (fun ls hl => ?_)
  obtain ⟨n13, hv⟩ := hv
  refine L7  n13 (-1) (-1) 0 M _ _ _ hM hv hw (lv_sub hl [3, 4, 2, 1, 0] rfl)
set_option maxHeartbeats 4000000 in
set_option maxRecDepth 100000 in
theorem mX10_advance (l : Launch) (D : va_G) (τ : Nat → ClassId) (ad : Nat → Nat) (sA sV : Nat → Nat) (sz : Nat) (k1 : Nat) (k2 : Nat) (hk1 : isS k1) (hk2 : isL k2) (M : Mem) (hM : MR M) (Q : Mem → Prop) (hv : qX10_advance k1 k2 M Q) : Met l yX10_advance (lw_w yX10_advance cX10_advance 6 none) (rmk 4 0 0) (kPc D τ sA sV (WX τ ad M) sz [.ref (ad 160), .ref (ad k1), .ref (ad k2)]) (gQv D (EQv (WX τ ad) MR Q) (va_A (WX τ ad M) sz)) 0 0 (va_A (WX τ ad M) sz) := by
  refine k_met (ret := none) (Qc := gQv D (EQv (WX τ ad) MR Q)) (by decide +kernel) (Nat.le_of_ble_eq_true rfl) ?_
  intro p e s m args below meth c A ls hx hb hml hr hlk hnm hC hLS hA hw hl
  have hC : cx D τ s m args RX10 := hC
  have hl : lv_has ls 6 [(0, .ref (ad 160)), (1, .ref (ad k1)), (2, .ref (ad k2))] := hl
  unfold qX10_advance at hv
  have L16 : ∀ (X36 : Mem → Prop), (∀  (M : Mem) (H : Heap) (locs : List Loc) (ls : Array Slot), MR M → X36  M → wS D A s.heap (WX τ ad M) H locs → lv_has ls 6 [(0, .ref (ad 160)), (1, .ref (ad k1))] → W p l e (rmk 4 0 0) s m args below meth c H locs 0 0 (MQ below (gQv D (EQv (WX τ ad) MR Q) A) args s 0 0 A) (F0 m 36 ls [])) → ∀ (X61 : Mem → Prop), (∀  (M : Mem) (H : Heap) (locs : List Loc) (ls : Array Slot), MR M → X61  M → wS D A s.heap (WX τ ad M) H locs → lv_has ls 6 [(0, .ref (ad 160)), (1, .ref (ad k1))] → W p l e (rmk 4 0 0) s m args below meth c H locs 0 0 (MQ below (gQv D (EQv (WX τ ad) MR Q) A) args s 0 0 A) (F0 m 61 ls [])) → ∀ (n : Nat) (v3 : Int) (v4 : Int) (M : Mem) (H : Heap) (locs : List Loc) (ls : Array Slot), MR M → qX10_advance_L16 k1 k2 X36 X61 Q n v3 v4 M → wS D A s.heap (WX τ ad M) H locs → lv_has ls 6 [(0, .ref (ad 160)), (1, .ref (ad k1)), (2, .ref (ad k2)), (3, .int (iI v3)), (4, .int (iI v4))] → W p l e (rmk 4 0 0) s m args below meth c H locs 0 0 (MQ below (gQv D (EQv (WX τ ad) MR Q) A) args s 0 0 A) (F0 m 16 ls []) := by
    intro X36 hX36 X61 hX61 n
    induction n with
    | zero => intro v3 v4 M H locs ls hM hv; rw [qX10_advance_L16] at hv; exact hv.elim
    | succ n ih =>
      intro v3 v4 M H locs ls hM hv hw hl
      rw [qX10_advance_L16] at hv
      refine lv_iload hx hb dX10_advance_16 (lv_at hl 4 rfl) ?_
      refine r_bipush hx hb dX10_advance_18 (by decide +kernel) ?_
      obtain ⟨c3, hv⟩ := hv
      refine r_icmp_ge (tgt := 61) hx hb dX10_advance_20 (by decide) c3 (by decide) (fun b4 => ?_) (fun b4 => ?_)
      · have hv := hv.1 b4
        exact hX61  M _ _ _ hM hv hw (lv_sub hl [0, 1] rfl)
      · have hv := hv.2 b4
        refine lv_aload_n hx hb dX10_advance_23 rfl (lv_at hl 1 rfl) ?_
        refine lv_iload_n hx hb dX10_advance_24 rfl (lv_at hl 3 rfl) ?_
        obtain ⟨c5, hv⟩ := hv
        refine k_cVi (wq_X τ ad) hx hb hml hC hLS hA hw hl.1 (mX6_foremostBelow l D τ ad sA sV _ k1 v3 hk1 c5 M hM _ hv) kX6_foremostBelow ml_X10_65 rfl (gS_X hk1 τ ad M) rfl rfl (Nat.le_of_ble_eq_true rfl) (rm_ok (by decide) (by decide)) ⟨Nat.zero_le _, Nat.zero_le _⟩ dX10_advance_25 (fun x6 M6 H locs g6 hM hv hw => ?_)
        have hv := hv g6
        refine lv_istore (lv' := [(5, .int (iI x6)), (0, .ref (ad 160)), (1, .ref (ad k1)), (2, .ref (ad k2)), (3, .int (iI v3)), (4, .int (iI v4))]) hx hb dX10_advance_28 hl (by decide) rfl (fun ls hl => ?_)
        refine lv_iload hx hb dX10_advance_30 (lv_at hl 0 rfl) ?_
        refine r_iconst hx hb dX10_advance_32 ?_
        refine r_icmp_ne (tgt := 39) hx hb dX10_advance_33 (by decide) g6 (by decide) (fun b7 => ?_) (fun b7 => ?_)
        · have hv := hv.1 b7
          refine lv_aload_n hx hb dX10_advance_39 rfl (lv_at hl 2 rfl) ?_
          refine gf_X10_69 hx hb hC hw k1 (gS_X hk1 τ ad M6) rfl dX10_advance_40 ?_
          refine lv_iload hx hb dX10_advance_43 (lv_at hl 0 rfl) ?_
          obtain ⟨c8, hv⟩ := hv
          obtain ⟨c9, hv⟩ := hv
          refine r_iald hx hb hC hw (k1 + 1) (gI_X (isS_f0 hk1) τ ad M6) c8 c9 (by decide) dX10_advance_45 ?_
          refine r_top (fun x10 e10 => ?_)
          have g10 : iR x10 := by rw [e10]; exact hM.get (isS_f0 hk1).pos _
          have hv := hv x10 e10 g10
          refine lv_istore_n (lv' := [(3, .int (iI x10)), (5, .int (iI x6)), (0, .ref (ad 160)), (1, .ref (ad k1)), (2, .ref (ad k2)), (4, .int (iI v4))]) hx hb dX10_advance_46 rfl hl (by decide) rfl (fun ls hl => ?_)
          refine lv_aload_n hx hb dX10_advance_47 rfl (lv_at hl 2 rfl) ?_
          refine lv_aload_n hx hb dX10_advance_48 rfl (lv_at hl 3 rfl) ?_
          refine lv_aload_n hx hb dX10_advance_49 rfl (lv_at hl 4 rfl) ?_
          refine lv_iload hx hb dX10_advance_50 (lv_at hl 1 rfl) ?_
          refine k_cVv (wq_X τ ad) hx hb hml hC hLS hA hw hl.1 (mX10_moveHearse l D τ ad sA sV _ k1 k2 x6 hk1 hk2 g6 M6 hM _ hv) kX10_moveHearse ml_X10_72 rfl (gX_160 τ ad M6) rfl rfl (Nat.le_of_ble_eq_true rfl) (rm_ok (by decide) (by decide)) ⟨Nat.zero_le _, Nat.zero_le _⟩ dX10_advance_52 (fun M11 H locs hM hv hw => ?_)
          refine r_iinc (v := (v4 + 1)) (lv' := [(4, .int (iI (v4 + 1))), (3, .int (iI x10)), (5, .int (iI x6)), (0, .ref (ad 160)), (1, .ref (ad k1)), (2, .ref (ad k2))]) hx hb dX10_advance_55 hl (k := 5) rfl rfl (by decide) rfl (fun ls hl => ?_)
          refine lv_goto (tgt := 16) hx hb dX10_advance_58 (by decide) ?_
          exact ih x10 (v4 + 1) M11 _ _ _ hM hv hw (lv_sub hl [3, 4, 5, 1, 0] rfl)
        · have hv := hv.2 b7
          exact hX36  M6 _ _ _ hM hv hw (lv_sub hl [1, 2] rfl)
  have L64 : ∀ (n : Nat) (v4 : Int) (M : Mem) (H : Heap) (locs : List Loc) (ls : Array Slot), MR M → qX10_advance_L64 k1 k2  Q n v4 M → wS D A s.heap (WX τ ad M) H locs → lv_has ls 6 [(0, .ref (ad 160)), (1, .ref (ad k1)), (4, .int (iI v4))] → W p l e (rmk 4 0 0) s m args below meth c H locs 0 0 (MQ below (gQv D (EQv (WX τ ad) MR Q) A) args s 0 0 A) (F0 m 64 ls []) := by
    intro n
    induction n with
    | zero => intro v4 M H locs ls hM hv; rw [qX10_advance_L64] at hv; exact hv.elim
    | succ n ih =>
      intro v4 M H locs ls hM hv hw hl
      rw [qX10_advance_L64] at hv
      refine lv_iload hx hb dX10_advance_64 (lv_at hl 2 rfl) ?_
      refine lv_aload_n hx hb dX10_advance_66 rfl (lv_at hl 1 rfl) ?_
      refine gf_X10_51 hx hb hC hw k1 (gS_X hk1 τ ad M) rfl dX10_advance_67 ?_
      refine r_top (fun x13 e13 => ?_)
      have g13 : iR x13 := by rw [e13]; exact hM.get hk1.pos _
      have hv := hv x13 e13 g13
      obtain ⟨c14, hv⟩ := hv
      refine r_icmp_ge (tgt := 95) hx hb dX10_advance_70 (by decide) c14 g13 (fun b15 => ?_) (fun b15 => ?_)
      · have hv := hv.1 b15
        refine lv_aload_n hx hb dX10_advance_95 rfl (lv_at hl 1 rfl) ?_
        refine lv_dup hx hb dX10_advance_96 rfl ?_
        refine gf_X10_84 hx hb hC hw k1 (gS_X hk1 τ ad M) rfl dX10_advance_97 ?_
        refine r_top (fun x16 e16 => ?_)
        have g16 : iR x16 := by rw [e16]; exact hM.get hk1.pos _
        have hv := hv x16 e16 g16
        refine r_iconst hx hb dX10_advance_100 ?_
        refine r_iaddW hx hb dX10_advance_101 (fun x17 e17 g17 => ?_)
        have hv := hv x17 e17 g17
        obtain ⟨M18, e18⟩ : ∃ M18 : Mem, M18 = up2 M k1 10 x17 := ⟨_, rfl⟩
        have hv := hv M18 e18
        refine pf_X10_84 (ws' := (WX τ ad M18)) hx hb hC hw k1 (gS_X hk1 τ ad M) (Nat.le_of_ble_eq_true rfl) (by rw [e18]; exact sS_10 hk1 τ ad M _) dX10_advance_102 (fun H locs hw => ?_)
        have hM : MR M18 := by rw [e18]; exact hM.put hk1.pos g17
        exact k_vret (wq_X τ ad) hx hb hr hlk hw hM hv dX10_advance_105
      · have hv := hv.2 b15
        refine lv_aload_n hx hb dX10_advance_73 rfl (lv_at hl 1 rfl) ?_
        refine lv_iload hx hb dX10_advance_74 (lv_at hl 2 rfl) ?_
        refine k_cVz (wq_X τ ad) hx hb hml hC hLS hA hw hl.1 (mX6_hasEnded l D τ ad sA sV _ k1 v4 hk1 c14 M hM _ hv) kX6_hasEnded ml_X10_76 rfl (gS_X hk1 τ ad M) rfl rfl (Nat.le_of_ble_eq_true rfl) (rm_ok (by decide) (by decide)) ⟨Nat.zero_le _, Nat.zero_le _⟩ dX10_advance_76 (fun x19 M19 H locs g19 z19 hM hv hw => ?_)
        have hv := hv g19 z19
        refine r_if_ne (tgt := 89) hx hb dX10_advance_79 (by decide) g19  (fun b20 => ?_) (fun b20 => ?_)
        · have hv := hv.1 b20
          refine r_iinc (v := (v4 + 1)) (lv' := [(4, .int (iI (v4 + 1))), (0, .ref (ad 160)), (1, .ref (ad k1))]) hx hb dX10_advance_89 hl (k := 2) rfl rfl (by decide) rfl (fun ls hl => ?_)
          refine lv_goto (tgt := 64) hx hb dX10_advance_92 (by decide) ?_
          exact ih (v4 + 1) M19 _ _ _ hM hv hw (lv_sub hl [1, 2, 0] rfl)
        · have hv := hv.2 b20
          refine lv_aload_n hx hb dX10_advance_82 rfl (lv_at hl 0 rfl) ?_
          refine lv_aload_n hx hb dX10_advance_83 rfl (lv_at hl 1 rfl) ?_
          refine lv_iload hx hb dX10_advance_84 (lv_at hl 2 rfl) ?_
          refine k_cVv (wq_X τ ad) hx hb hml hC hLS hA hw hl.1 (mX10_moveMourner l D τ ad sA sV _ k1 v4 hk1 c14 M19 hM _ hv) kX10_moveMourner ml_X10_80 rfl (gX_160 τ ad M19) rfl rfl (Nat.le_of_ble_eq_true rfl) (rm_ok (by decide) (by decide)) ⟨Nat.zero_le _, Nat.zero_le _⟩ dX10_advance_86 (fun M21 H locs hM hv hw => ?_)
          refine r_iinc (v := (v4 + 1)) (lv' := [(4, .int (iI (v4 + 1))), (0, .ref (ad 160)), (1, .ref (ad k1))]) hx hb dX10_advance_89 hl (k := 2) rfl rfl (by decide) rfl (fun ls hl => ?_)
          refine lv_goto (tgt := 64) hx hb dX10_advance_92 (by decide) ?_
          exact ih (v4 + 1) M21 _ _ _ hM hv hw (lv_sub hl [1, 2, 0] rfl)
  refine lv_aload_n hx hb dX10_advance_0 rfl (lv_at hl 0 rfl) ?_
  refine r_iconst hx hb dX10_advance_1 ?_
  obtain ⟨M1, e1⟩ : ∃ M1 : Mem, M1 = up2 M 160 5 0 := ⟨_, rfl⟩
  have hv := hv M1 e1
  refine pf_X10_25 (ws' := (WX τ ad M1)) hx hb hC hw 160 (by decide) (gX_160 τ ad M) (Nat.le_of_ble_eq_true rfl) (by rw [e1]; exact sX_160_5 τ ad M _) dX10_advance_2 (fun H locs hw => ?_)
  have hM : MR M1 := by rw [e1]; exact hM.put (by decide) (by decide)
  refine lv_aload_n hx hb dX10_advance_5 rfl (lv_at hl 0 rfl) ?_
  refine gf_X10_29 hx hb hC hw 160 (gX_160 τ ad M1) rfl dX10_advance_6 ?_
  refine gf_X10_60 hx hb hC hw 158 (gX_158 τ ad M1) rfl dX10_advance_9 ?_
  refine r_top (fun x2 e2 => ?_)
  have g2 : iR x2 := by rw [e2]; exact hM.get (by decide) _
  have hv := hv x2 e2 g2
  refine lv_istore_n (lv' := [(3, .int (iI x2)), (0, .ref (ad 160)), (1, .ref (ad k1)), (2, .ref (ad k2))]) hx hb dX10_advance_12 rfl hl (by decide) rfl (fun ls hl => ?_)
  refine r_iconst hx hb dX10_advance_13 ?_
  refine lv_istore (lv' := [(4, .int (iI 0)), (3, .int (iI x2)), (0, .ref (ad 160)), (1, .ref (ad k1)), (2, .ref (ad k2))]) hx hb dX10_advance_14 hl (by decide) rfl (fun ls hl => ?_)
  obtain ⟨n12, hv⟩ := hv
  refine L16 _ ?_ _ ?_ n12 x2 0 M1 _ _ _ hM hv hw (lv_sub hl [2, 3, 4, 1, 0] rfl)
  · intro  M H locs ls hM hv hw hl
    refine lv_goto (tgt := 61) hx hb dX10_advance_36 (by decide) ?_
    refine r_iconst hx hb dX10_advance_61 ?_
    refine lv_istore (lv' := [(4, .int (iI 0)), (0, .ref (ad 160)), (1, .ref (ad k1))]) hx hb dX10_advance_62 hl (by decide) rfl (fun ls hl => ?_)
    obtain ⟨n22, hv⟩ := hv
    refine L64  n22 0 M _ _ _ hM hv hw (lv_sub hl [1, 2, 0] rfl)
  · intro  M H locs ls hM hv hw hl
    refine r_iconst hx hb dX10_advance_61 ?_
    refine lv_istore (lv' := [(4, .int (iI 0)), (0, .ref (ad 160)), (1, .ref (ad k1))]) hx hb dX10_advance_62 hl (by decide) rfl (fun ls hl => ?_)
    obtain ⟨n23, hv⟩ := hv
    refine L64  n23 0 M _ _ _ hM hv hw (lv_sub hl [1, 2, 0] rfl)
set_option maxHeartbeats 4000000 in
set_option maxRecDepth 100000 in
theorem mX10_forgetTallies (l : Launch) (D : va_G) (τ : Nat → ClassId) (ad : Nat → Nat) (sA sV : Nat → Nat) (sz : Nat)   (M : Mem) (hM : MR M) (Q : Mem → Prop) (hv : qX10_forgetTallies  M Q) : Met l yX10_forgetTallies (lw_w yX10_forgetTallies cX10_forgetTallies 2 none) (rmk 1 0 0) (kPc D τ sA sV (WX τ ad M) sz [.ref (ad 160)]) (gQv D (EQv (WX τ ad) MR Q) (va_A (WX τ ad M) sz)) 0 0 (va_A (WX τ ad M) sz) := by
  refine k_met (ret := none) (Qc := gQv D (EQv (WX τ ad) MR Q)) (by decide +kernel) (Nat.le_of_ble_eq_true rfl) ?_
  intro p e s m args below meth c A ls hx hb hml hr hlk hnm hC hLS hA hw hl
  have hC : cx D τ s m args RX10 := hC
  have hl : lv_has ls 2 [(0, .ref (ad 160))] := hl
  unfold qX10_forgetTallies at hv
  have L12 : ∀ (X31 : Mem → Prop), (∀  (M : Mem) (H : Heap) (locs : List Loc) (ls : Array Slot), MR M → X31  M → wS D A s.heap (WX τ ad M) H locs → lv_has ls 2 [(0, .ref (ad 160))] → W p l e (rmk 1 0 0) s m args below meth c H locs 0 0 (MQ below (gQv D (EQv (WX τ ad) MR Q) A) args s 0 0 A) (F0 m 31 ls [])) → ∀ (n : Nat) (v1 : Int) (M : Mem) (H : Heap) (locs : List Loc) (ls : Array Slot), MR M → qX10_forgetTallies_L12  X31 Q n v1 M → wS D A s.heap (WX τ ad M) H locs → lv_has ls 2 [(0, .ref (ad 160)), (1, .int (iI v1))] → W p l e (rmk 1 0 0) s m args below meth c H locs 0 0 (MQ below (gQv D (EQv (WX τ ad) MR Q) A) args s 0 0 A) (F0 m 12 ls []) := by
    intro X31 hX31 n
    induction n with
    | zero => intro v1 M H locs ls hM hv; rw [qX10_forgetTallies_L12] at hv; exact hv.elim
    | succ n ih =>
      intro v1 M H locs ls hM hv hw hl
      rw [qX10_forgetTallies_L12] at hv
      refine lv_iload_n hx hb dX10_forgetTallies_12 rfl (lv_at hl 1 rfl) ?_
      refine r_bipush hx hb dX10_forgetTallies_13 (by decide +kernel) ?_
      obtain ⟨c3, hv⟩ := hv
      refine r_icmp_ge (tgt := 31) hx hb dX10_forgetTallies_15 (by decide) c3 (by decide) (fun b4 => ?_) (fun b4 => ?_)
      · have hv := hv.1 b4
        exact hX31  M _ _ _ hM hv hw (lv_sub hl [0] rfl)
      · have hv := hv.2 b4
        refine lv_aload_n hx hb dX10_forgetTallies_18 rfl (lv_at hl 0 rfl) ?_
        refine gf_X10_9 hx hb hC hw 160 (gX_160 τ ad M) rfl dX10_forgetTallies_19 ?_
        refine lv_iload_n hx hb dX10_forgetTallies_22 rfl (lv_at hl 1 rfl) ?_
        refine r_iconst hx hb dX10_forgetTallies_23 ?_
        obtain ⟨c5, hv⟩ := hv
        obtain ⟨c6, hv⟩ := hv
        obtain ⟨M7, e7⟩ : ∃ M7 : Mem, M7 = up2 M 161 v1 0 := ⟨_, rfl⟩
        have hv := hv M7 e7
        refine r_iast (ws' := (WX τ ad M7)) hx hb hC hw 161 (gI_X aX_161 τ ad M) c5 c6 (by decide) (by rw [e7]; exact sI_X aX_161 τ ad M _ _) dX10_forgetTallies_24 (fun H locs hw => ?_)
        have hM : MR M7 := by rw [e7]; exact hM.put aX_161.pos (by decide)
        refine r_iinc (v := (v1 + 1)) (lv' := [(1, .int (iI (v1 + 1))), (0, .ref (ad 160))]) hx hb dX10_forgetTallies_25 hl (k := 1) rfl rfl (by decide) rfl (fun ls hl => ?_)
        refine lv_goto (tgt := 12) hx hb dX10_forgetTallies_28 (by decide) ?_
        exact ih (v1 + 1) M7 _ _ _ hM hv hw (lv_sub hl [1, 0] rfl)
  have L33 : ∀ (n : Nat) (v1 : Int) (M : Mem) (H : Heap) (locs : List Loc) (ls : Array Slot), MR M → qX10_forgetTallies_L33   Q n v1 M → wS D A s.heap (WX τ ad M) H locs → lv_has ls 2 [(0, .ref (ad 160)), (1, .int (iI v1))] → W p l e (rmk 1 0 0) s m args below meth c H locs 0 0 (MQ below (gQv D (EQv (WX τ ad) MR Q) A) args s 0 0 A) (F0 m 33 ls []) := by
    intro n
    induction n with
    | zero => intro v1 M H locs ls hM hv; rw [qX10_forgetTallies_L33] at hv; exact hv.elim
    | succ n ih =>
      intro v1 M H locs ls hM hv hw hl
      rw [qX10_forgetTallies_L33] at hv
      refine lv_iload_n hx hb dX10_forgetTallies_33 rfl (lv_at hl 1 rfl) ?_
      refine r_bipush hx hb dX10_forgetTallies_34 (by decide +kernel) ?_
      obtain ⟨c9, hv⟩ := hv
      refine r_icmp_ge (tgt := 52) hx hb dX10_forgetTallies_36 (by decide) c9 (by decide) (fun b10 => ?_) (fun b10 => ?_)
      · have hv := hv.1 b10
        exact k_vret (wq_X τ ad) hx hb hr hlk hw hM hv dX10_forgetTallies_52
      · have hv := hv.2 b10
        refine lv_aload_n hx hb dX10_forgetTallies_39 rfl (lv_at hl 0 rfl) ?_
        refine gf_X10_15 hx hb hC hw 160 (gX_160 τ ad M) rfl dX10_forgetTallies_40 ?_
        refine lv_iload_n hx hb dX10_forgetTallies_43 rfl (lv_at hl 1 rfl) ?_
        refine r_iconst hx hb dX10_forgetTallies_44 ?_
        obtain ⟨c11, hv⟩ := hv
        obtain ⟨c12, hv⟩ := hv
        obtain ⟨M13, e13⟩ : ∃ M13 : Mem, M13 = up2 M 162 v1 0 := ⟨_, rfl⟩
        have hv := hv M13 e13
        refine r_iast (ws' := (WX τ ad M13)) hx hb hC hw 162 (gI_X aX_162 τ ad M) c11 c12 (by decide) (by rw [e13]; exact sI_X aX_162 τ ad M _ _) dX10_forgetTallies_45 (fun H locs hw => ?_)
        have hM : MR M13 := by rw [e13]; exact hM.put aX_162.pos (by decide)
        refine r_iinc (v := (v1 + 1)) (lv' := [(1, .int (iI (v1 + 1))), (0, .ref (ad 160))]) hx hb dX10_forgetTallies_46 hl (k := 1) rfl rfl (by decide) rfl (fun ls hl => ?_)
        refine lv_goto (tgt := 33) hx hb dX10_forgetTallies_49 (by decide) ?_
        exact ih (v1 + 1) M13 _ _ _ hM hv hw (lv_sub hl [1, 0] rfl)
  refine lv_aload_n hx hb dX10_forgetTallies_0 rfl (lv_at hl 0 rfl) ?_
  refine r_iconst hx hb dX10_forgetTallies_1 ?_
  obtain ⟨M1, e1⟩ : ∃ M1 : Mem, M1 = up2 M 160 3 0 := ⟨_, rfl⟩
  have hv := hv M1 e1
  refine pf_X10_18 (ws' := (WX τ ad M1)) hx hb hC hw 160 (gX_160 τ ad M) (Nat.le_of_ble_eq_true rfl) (by rw [e1]; exact sX_160_3 τ ad M _) dX10_forgetTallies_2 (fun H locs hw => ?_)
  have hM : MR M1 := by rw [e1]; exact hM.put (by decide) (by decide)
  refine lv_aload_n hx hb dX10_forgetTallies_5 rfl (lv_at hl 0 rfl) ?_
  refine r_iconst hx hb dX10_forgetTallies_6 ?_
  obtain ⟨M2, e2⟩ : ∃ M2 : Mem, M2 = up2 M1 160 4 0 := ⟨_, rfl⟩
  have hv := hv M2 e2
  refine pf_X10_22 (ws' := (WX τ ad M2)) hx hb hC hw 160 (gX_160 τ ad M1) (Nat.le_of_ble_eq_true rfl) (by rw [e2]; exact sX_160_4 τ ad M1 _) dX10_forgetTallies_7 (fun H locs hw => ?_)
  have hM : MR M2 := by rw [e2]; exact hM.put (by decide) (by decide)
  refine r_iconst hx hb dX10_forgetTallies_10 ?_
  refine lv_istore_n (lv' := [(1, .int (iI 0)), (0, .ref (ad 160))]) hx hb dX10_forgetTallies_11 rfl hl (by decide) rfl (fun ls hl => ?_)
  obtain ⟨n8, hv⟩ := hv
  refine L12 _ ?_ n8 0 M2 _ _ _ hM hv hw (lv_sub hl [1, 0] rfl)
  · intro  M H locs ls hM hv hw hl
    refine r_iconst hx hb dX10_forgetTallies_31 ?_
    refine lv_istore_n (lv' := [(1, .int (iI 0)), (0, .ref (ad 160))]) hx hb dX10_forgetTallies_32 rfl hl (by decide) rfl (fun ls hl => ?_)
    obtain ⟨n14, hv⟩ := hv
    refine L33  n14 0 M _ _ _ hM hv hw (lv_sub hl [1, 0] rfl)
set_option maxHeartbeats 4000000 in
set_option maxRecDepth 100000 in
theorem mX10_walk (l : Launch) (D : va_G) (τ : Nat → ClassId) (ad : Nat → Nat) (sA sV : Nat → Nat) (sz : Nat) (k1 : Nat) (k2 : Nat) (p3 : Int) (hk1 : isS k1) (hk2 : isL k2) (hp3 : iR p3) (M : Mem) (hM : MR M) (Q : Mem → Prop) (hv : qX10_walk k1 k2 p3 M Q) : Met l yX10_walk (lw_w yX10_walk cX10_walk 5 none) (rmk 5 0 0) (kPc D τ sA sV (WX τ ad M) sz [.ref (ad 160), .ref (ad k1), .ref (ad k2), .int (iI p3)]) (gQv D (EQv (WX τ ad) MR Q) (va_A (WX τ ad M) sz)) 0 0 (va_A (WX τ ad M) sz) := by
  refine k_met (ret := none) (Qc := gQv D (EQv (WX τ ad) MR Q)) (by decide +kernel) (Nat.le_of_ble_eq_true rfl) ?_
  intro p e s m args below meth c A ls hx hb hml hr hlk hnm hC hLS hA hw hl
  have hC : cx D τ s m args RX10 := hC
  have hl : lv_has ls 5 [(0, .ref (ad 160)), (1, .ref (ad k1)), (2, .ref (ad k2)), (3, .int (iI p3))] := hl
  unfold qX10_walk at hv
  have L7 : ∀ (n : Nat) (v4 : Int) (M : Mem) (H : Heap) (locs : List Loc) (ls : Array Slot), MR M → qX10_walk_L7 k1 k2 p3  Q n v4 M → wS D A s.heap (WX τ ad M) H locs → lv_has ls 5 [(0, .ref (ad 160)), (1, .ref (ad k1)), (2, .ref (ad k2)), (3, .int (iI p3)), (4, .int (iI v4))] → W p l e (rmk 5 0 0) s m args below meth c H locs 0 0 (MQ below (gQv D (EQv (WX τ ad) MR Q) A) args s 0 0 A) (F0 m 7 ls []) := by
    intro n
    induction n with
    | zero => intro v4 M H locs ls hM hv; rw [qX10_walk_L7] at hv; exact hv.elim
    | succ n ih =>
      intro v4 M H locs ls hM hv hw hl
      rw [qX10_walk_L7] at hv
      refine lv_iload hx hb dX10_walk_7 (lv_at hl 4 rfl) ?_
      refine lv_iload_n hx hb dX10_walk_9 rfl (lv_at hl 3 rfl) ?_
      obtain ⟨c2, hv⟩ := hv
      refine r_icmp_ge (tgt := 25) hx hb dX10_walk_10 (by decide) c2 hp3 (fun b3 => ?_) (fun b3 => ?_)
      · have hv := hv.1 b3
        exact k_vret (wq_X τ ad) hx hb hr hlk hw hM hv dX10_walk_25
      · have hv := hv.2 b3
        refine lv_aload_n hx hb dX10_walk_13 rfl (lv_at hl 0 rfl) ?_
        refine lv_aload_n hx hb dX10_walk_14 rfl (lv_at hl 1 rfl) ?_
        refine lv_aload_n hx hb dX10_walk_15 rfl (lv_at hl 2 rfl) ?_
        refine k_cVv (wq_X τ ad) hx hb hml hC hLS hA hw hl.1 (mX10_advance l D τ ad sA sV _ k1 k2 hk1 hk2 M hM _ hv) kX10_advance ml_X10_36 rfl (gX_160 τ ad M) rfl rfl (Nat.le_of_ble_eq_true rfl) (rm_ok (by decide) (by decide)) ⟨Nat.zero_le _, Nat.zero_le _⟩ dX10_walk_16 (fun M4 H locs hM hv hw => ?_)
        refine r_iinc (v := (v4 + 1)) (lv' := [(4, .int (iI (v4 + 1))), (0, .ref (ad 160)), (1, .ref (ad k1)), (2, .ref (ad k2)), (3, .int (iI p3))]) hx hb dX10_walk_19 hl (k := 4) rfl rfl (by decide) rfl (fun ls hl => ?_)
        refine lv_goto (tgt := 7) hx hb dX10_walk_22 (by decide) ?_
        exact ih (v4 + 1) M4 _ _ _ hM hv hw (lv_sub hl [1, 2, 3, 4, 0] rfl)
  refine lv_aload_n hx hb dX10_walk_0 rfl (lv_at hl 0 rfl) ?_
  refine k_cVv (wq_X τ ad) hx hb hml hC hLS hA hw hl.1 (mX10_forgetTallies l D τ ad sA sV _   M hM _ hv) kX10_forgetTallies ml_X10_33 rfl (gX_160 τ ad M) rfl rfl (Nat.le_of_ble_eq_true rfl) (rm_ok (by decide) (by decide)) ⟨Nat.zero_le _, Nat.zero_le _⟩ dX10_walk_1 (fun M1 H locs hM hv hw => ?_)
  refine r_iconst hx hb dX10_walk_4 ?_
  refine lv_istore (lv' := [(4, .int (iI 0)), (0, .ref (ad 160)), (1, .ref (ad k1)), (2, .ref (ad k2)), (3, .int (iI p3))]) hx hb dX10_walk_5 hl (by decide) rfl (fun ls hl => ?_)
  obtain ⟨n5, hv⟩ := hv
  refine L7  n5 0 M1 _ _ _ hM hv hw (lv_sub hl [1, 2, 3, 4, 0] rfl)
set_option maxHeartbeats 4000000 in
set_option maxRecDepth 100000 in
theorem mX11_isDone (l : Launch) (D : va_G) (τ : Nat → ClassId) (ad : Nat → Nat) (sA sV : Nat → Nat) (sz : Nat) (p0 : Int) (hp0 : iR p0) (M : Mem) (hM : MR M) (Q : Int → Mem → Prop) (hv : qX11_isDone p0 M Q) : Met l yX11_isDone (lw_w yX11_isDone cX11_isDone 1 (some .boolean)) (rmk 1 0 0) (kPc D τ sA sV (WX τ ad M) sz [.int (iI p0)]) (gQi D (EQz (WX τ ad) MR Q) (va_A (WX τ ad M) sz)) 0 0 (va_A (WX τ ad M) sz) := by
  refine k_met (ret := (some .boolean)) (Qc := gQi D (EQz (WX τ ad) MR Q)) (by decide +kernel) (Nat.le_of_ble_eq_true rfl) ?_
  intro p e s m args below meth c A ls hx hb hml hr hlk hnm hC hLS hA hw hl
  have hC : cx D τ s m args RX11 := hC
  have hl : lv_has ls 1 [(0, .int (iI p0))] := hl
  unfold qX11_isDone at hv
  refine lv_iload_n hx hb dX11_isDone_0 rfl (lv_at hl 0 rfl) ?_
  refine r_if_ge (tgt := 10) hx hb dX11_isDone_1 (by decide) hp0  (fun b1 => ?_) (fun b1 => ?_)
  · have hv := hv.1 b1
    refine r_iconst hx hb dX11_isDone_10 ?_
    refine lv_goto (tgt := 15) hx hb dX11_isDone_11 (by decide) ?_
    exact k_zret (wq_X τ ad) hx hb hr hlk hw hM (by decide) (by decide) hv dX11_isDone_15
  · have hv := hv.2 b1
    refine lv_iload_n hx hb dX11_isDone_4 rfl (lv_at hl 0 rfl) ?_
    refine r_bipush hx hb dX11_isDone_5 (by decide +kernel) ?_
    refine r_icmp_ne (tgt := 14) hx hb dX11_isDone_7 (by decide) hp0 (by decide) (fun b2 => ?_) (fun b2 => ?_)
    · have hv := hv.1 b2
      refine r_iconst hx hb dX11_isDone_14 ?_
      exact k_zret (wq_X τ ad) hx hb hr hlk hw hM (by decide) (by decide) hv dX11_isDone_15
    · have hv := hv.2 b2
      refine r_iconst hx hb dX11_isDone_10 ?_
      refine lv_goto (tgt := 15) hx hb dX11_isDone_11 (by decide) ?_
      exact k_zret (wq_X τ ad) hx hb hr hlk hw hM (by decide) (by decide) hv dX11_isDone_15
set_option maxHeartbeats 4000000 in
set_option maxRecDepth 100000 in
theorem mX1_add (l : Launch) (D : va_G) (τ : Nat → ClassId) (ad : Nat → Nat) (sA sV : Nat → Nat) (sz : Nat) (k1 : Nat) (hk1 : isS k1) (M : Mem) (hM : MR M) (Q : Mem → Prop) (hv : qX1_add k1 M Q) : Met l yX1_add (lw_w yX1_add cX1_add 2 none) (rmk 2 0 0) (kPc D τ sA sV (WX τ ad M) sz [.ref (ad 163), .ref (ad k1)]) (gQv D (EQv (WX τ ad) MR Q) (va_A (WX τ ad M) sz)) 0 0 (va_A (WX τ ad M) sz) := by
  refine k_met (ret := none) (Qc := gQv D (EQv (WX τ ad) MR Q)) (by decide +kernel) (Nat.le_of_ble_eq_true rfl) ?_
  intro p e s m args below meth c A ls hx hb hml hr hlk hnm hC hLS hA hw hl
  have hC : cx D τ s m args RX1 := hC
  have hl : lv_has ls 2 [(0, .ref (ad 163)), (1, .ref (ad k1))] := hl
  unfold qX1_add at hv
  refine lv_aload_n hx hb dX1_add_0 rfl (lv_at hl 0 rfl) ?_
  refine gf_X1_11 hx hb hC hw 163 (gX_163 τ ad M) rfl dX1_add_1 ?_
  refine lv_aload_n hx hb dX1_add_4 rfl (lv_at hl 0 rfl) ?_
  refine gf_X1_17 hx hb hC hw 163 (gX_163 τ ad M) rfl dX1_add_5 ?_
  refine r_top (fun x1 e1 => ?_)
  have g1 : iR x1 := by rw [e1]; exact hM.get (by decide) _
  have hv := hv x1 e1 g1
  refine lv_aload_n hx hb dX1_add_8 rfl (lv_at hl 0 rfl) ?_
  refine gf_X1_21 hx hb hC hw 163 (gX_163 τ ad M) rfl dX1_add_9 ?_
  refine r_top (fun x2 e2 => ?_)
  have g2 : iR x2 := by rw [e2]; exact hM.get (by decide) _
  have hv := hv x2 e2 g2
  refine r_iadd (z := (x1 + x2)) hx hb dX1_add_12 rfl ?_
  refine r_bipush hx hb dX1_add_13 (by decide +kernel) ?_
  refine r_iremF hx hb dX1_add_15 (by decide) (by decide) (fun x3 e3 g3 => ?_)
  have hv := hv x3 e3 g3
  obtain ⟨c4, hv⟩ := hv
  obtain ⟨c5, hv⟩ := hv
  refine r_aaldS (f := fun i => some (ad (50 + 7 * i))) (v := .ref (ad (50 + 7 * x3.toNat))) hx hb hC hw 164 (gR_164 τ ad M) c4 c5 (by decide) rfl dX1_add_16 ?_
  refine lv_aload_n hx hb dX1_add_17 rfl (lv_at hl 1 rfl) ?_
  refine k_cVv (wq_X τ ad) hx hb hml hC hLS hA hw hl.1 (mX6_copyFrom l D τ ad sA sV _ (50 + 7 * x3.toNat) k1 (isS_hist c4 c5) hk1 M hM _ hv) kX6_copyFrom ml_X1_25 rfl (gS_X (isS_hist c4 c5) τ ad M) rfl rfl (Nat.le_of_ble_eq_true rfl) (rm_ok (by decide) (by decide)) ⟨Nat.zero_le _, Nat.zero_le _⟩ dX1_add_18 (fun M6 H locs hM hv hw => ?_)
  refine lv_aload_n hx hb dX1_add_21 rfl (lv_at hl 0 rfl) ?_
  refine gf_X1_21 hx hb hC hw 163 (gX_163 τ ad M6) rfl dX1_add_22 ?_
  refine r_top (fun x7 e7 => ?_)
  have g7 : iR x7 := by rw [e7]; exact hM.get (by decide) _
  have hv := hv x7 e7 g7
  refine r_bipush hx hb dX1_add_25 (by decide +kernel) ?_
  refine r_icmp_ge (tgt := 43) hx hb dX1_add_27 (by decide) g7 (by decide) (fun b8 => ?_) (fun b8 => ?_)
  · have hv := hv.1 b8
    refine lv_aload_n hx hb dX1_add_43 rfl (lv_at hl 0 rfl) ?_
    refine lv_aload_n hx hb dX1_add_44 rfl (lv_at hl 0 rfl) ?_
    refine gf_X1_17 hx hb hC hw 163 (gX_163 τ ad M6) rfl dX1_add_45 ?_
    refine r_top (fun x9 e9 => ?_)
    have g9 : iR x9 := by rw [e9]; exact hM.get (by decide) _
    have hv := hv x9 e9 g9
    refine r_iconst hx hb dX1_add_48 ?_
    refine r_iadd (z := (x9 + 1)) hx hb dX1_add_49 rfl ?_
    refine r_bipush hx hb dX1_add_50 (by decide +kernel) ?_
    refine r_iremF hx hb dX1_add_52 (by decide) (by decide) (fun x10 e10 g10 => ?_)
    have hv := hv x10 e10 g10
    obtain ⟨M11, e11⟩ : ∃ M11 : Mem, M11 = up2 M6 163 1 x10 := ⟨_, rfl⟩
    have hv := hv M11 e11
    refine pf_X1_17 (ws' := (WX τ ad M11)) hx hb hC hw 163 (gX_163 τ ad M6) (Nat.le_of_ble_eq_true rfl) (by rw [e11]; exact sX_163_1 τ ad M6 _) dX1_add_53 (fun H locs hw => ?_)
    have hM : MR M11 := by rw [e11]; exact hM.put (by decide) g10
    exact k_vret (wq_X τ ad) hx hb hr hlk hw hM hv dX1_add_56
  · have hv := hv.2 b8
    refine lv_aload_n hx hb dX1_add_30 rfl (lv_at hl 0 rfl) ?_
    refine lv_dup hx hb dX1_add_31 rfl ?_
    refine gf_X1_21 hx hb hC hw 163 (gX_163 τ ad M6) rfl dX1_add_32 ?_
    refine r_top (fun x12 e12 => ?_)
    have g12 : iR x12 := by rw [e12]; exact hM.get (by decide) _
    have hv := hv x12 e12 g12
    refine r_iconst hx hb dX1_add_35 ?_
    refine r_iadd (z := (x12 + 1)) hx hb dX1_add_36 rfl ?_
    obtain ⟨c13, hv⟩ := hv
    obtain ⟨M14, e14⟩ : ∃ M14 : Mem, M14 = up2 M6 163 2 (x12 + 1) := ⟨_, rfl⟩
    have hv := hv M14 e14
    refine pf_X1_21 (ws' := (WX τ ad M14)) hx hb hC hw 163 (gX_163 τ ad M6) (Nat.le_of_ble_eq_true rfl) (by rw [e14]; exact sX_163_2 τ ad M6 _) dX1_add_37 (fun H locs hw => ?_)
    have hM : MR M14 := by rw [e14]; exact hM.put (by decide) c13
    refine lv_goto (tgt := 56) hx hb dX1_add_40 (by decide) ?_
    exact k_vret (wq_X τ ad) hx hb hr hlk hw hM hv dX1_add_56
set_option maxHeartbeats 4000000 in
set_option maxRecDepth 100000 in
theorem mX11_undoable (l : Launch) (D : va_G) (τ : Nat → ClassId) (ad : Nat → Nat) (sA sV : Nat → Nat) (sz : Nat) (p1 : Int) (hp1 : iR p1) (M : Mem) (hM : MR M) (Q : Int → Mem → Prop) (hv : qX11_undoable p1 M Q) : Met l yX11_undoable (lw_w yX11_undoable cX11_undoable 2 (some .int)) (rmk 3 0 0) (kPc D τ sA sV (WX τ ad M) sz [.ref (ad 155), .int (iI p1)]) (gQi D (EQi (WX τ ad) MR Q) (va_A (WX τ ad M) sz)) 0 0 (va_A (WX τ ad M) sz) := by
  refine k_met (ret := (some .int)) (Qc := gQi D (EQi (WX τ ad) MR Q)) (by decide +kernel) (Nat.le_of_ble_eq_true rfl) ?_
  intro p e s m args below meth c A ls hx hb hml hr hlk hnm hC hLS hA hw hl
  have hC : cx D τ s m args RX11 := hC
  have hl : lv_has ls 2 [(0, .ref (ad 155)), (1, .int (iI p1))] := hl
  unfold qX11_undoable at hv
  refine lv_iload_n hx hb dX11_undoable_0 rfl (lv_at hl 1 rfl) ?_
  refine k_cSz (wq_X τ ad) hx hb hml hC hLS hA hw hl.1 (mX11_isDone l D τ ad sA sV _ p1 hp1 M hM _ hv) kX11_isDone ml_X11_318 rfl rfl (Nat.le_of_ble_eq_true rfl) (rm_ok (by decide) (by decide)) ⟨Nat.zero_le _, Nat.zero_le _⟩ dX11_undoable_1 (fun x1 M1 H locs g1 z1 hM hv hw => ?_)
  have hv := hv g1 z1
  refine r_if_eq (tgt := 18) hx hb dX11_undoable_4 (by decide) g1  (fun b2 => ?_) (fun b2 => ?_)
  · have hv := hv.1 b2
    refine lv_iload_n hx hb dX11_undoable_18 rfl (lv_at hl 1 rfl) ?_
    exact k_iret (wq_X τ ad) hx hb hr hlk hw hM hp1 hv dX11_undoable_19
  · have hv := hv.2 b2
    refine lv_aload_n hx hb dX11_undoable_7 rfl (lv_at hl 0 rfl) ?_
    refine gf_X11_51 hx hb hC hw 155 (gX_155 τ ad M1) rfl dX11_undoable_8 ?_
    refine lv_aload_n hx hb dX11_undoable_11 rfl (lv_at hl 0 rfl) ?_
    refine gf_X11_36 hx hb hC hw 155 (gX_155 τ ad M1) rfl dX11_undoable_12 ?_
    refine k_cVv (wq_X τ ad) hx hb hml hC hLS hA hw hl.1 (mX1_add l D τ ad sA sV _ 22 (by decide) M1 hM _ hv) kX1_add ml_X11_321 rfl (gX_163 τ ad M1) rfl rfl (Nat.le_of_ble_eq_true rfl) (rm_ok (by decide) (by decide)) ⟨Nat.zero_le _, Nat.zero_le _⟩ dX11_undoable_15 (fun M3 H locs hM hv hw => ?_)
    refine lv_iload_n hx hb dX11_undoable_18 rfl (lv_at hl 1 rfl) ?_
    exact k_iret (wq_X τ ad) hx hb hr hlk hw hM hp1 hv dX11_undoable_19
set_option maxHeartbeats 4000000 in
set_option maxRecDepth 100000 in
theorem mX4_add (l : Launch) (D : va_G) (τ : Nat → ClassId) (ad : Nat → Nat) (sA sV : Nat → Nat) (sz : Nat) (p1 : Int) (hp1 : lR p1) (M : Mem) (hM : MR M) (Q : Mem → Prop) (hv : qX4_add p1 M Q) : Met l yX4_add (lw_w yX4_add cX4_add 3 none) (rmk 1 0 0) (kPc D τ sA sV (WX τ ad M) sz [.ref (ad 167), .long (lI p1)]) (gQv D (EQv (WX τ ad) MR Q) (va_A (WX τ ad M) sz)) 0 0 (va_A (WX τ ad M) sz) := by
  refine k_met (ret := none) (Qc := gQv D (EQv (WX τ ad) MR Q)) (by decide +kernel) (Nat.le_of_ble_eq_true rfl) ?_
  intro p e s m args below meth c A ls hx hb hml hr hlk hnm hC hLS hA hw hl
  have hC : cx D τ s m args RX4 := hC
  have hl : lv_has ls 3 [(0, .ref (ad 167)), (1, .long (lI p1))] := hl
  unfold qX4_add at hv
  refine lv_aload_n hx hb dX4_add_0 rfl (lv_at hl 0 rfl) ?_
  refine gf_X4_15 hx hb hC hw 167 (gX_167 τ ad M) rfl dX4_add_1 ?_
  refine r_top (fun x1 e1 => ?_)
  have g1 : iR x1 := by rw [e1]; exact hM.get (by decide) _
  have hv := hv x1 e1 g1
  refine r_bipush hx hb dX4_add_4 (by decide +kernel) ?_
  refine r_icmp_ge (tgt := 29) hx hb dX4_add_6 (by decide) g1 (by decide) (fun b2 => ?_) (fun b2 => ?_)
  · have hv := hv.1 b2
    exact k_vret (wq_X τ ad) hx hb hr hlk hw hM hv dX4_add_29
  · have hv := hv.2 b2
    refine lv_aload_n hx hb dX4_add_9 rfl (lv_at hl 0 rfl) ?_
    refine gf_X4_9 hx hb hC hw 167 (gX_167 τ ad M) rfl dX4_add_10 ?_
    refine lv_aload_n hx hb dX4_add_13 rfl (lv_at hl 0 rfl) ?_
    refine gf_X4_15 hx hb hC hw 167 (gX_167 τ ad M) rfl dX4_add_14 ?_
    refine r_top (fun x3 e3 => ?_)
    have g3 : iR x3 := by rw [e3]; exact hM.get (by decide) _
    have hv := hv x3 e3 g3
    refine lv_lload_n hx hb dX4_add_17 rfl (lv_at hl 1 rfl) ?_
    obtain ⟨c4, hv⟩ := hv
    obtain ⟨c5, hv⟩ := hv
    obtain ⟨M6, e6⟩ : ∃ M6 : Mem, M6 = up2 M 0 x3 p1 := ⟨_, rfl⟩
    have hv := hv M6 e6
    refine r_last (ws' := (WX τ ad M6)) hx hb hC hw 0 (gJ_X aX_0 τ ad M) c4 c5 (by decide) (by rw [e6]; exact sJ_X aX_0 τ ad M _ _) dX4_add_18 (fun H locs hw => ?_)
    have hM : MR M6 := by rw [e6]; exact hM.putL hp1
    refine lv_aload_n hx hb dX4_add_19 rfl (lv_at hl 0 rfl) ?_
    refine lv_dup hx hb dX4_add_20 rfl ?_
    refine gf_X4_15 hx hb hC hw 167 (gX_167 τ ad M6) rfl dX4_add_21 ?_
    refine r_top (fun x7 e7 => ?_)
    have g7 : iR x7 := by rw [e7]; exact hM.get (by decide) _
    have hv := hv x7 e7 g7
    refine r_iconst hx hb dX4_add_24 ?_
    refine r_iadd (z := (x7 + 1)) hx hb dX4_add_25 rfl ?_
    obtain ⟨c8, hv⟩ := hv
    obtain ⟨M9, e9⟩ : ∃ M9 : Mem, M9 = up2 M6 167 1 (x7 + 1) := ⟨_, rfl⟩
    have hv := hv M9 e9
    refine pf_X4_15 (ws' := (WX τ ad M9)) hx hb hC hw 167 (gX_167 τ ad M6) (Nat.le_of_ble_eq_true rfl) (by rw [e9]; exact sX_167_1 τ ad M6 _) dX4_add_26 (fun H locs hw => ?_)
    have hM : MR M9 := by rw [e9]; exact hM.put (by decide) c8
    exact k_vret (wq_X τ ad) hx hb hr hlk hw hM hv dX4_add_29
set_option maxHeartbeats 4000000 in
set_option maxRecDepth 100000 in
theorem mX4_clear (l : Launch) (D : va_G) (τ : Nat → ClassId) (ad : Nat → Nat) (sA sV : Nat → Nat) (sz : Nat)   (M : Mem) (hM : MR M) (Q : Mem → Prop) (hv : qX4_clear  M Q) : Met l yX4_clear (lw_w yX4_clear cX4_clear 1 none) (rmk 1 0 0) (kPc D τ sA sV (WX τ ad M) sz [.ref (ad 167)]) (gQv D (EQv (WX τ ad) MR Q) (va_A (WX τ ad M) sz)) 0 0 (va_A (WX τ ad M) sz) := by
  refine k_met (ret := none) (Qc := gQv D (EQv (WX τ ad) MR Q)) (by decide +kernel) (Nat.le_of_ble_eq_true rfl) ?_
  intro p e s m args below meth c A ls hx hb hml hr hlk hnm hC hLS hA hw hl
  have hC : cx D τ s m args RX4 := hC
  have hl : lv_has ls 1 [(0, .ref (ad 167))] := hl
  unfold qX4_clear at hv
  refine lv_aload_n hx hb dX4_clear_0 rfl (lv_at hl 0 rfl) ?_
  refine r_iconst hx hb dX4_clear_1 ?_
  obtain ⟨M1, e1⟩ : ∃ M1 : Mem, M1 = up2 M 167 1 0 := ⟨_, rfl⟩
  have hv := hv M1 e1
  refine pf_X4_15 (ws' := (WX τ ad M1)) hx hb hC hw 167 (gX_167 τ ad M) (Nat.le_of_ble_eq_true rfl) (by rw [e1]; exact sX_167_1 τ ad M _) dX4_clear_2 (fun H locs hw => ?_)
  have hM : MR M1 := by rw [e1]; exact hM.put (by decide) (by decide)
  exact k_vret (wq_X τ ad) hx hb hr hlk hw hM hv dX4_clear_5
set_option maxHeartbeats 4000000 in
set_option maxRecDepth 100000 in
theorem mX4_tellTwo (l : Launch) (D : va_G) (τ : Nat → ClassId) (ad : Nat → Nat) (sA sV : Nat → Nat) (sz : Nat) (p1 : Int) (p3 : Int) (hp1 : lR p1) (hp3 : lR p3) (M : Mem) (hM : MR M) (Q : Mem → Prop) (hv : qX4_tellTwo p1 p3 M Q) : Met l yX4_tellTwo (lw_w yX4_tellTwo cX4_tellTwo 5 none) (rmk 2 0 0) (kPc D τ sA sV (WX τ ad M) sz [.ref (ad 167), .long (lI p1), .long (lI p3)]) (gQv D (EQv (WX τ ad) MR Q) (va_A (WX τ ad M) sz)) 0 0 (va_A (WX τ ad M) sz) := by
  refine k_met (ret := none) (Qc := gQv D (EQv (WX τ ad) MR Q)) (by decide +kernel) (Nat.le_of_ble_eq_true rfl) ?_
  intro p e s m args below meth c A ls hx hb hml hr hlk hnm hC hLS hA hw hl
  have hC : cx D τ s m args RX4 := hC
  have hl : lv_has ls 5 [(0, .ref (ad 167)), (1, .long (lI p1)), (3, .long (lI p3))] := hl
  unfold qX4_tellTwo at hv
  refine lv_aload_n hx hb dX4_tellTwo_0 rfl (lv_at hl 0 rfl) ?_
  refine k_cVv (wq_X τ ad) hx hb hml hC hLS hA hw hl.1 (mX4_clear l D τ ad sA sV _   M hM _ hv) kX4_clear ml_X4_19 rfl (gX_167 τ ad M) rfl rfl (Nat.le_of_ble_eq_true rfl) (rm_ok (by decide) (by decide)) ⟨Nat.zero_le _, Nat.zero_le _⟩ dX4_tellTwo_1 (fun M1 H locs hM hv hw => ?_)
  refine lv_aload_n hx hb dX4_tellTwo_4 rfl (lv_at hl 0 rfl) ?_
  refine lv_lload_n hx hb dX4_tellTwo_5 rfl (lv_at hl 1 rfl) ?_
  refine k_cVv (wq_X τ ad) hx hb hml hC hLS hA hw hl.1 (mX4_add l D τ ad sA sV _ p1 hp1 M1 hM _ hv) kX4_add ml_X4_22 rfl (gX_167 τ ad M1) rfl rfl (Nat.le_of_ble_eq_true rfl) (rm_ok (by decide) (by decide)) ⟨Nat.zero_le _, Nat.zero_le _⟩ dX4_tellTwo_6 (fun M2 H locs hM hv hw => ?_)
  refine lv_aload_n hx hb dX4_tellTwo_9 rfl (lv_at hl 0 rfl) ?_
  refine lv_lload_n hx hb dX4_tellTwo_10 rfl (lv_at hl 2 rfl) ?_
  refine k_cVv (wq_X τ ad) hx hb hml hC hLS hA hw hl.1 (mX4_add l D τ ad sA sV _ p3 hp3 M2 hM _ hv) kX4_add ml_X4_22 rfl (gX_167 τ ad M2) rfl rfl (Nat.le_of_ble_eq_true rfl) (rm_ok (by decide) (by decide)) ⟨Nat.zero_le _, Nat.zero_le _⟩ dX4_tellTwo_11 (fun M3 H locs hM hv hw => ?_)
  exact k_vret (wq_X τ ad) hx hb hr hlk hw hM hv dX4_tellTwo_14
set_option maxHeartbeats 4000000 in
set_option maxRecDepth 100000 in
theorem mX11_steps (l : Launch) (D : va_G) (τ : Nat → ClassId) (ad : Nat → Nat) (sA sV : Nat → Nat) (sz : Nat) (p1 : Int) (hp1 : iR p1) (M : Mem) (hM : MR M) (Q : Int → Mem → Prop) (hv : qX11_steps p1 M Q) : Met l yX11_steps (lw_w yX11_steps cX11_steps 2 (some .int)) (rmk 6 0 0) (kPc D τ sA sV (WX τ ad M) sz [.ref (ad 155), .int (iI p1)]) (gQi D (EQi (WX τ ad) MR Q) (va_A (WX τ ad M) sz)) 0 0 (va_A (WX τ ad M) sz) := by
  refine k_met (ret := (some .int)) (Qc := gQi D (EQi (WX τ ad) MR Q)) (by decide +kernel) (Nat.le_of_ble_eq_true rfl) ?_
  intro p e s m args below meth c A ls hx hb hml hr hlk hnm hC hLS hA hw hl
  have hC : cx D τ s m args RX11 := hC
  have hl : lv_has ls 2 [(0, .ref (ad 155)), (1, .int (iI p1))] := hl
  unfold qX11_steps at hv
  refine lv_iload_n hx hb dX11_steps_0 rfl (lv_at hl 1 rfl) ?_
  refine r_if_lt (tgt := 10) hx hb dX11_steps_1 (by decide) hp1  (fun b1 => ?_) (fun b1 => ?_)
  · have hv := hv.1 b1
    refine r_iconst hx hb dX11_steps_10 ?_
    exact k_iret (wq_X τ ad) hx hb hr hlk hw hM (by decide) hv dX11_steps_11
  · have hv := hv.2 b1
    refine lv_iload_n hx hb dX11_steps_4 rfl (lv_at hl 1 rfl) ?_
    refine r_bipush hx hb dX11_steps_5 (by decide +kernel) ?_
    refine r_icmp_le (tgt := 12) hx hb dX11_steps_7 (by decide) hp1 (by decide) (fun b2 => ?_) (fun b2 => ?_)
    · have hv := hv.1 b2
      refine lv_aload_n hx hb dX11_steps_12 rfl (lv_at hl 0 rfl) ?_
      refine gf_X11_36 hx hb hC hw 155 (gX_155 τ ad M) rfl dX11_steps_13 ?_
      refine lv_aload_n hx hb dX11_steps_16 rfl (lv_at hl 0 rfl) ?_
      refine gf_X11_26 hx hb hC hw 155 (gX_155 τ ad M) rfl dX11_steps_17 ?_
      refine k_cVv (wq_X τ ad) hx hb hml hC hLS hA hw hl.1 (mX6_copyFrom l D τ ad sA sV _ 22 1 (by decide) (by decide) M hM _ hv) kX6_copyFrom ml_X11_153 rfl (gS_X (by decide) τ ad M) rfl rfl (Nat.le_of_ble_eq_true rfl) (rm_ok (by decide) (by decide)) ⟨Nat.zero_le _, Nat.zero_le _⟩ dX11_steps_20 (fun M3 H locs hM hv hw => ?_)
      refine lv_aload_n hx hb dX11_steps_23 rfl (lv_at hl 0 rfl) ?_
      refine gf_X11_44 hx hb hC hw 155 (gX_155 τ ad M3) rfl dX11_steps_24 ?_
      refine lv_aload_n hx hb dX11_steps_27 rfl (lv_at hl 0 rfl) ?_
      refine gf_X11_26 hx hb hC hw 155 (gX_155 τ ad M3) rfl dX11_steps_28 ?_
      refine lv_aload_n hx hb dX11_steps_31 rfl (lv_at hl 0 rfl) ?_
      refine gf_X11_105 hx hb hC hw 155 (gX_155 τ ad M3) rfl dX11_steps_32 ?_
      obtain ⟨c4, hv⟩ := hv
      refine lv_iload_n hx hb dX11_steps_35 rfl (lv_at hl 1 rfl) ?_
      refine k_cVv (wq_X τ ad) hx hb hml hC hLS hA hw hl.1 (mX10_walk l D τ ad sA sV _ 1 (M3 155 16).toNat p1 (by decide) c4 hp1 M3 hM _ hv) kX10_walk ml_X11_288 rfl (gX_160 τ ad M3) rfl rfl (Nat.le_of_ble_eq_true rfl) (rm_ok (by decide) (by decide)) ⟨Nat.zero_le _, Nat.zero_le _⟩ dX11_steps_36 (fun M5 H locs hM hv hw => ?_)
      refine lv_aload_n hx hb dX11_steps_39 rfl (lv_at hl 0 rfl) ?_
      refine gf_X11_66 hx hb hC hw 155 (gX_155 τ ad M5) rfl dX11_steps_40 ?_
      refine lv_aload_n hx hb dX11_steps_43 rfl (lv_at hl 0 rfl) ?_
      refine gf_X11_44 hx hb hC hw 155 (gX_155 τ ad M5) rfl dX11_steps_44 ?_
      refine gf_X11_292 hx hb hC hw 160 (gX_160 τ ad M5) rfl dX11_steps_47 ?_
      refine r_top (fun x6 e6 => ?_)
      have g6 : iR x6 := by rw [e6]; exact hM.get (by decide) _
      have hv := hv x6 e6 g6
      refine r_i2l hx hb dX11_steps_50 g6 ?_
      refine lv_aload_n hx hb dX11_steps_51 rfl (lv_at hl 0 rfl) ?_
      refine gf_X11_44 hx hb hC hw 155 (gX_155 τ ad M5) rfl dX11_steps_52 ?_
      refine gf_X11_295 hx hb hC hw 160 (gX_160 τ ad M5) rfl dX11_steps_55 ?_
      refine r_top (fun x7 e7 => ?_)
      have g7 : iR x7 := by rw [e7]; exact hM.get (by decide) _
      have hv := hv x7 e7 g7
      refine r_i2l hx hb dX11_steps_58 g7 ?_
      refine k_cVv (wq_X τ ad) hx hb hml hC hLS hA hw hl.1 (mX4_tellTwo l D τ ad sA sV _ x6 x7 (iR_lR g6) (iR_lR g7) M5 hM _ hv) kX4_tellTwo ml_X11_298 rfl (gX_167 τ ad M5) rfl rfl (Nat.le_of_ble_eq_true rfl) (rm_ok (by decide) (by decide)) ⟨Nat.zero_le _, Nat.zero_le _⟩ dX11_steps_59 (fun M8 H locs hM hv hw => ?_)
      refine lv_aload_n hx hb dX11_steps_62 rfl (lv_at hl 0 rfl) ?_
      refine lv_aload_n hx hb dX11_steps_63 rfl (lv_at hl 0 rfl) ?_
      refine gf_X11_26 hx hb hC hw 155 (gX_155 τ ad M8) rfl dX11_steps_64 ?_
      refine gf_X11_302 hx hb hC hw 1 (gS_X (by decide) τ ad M8) rfl dX11_steps_67 ?_
      refine r_top (fun x9 e9 => ?_)
      have g9 : iR x9 := by rw [e9]; exact hM.get (by decide) _
      have hv := hv x9 e9 g9
      refine k_cVi (wq_X τ ad) hx hb hml hC hLS hA hw hl.1 (mX11_undoable l D τ ad sA sV _ x9 g9 M8 hM _ hv) kX11_undoable ml_X11_305 rfl (gX_155 τ ad M8) rfl rfl (Nat.le_of_ble_eq_true rfl) (rm_ok (by decide) (by decide)) ⟨Nat.zero_le _, Nat.zero_le _⟩ dX11_steps_70 (fun x10 M10 H locs g10 hM hv hw => ?_)
      have hv := hv g10
      exact k_iret (wq_X τ ad) hx hb hr hlk hw hM g10 hv dX11_steps_73
    · have hv := hv.2 b2
      refine r_iconst hx hb dX11_steps_10 ?_
      exact k_iret (wq_X τ ad) hx hb hr hlk hw hM (by decide) hv dX11_steps_11
set_option maxHeartbeats 4000000 in
set_option maxRecDepth 100000 in
theorem mX6_isMourner (l : Launch) (D : va_G) (τ : Nat → ClassId) (ad : Nat → Nat) (sA sV : Nat → Nat) (sz : Nat) (k0 : Nat) (p1 : Int) (hk0 : isS k0) (hp1 : iR p1) (M : Mem) (hM : MR M) (Q : Int → Mem → Prop) (hv : qX6_isMourner k0 p1 M Q) : Met l yX6_isMourner (lw_w yX6_isMourner cX6_isMourner 2 (some .boolean)) (rmk 1 0 0) (kPc D τ sA sV (WX τ ad M) sz [.ref (ad k0), .int (iI p1)]) (gQi D (EQz (WX τ ad) MR Q) (va_A (WX τ ad M) sz)) 0 0 (va_A (WX τ ad M) sz) := by
  refine k_met (ret := (some .boolean)) (Qc := gQi D (EQz (WX τ ad) MR Q)) (by decide +kernel) (Nat.le_of_ble_eq_true rfl) ?_
  intro p e s m args below meth c A ls hx hb hml hr hlk hnm hC hLS hA hw hl
  have hC : cx D τ s m args RX6 := hC
  have hl : lv_has ls 2 [(0, .ref (ad k0)), (1, .int (iI p1))] := hl
  unfold qX6_isMourner at hv
  refine lv_iload_n hx hb dX6_isMourner_0 rfl (lv_at hl 1 rfl) ?_
  refine r_if_lt (tgt := 16) hx hb dX6_isMourner_1 (by decide) hp1  (fun b1 => ?_) (fun b1 => ?_)
  · have hv := hv.1 b1
    refine r_iconst hx hb dX6_isMourner_16 ?_
    exact k_zret (wq_X τ ad) hx hb hr hlk hw hM (by decide) (by decide) hv dX6_isMourner_17
  · have hv := hv.2 b1
    refine lv_iload_n hx hb dX6_isMourner_4 rfl (lv_at hl 1 rfl) ?_
    refine lv_aload_n hx hb dX6_isMourner_5 rfl (lv_at hl 0 rfl) ?_
    refine gf_X6_34 hx hb hC hw k0 (gS_X hk0 τ ad M) rfl dX6_isMourner_6 ?_
    refine r_top (fun x2 e2 => ?_)
    have g2 : iR x2 := by rw [e2]; exact hM.get hk0.pos _
    have hv := hv x2 e2 g2
    refine r_icmp_ge (tgt := 16) hx hb dX6_isMourner_9 (by decide) hp1 g2 (fun b3 => ?_) (fun b3 => ?_)
    · have hv := hv.1 b3
      refine r_iconst hx hb dX6_isMourner_16 ?_
      exact k_zret (wq_X τ ad) hx hb hr hlk hw hM (by decide) (by decide) hv dX6_isMourner_17
    · have hv := hv.2 b3
      refine r_iconst hx hb dX6_isMourner_12 ?_
      refine lv_goto (tgt := 17) hx hb dX6_isMourner_13 (by decide) ?_
      exact k_zret (wq_X τ ad) hx hb hr hlk hw hM (by decide) (by decide) hv dX6_isMourner_17
set_option maxHeartbeats 4000000 in
set_option maxRecDepth 100000 in
theorem mX6_turn (l : Launch) (D : va_G) (τ : Nat → ClassId) (ad : Nat → Nat) (sA sV : Nat → Nat) (sz : Nat) (k0 : Nat) (p1 : Int) (hk0 : isS k0) (hp1 : iR p1) (M : Mem) (hM : MR M) (Q : Int → Mem → Prop) (hv : qX6_turn k0 p1 M Q) : Met l yX6_turn (lw_w yX6_turn cX6_turn 3 (some .int)) (rmk 2 0 0) (kPc D τ sA sV (WX τ ad M) sz [.ref (ad k0), .int (iI p1)]) (gQi D (EQi (WX τ ad) MR Q) (va_A (WX τ ad M) sz)) 0 0 (va_A (WX τ ad M) sz) := by
  refine k_met (ret := (some .int)) (Qc := gQi D (EQi (WX τ ad) MR Q)) (by decide +kernel) (Nat.le_of_ble_eq_true rfl) ?_
  intro p e s m args below meth c A ls hx hb hml hr hlk hnm hC hLS hA hw hl
  have hC : cx D τ s m args RX6 := hC
  have hl : lv_has ls 3 [(0, .ref (ad k0)), (1, .int (iI p1))] := hl
  unfold qX6_turn at hv
  refine lv_aload_n hx hb dX6_turn_0 rfl (lv_at hl 0 rfl) ?_
  refine lv_iload_n hx hb dX6_turn_1 rfl (lv_at hl 1 rfl) ?_
  refine k_cVz (wq_X τ ad) hx hb hml hC hLS hA hw hl.1 (mX6_isMourner l D τ ad sA sV _ k0 p1 hk0 hp1 M hM _ hv) kX6_isMourner ml_X6_60 rfl (gS_X hk0 τ ad M) rfl rfl (Nat.le_of_ble_eq_true rfl) (rm_ok (by decide) (by decide)) ⟨Nat.zero_le _, Nat.zero_le _⟩ dX6_turn_2 (fun x1 M1 H locs g1 z1 hM hv hw => ?_)
  have hv := hv g1 z1
  refine r_if_ne (tgt := 10) hx hb dX6_turn_5 (by decide) g1  (fun b2 => ?_) (fun b2 => ?_)
  · have hv := hv.1 b2
    refine lv_aload_n hx hb dX6_turn_10 rfl (lv_at hl 0 rfl) ?_
    refine lv_iload_n hx hb dX6_turn_11 rfl (lv_at hl 1 rfl) ?_
    refine k_cVz (wq_X τ ad) hx hb hml hC hLS hA hw hl.1 (mX6_hasEnded l D τ ad sA sV _ k0 p1 hk0 hp1 M1 hM _ hv) kX6_hasEnded ml_X6_63 rfl (gS_X hk0 τ ad M1) rfl rfl (Nat.le_of_ble_eq_true rfl) (rm_ok (by decide) (by decide)) ⟨Nat.zero_le _, Nat.zero_le _⟩ dX6_turn_12 (fun x3 M3 H locs g3 z3 hM hv hw => ?_)
    have hv := hv g3 z3
    refine r_if_eq (tgt := 21) hx hb dX6_turn_15 (by decide) g3  (fun b4 => ?_) (fun b4 => ?_)
    · have hv := hv.1 b4
      refine lv_aload_n hx hb dX6_turn_21 rfl (lv_at hl 0 rfl) ?_
      refine gf_X6_24 hx hb hC hw k0 (gS_X hk0 τ ad M3) rfl dX6_turn_22 ?_
      refine lv_iload_n hx hb dX6_turn_25 rfl (lv_at hl 1 rfl) ?_
      obtain ⟨c5, hv⟩ := hv
      obtain ⟨c6, hv⟩ := hv
      refine r_iald hx hb hC hw (k0 + 5) (gI_X (isS_f4 hk0) τ ad M3) c5 c6 (by decide) dX6_turn_26 ?_
      refine r_top (fun x7 e7 => ?_)
      have g7 : iR x7 := by rw [e7]; exact hM.get (isS_f4 hk0).pos _
      have hv := hv x7 e7 g7
      refine lv_istore_n (lv' := [(2, .int (iI x7)), (0, .ref (ad k0)), (1, .int (iI p1))]) hx hb dX6_turn_27 rfl hl (by decide) rfl (fun ls hl => ?_)
      refine lv_aload_n hx hb dX6_turn_28 rfl (lv_at hl 1 rfl) ?_
      refine lv_aload_n hx hb dX6_turn_29 rfl (lv_at hl 1 rfl) ?_
      refine gf_X6_21 hx hb hC hw k0 (gS_X hk0 τ ad M3) rfl dX6_turn_30 ?_
      refine lv_iload_n hx hb dX6_turn_33 rfl (lv_at hl 2 rfl) ?_
      refine r_iald hx hb hC hw (k0 + 4) (gI_X (isS_f3 hk0) τ ad M3) c5 c6 (by decide) dX6_turn_34 ?_
      refine r_top (fun x8 e8 => ?_)
      have g8 : iR x8 := by rw [e8]; exact hM.get (isS_f3 hk0).pos _
      have hv := hv x8 e8 g8
      refine k_cVz (wq_X τ ad) hx hb hml hC hLS hA hw hl.1 (mX6_hasArrived l D τ ad sA sV _ k0 x8 hk0 g8 M3 hM _ hv) kX6_hasArrived ml_X6_56 rfl (gS_X hk0 τ ad M3) rfl rfl (Nat.le_of_ble_eq_true rfl) (rm_ok (by decide) (by decide)) ⟨Nat.zero_le _, Nat.zero_le _⟩ dX6_turn_35 (fun x9 M9 H locs g9 z9 hM hv hw => ?_)
      have hv := hv g9 z9
      refine r_if_ne (tgt := 51) hx hb dX6_turn_38 (by decide) g9  (fun b10 => ?_) (fun b10 => ?_)
      · have hv := hv.1 b10
        refine r_bipush hx hb dX6_turn_51 (by decide +kernel) ?_
        exact k_iret (wq_X τ ad) hx hb hr hlk hw hM (by decide) hv dX6_turn_53
      · have hv := hv.2 b10
        refine lv_iload_n hx hb dX6_turn_41 rfl (lv_at hl 0 rfl) ?_
        refine lv_aload_n hx hb dX6_turn_42 rfl (lv_at hl 1 rfl) ?_
        refine gf_X6_21 hx hb hC hw k0 (gS_X hk0 τ ad M9) rfl dX6_turn_43 ?_
        refine lv_iload_n hx hb dX6_turn_46 rfl (lv_at hl 2 rfl) ?_
        refine r_iald hx hb hC hw (k0 + 4) (gI_X (isS_f3 hk0) τ ad M9) c5 c6 (by decide) dX6_turn_47 ?_
        refine r_top (fun x11 e11 => ?_)
        have g11 : iR x11 := by rw [e11]; exact hM.get (isS_f3 hk0).pos _
        have hv := hv x11 e11 g11
        refine r_icmp_ne (tgt := 54) hx hb dX6_turn_48 (by decide) g7 g11 (fun b12 => ?_) (fun b12 => ?_)
        · have hv := hv.1 b12
          refine lv_aload_n hx hb dX6_turn_54 rfl (lv_at hl 1 rfl) ?_
          refine gf_X6_24 hx hb hC hw k0 (gS_X hk0 τ ad M9) rfl dX6_turn_55 ?_
          refine lv_iload_n hx hb dX6_turn_58 rfl (lv_at hl 2 rfl) ?_
          refine lv_aload_n hx hb dX6_turn_59 rfl (lv_at hl 1 rfl) ?_
          refine gf_X6_21 hx hb hC hw k0 (gS_X hk0 τ ad M9) rfl dX6_turn_60 ?_
          refine lv_iload_n hx hb dX6_turn_63 rfl (lv_at hl 2 rfl) ?_
          refine r_iald hx hb hC hw (k0 + 4) (gI_X (isS_f3 hk0) τ ad M9) c5 c6 (by decide) dX6_turn_64 ?_
          refine r_top (fun x13 e13 => ?_)
          have g13 : iR x13 := by rw [e13]; exact hM.get (isS_f3 hk0).pos _
          have hv := hv x13 e13 g13
          obtain ⟨M14, e14⟩ : ∃ M14 : Mem, M14 = up2 M9 (k0 + 5) p1 x13 := ⟨_, rfl⟩
          have hv := hv M14 e14
          refine r_iast (ws' := (WX τ ad M14)) hx hb hC hw (k0 + 5) (gI_X (isS_f4 hk0) τ ad M9) c5 c6 (by decide) (by rw [e14]; exact sI_X (isS_f4 hk0) τ ad M9 _ _) dX6_turn_65 (fun H locs hw => ?_)
          have hM : MR M14 := by rw [e14]; exact hM.put (isS_f4 hk0).pos g13
          refine lv_iload_n hx hb dX6_turn_66 rfl (lv_at hl 0 rfl) ?_
          refine r_iconst hx hb dX6_turn_67 ?_
          refine r_icmp_ne (tgt := 76) hx hb dX6_turn_68 (by decide) g7 (by decide) (fun b15 => ?_) (fun b15 => ?_)
          · have hv := hv.1 b15
            refine lv_iload_n hx hb dX6_turn_76 rfl (lv_at hl 0 rfl) ?_
            exact k_iret (wq_X τ ad) hx hb hr hlk hw hM g7 hv dX6_turn_77
          · have hv := hv.2 b15
            refine r_bipush hx hb dX6_turn_71 (by decide +kernel) ?_
            refine lv_goto (tgt := 77) hx hb dX6_turn_73 (by decide) ?_
            exact k_iret (wq_X τ ad) hx hb hr hlk hw hM (by decide) hv dX6_turn_77
        · have hv := hv.2 b12
          refine r_bipush hx hb dX6_turn_51 (by decide +kernel) ?_
          exact k_iret (wq_X τ ad) hx hb hr hlk hw hM (by decide) hv dX6_turn_53
    · have hv := hv.2 b4
      refine r_bipush hx hb dX6_turn_18 (by decide +kernel) ?_
      exact k_iret (wq_X τ ad) hx hb hr hlk hw hM (by decide) hv dX6_turn_20
  · have hv := hv.2 b2
    refine r_iconst hx hb dX6_turn_8 ?_
    exact k_iret (wq_X τ ad) hx hb hr hlk hw hM (by decide) hv dX6_turn_9
set_option maxHeartbeats 4000000 in
set_option maxRecDepth 100000 in
theorem mX11_turnsTo (l : Launch) (D : va_G) (τ : Nat → ClassId) (ad : Nat → Nat) (sA sV : Nat → Nat) (sz : Nat) (p1 : Int) (hp1 : iR p1) (M : Mem) (hM : MR M) (Q : Int → Mem → Prop) (hv : qX11_turnsTo p1 M Q) : Met l yX11_turnsTo (lw_w yX11_turnsTo cX11_turnsTo 2 (some .int)) (rmk 4 0 0) (kPc D τ sA sV (WX τ ad M) sz [.ref (ad 155), .int (iI p1)]) (gQi D (EQi (WX τ ad) MR Q) (va_A (WX τ ad M) sz)) 0 0 (va_A (WX τ ad M) sz) := by
  refine k_met (ret := (some .int)) (Qc := gQi D (EQi (WX τ ad) MR Q)) (by decide +kernel) (Nat.le_of_ble_eq_true rfl) ?_
  intro p e s m args below meth c A ls hx hb hml hr hlk hnm hC hLS hA hw hl
  have hC : cx D τ s m args RX11 := hC
  have hl : lv_has ls 2 [(0, .ref (ad 155)), (1, .int (iI p1))] := hl
  unfold qX11_turnsTo at hv
  refine lv_aload_n hx hb dX11_turnsTo_0 rfl (lv_at hl 0 rfl) ?_
  refine gf_X11_36 hx hb hC hw 155 (gX_155 τ ad M) rfl dX11_turnsTo_1 ?_
  refine lv_aload_n hx hb dX11_turnsTo_4 rfl (lv_at hl 0 rfl) ?_
  refine gf_X11_26 hx hb hC hw 155 (gX_155 τ ad M) rfl dX11_turnsTo_5 ?_
  refine k_cVv (wq_X τ ad) hx hb hml hC hLS hA hw hl.1 (mX6_copyFrom l D τ ad sA sV _ 22 1 (by decide) (by decide) M hM _ hv) kX6_copyFrom ml_X11_153 rfl (gS_X (by decide) τ ad M) rfl rfl (Nat.le_of_ble_eq_true rfl) (rm_ok (by decide) (by decide)) ⟨Nat.zero_le _, Nat.zero_le _⟩ dX11_turnsTo_8 (fun M1 H locs hM hv hw => ?_)
  refine lv_aload_n hx hb dX11_turnsTo_11 rfl (lv_at hl 0 rfl) ?_
  refine lv_aload_n hx hb dX11_turnsTo_12 rfl (lv_at hl 0 rfl) ?_
  refine gf_X11_26 hx hb hC hw 155 (gX_155 τ ad M1) rfl dX11_turnsTo_13 ?_
  refine lv_iload_n hx hb dX11_turnsTo_16 rfl (lv_at hl 1 rfl) ?_
  refine k_cVi (wq_X τ ad) hx hb hml hC hLS hA hw hl.1 (mX6_turn l D τ ad sA sV _ 1 p1 (by decide) hp1 M1 hM _ hv) kX6_turn ml_X11_308 rfl (gS_X (by decide) τ ad M1) rfl rfl (Nat.le_of_ble_eq_true rfl) (rm_ok (by decide) (by decide)) ⟨Nat.zero_le _, Nat.zero_le _⟩ dX11_turnsTo_17 (fun x2 M2 H locs g2 hM hv hw => ?_)
  have hv := hv g2
  refine k_cVi (wq_X τ ad) hx hb hml hC hLS hA hw hl.1 (mX11_undoable l D τ ad sA sV _ x2 g2 M2 hM _ hv) kX11_undoable ml_X11_305 rfl (gX_155 τ ad M2) rfl rfl (Nat.le_of_ble_eq_true rfl) (rm_ok (by decide) (by decide)) ⟨Nat.zero_le _, Nat.zero_le _⟩ dX11_turnsTo_20 (fun x3 M3 H locs g3 hM hv hw => ?_)
  have hv := hv g3
  exact k_iret (wq_X τ ad) hx hb hr hlk hw hM g3 hv dX11_turnsTo_23
set_option maxHeartbeats 4000000 in
set_option maxRecDepth 100000 in
theorem mX6_shove (l : Launch) (D : va_G) (τ : Nat → ClassId) (ad : Nat → Nat) (sA sV : Nat → Nat) (sz : Nat) (k0 : Nat) (p1 : Int) (p2 : Int) (hk0 : isS k0) (hp1 : iR p1) (hp2 : iR p2) (M : Mem) (hM : MR M) (Q : Int → Mem → Prop) (hv : qX6_shove k0 p1 p2 M Q) : Met l yX6_shove (lw_w yX6_shove cX6_shove 4 (some .int)) (rmk 3 0 0) (kPc D τ sA sV (WX τ ad M) sz [.ref (ad k0), .int (iI p1), .int (iI p2), .ref (ad 158)]) (gQi D (EQi (WX τ ad) MR Q) (va_A (WX τ ad M) sz)) 0 0 (va_A (WX τ ad M) sz) := by
  refine k_met (ret := (some .int)) (Qc := gQi D (EQi (WX τ ad) MR Q)) (by decide +kernel) (Nat.le_of_ble_eq_true rfl) ?_
  intro p e s m args below meth c A ls hx hb hml hr hlk hnm hC hLS hA hw hl
  have hC : cx D τ s m args RX6 := hC
  have hl : lv_has ls 4 [(0, .ref (ad k0)), (1, .int (iI p1)), (2, .int (iI p2)), (3, .ref (ad 158))] := hl
  unfold qX6_shove at hv
  refine lv_aload_n hx hb dX6_shove_0 rfl (lv_at hl 0 rfl) ?_
  refine lv_iload_n hx hb dX6_shove_1 rfl (lv_at hl 1 rfl) ?_
  refine k_cVz (wq_X τ ad) hx hb hml hC hLS hA hw hl.1 (mX6_isMourner l D τ ad sA sV _ k0 p1 hk0 hp1 M hM _ hv) kX6_isMourner ml_X6_60 rfl (gS_X hk0 τ ad M) rfl rfl (Nat.le_of_ble_eq_true rfl) (rm_ok (by decide) (by decide)) ⟨Nat.zero_le _, Nat.zero_le _⟩ dX6_shove_2 (fun x1 M1 H locs g1 z1 hM hv hw => ?_)
  have hv := hv g1 z1
  refine r_if_eq (tgt := 24) hx hb dX6_shove_5 (by decide) g1  (fun b2 => ?_) (fun b2 => ?_)
  · have hv := hv.1 b2
    refine r_iconst hx hb dX6_shove_24 ?_
    exact k_iret (wq_X τ ad) hx hb hr hlk hw hM (by decide) hv dX6_shove_25
  · have hv := hv.2 b2
    refine lv_iload_n hx hb dX6_shove_8 rfl (lv_at hl 2 rfl) ?_
    refine r_bipush hx hb dX6_shove_9 (by decide +kernel) ?_
    refine r_icmp_lt (tgt := 24) hx hb dX6_shove_11 (by decide) hp2 (by decide) (fun b3 => ?_) (fun b3 => ?_)
    · have hv := hv.1 b3
      refine r_iconst hx hb dX6_shove_24 ?_
      exact k_iret (wq_X τ ad) hx hb hr hlk hw hM (by decide) hv dX6_shove_25
    · have hv := hv.2 b3
      refine lv_iload_n hx hb dX6_shove_14 rfl (lv_at hl 2 rfl) ?_
      refine r_bipush hx hb dX6_shove_15 (by decide +kernel) ?_
      refine r_icmp_gt (tgt := 24) hx hb dX6_shove_17 (by decide) hp2 (by decide) (fun b4 => ?_) (fun b4 => ?_)
      · have hv := hv.1 b4
        refine r_iconst hx hb dX6_shove_24 ?_
        exact k_iret (wq_X τ ad) hx hb hr hlk hw hM (by decide) hv dX6_shove_25
      · have hv := hv.2 b4
        refine lv_iload_n hx hb dX6_shove_20 rfl (lv_at hl 2 rfl) ?_
        refine r_if_ne (tgt := 26) hx hb dX6_shove_21 (by decide) hp2  (fun b5 => ?_) (fun b5 => ?_)
        · have hv := hv.1 b5
          refine lv_aload_n hx hb dX6_shove_26 rfl (lv_at hl 0 rfl) ?_
          refine lv_iload_n hx hb dX6_shove_27 rfl (lv_at hl 1 rfl) ?_
          refine k_cVz (wq_X τ ad) hx hb hml hC hLS hA hw hl.1 (mX6_hasEnded l D τ ad sA sV _ k0 p1 hk0 hp1 M1 hM _ hv) kX6_hasEnded ml_X6_63 rfl (gS_X hk0 τ ad M1) rfl rfl (Nat.le_of_ble_eq_true rfl) (rm_ok (by decide) (by decide)) ⟨Nat.zero_le _, Nat.zero_le _⟩ dX6_shove_28 (fun x6 M6 H locs g6 z6 hM hv hw => ?_)
          have hv := hv g6 z6
          refine r_if_eq (tgt := 37) hx hb dX6_shove_31 (by decide) g6  (fun b7 => ?_) (fun b7 => ?_)
          · have hv := hv.1 b7
            refine lv_aload_n hx hb dX6_shove_37 rfl (lv_at hl 0 rfl) ?_
            refine gf_X6_18 hx hb hC hw k0 (gS_X hk0 τ ad M6) rfl dX6_shove_38 ?_
            refine lv_iload_n hx hb dX6_shove_41 rfl (lv_at hl 1 rfl) ?_
            refine lv_aload_n hx hb dX6_shove_42 rfl (lv_at hl 3 rfl) ?_
            refine lv_aload_n hx hb dX6_shove_43 rfl (lv_at hl 0 rfl) ?_
            refine gf_X6_18 hx hb hC hw k0 (gS_X hk0 τ ad M6) rfl dX6_shove_44 ?_
            refine lv_iload_n hx hb dX6_shove_47 rfl (lv_at hl 1 rfl) ?_
            obtain ⟨c8, hv⟩ := hv
            obtain ⟨c9, hv⟩ := hv
            refine r_iald hx hb hC hw (k0 + 3) (gI_X (isS_f2 hk0) τ ad M6) c8 c9 (by decide) dX6_shove_48 ?_
            refine r_top (fun x10 e10 => ?_)
            have g10 : iR x10 := by rw [e10]; exact hM.get (isS_f2 hk0).pos _
            have hv := hv x10 e10 g10
            refine lv_iload_n hx hb dX6_shove_49 rfl (lv_at hl 2 rfl) ?_
            refine r_iadd (z := (x10 + p2)) hx hb dX6_shove_50 rfl ?_
            obtain ⟨c11, hv⟩ := hv
            refine k_cVi (wq_X τ ad) hx hb hml hC hLS hA hw hl.1 (mX8_putOnStreet l D τ ad sA sV _ (x10 + p2) c11 M6 hM _ hv) kX8_putOnStreet ml_X6_66 rfl (gX_158 τ ad M6) rfl rfl (Nat.le_of_ble_eq_true rfl) (rm_ok (by decide) (by decide)) ⟨Nat.zero_le _, Nat.zero_le _⟩ dX6_shove_51 (fun x12 M12 H locs g12 hM hv hw => ?_)
            have hv := hv g12
            obtain ⟨M13, e13⟩ : ∃ M13 : Mem, M13 = up2 M12 (k0 + 3) p1 x12 := ⟨_, rfl⟩
            have hv := hv M13 e13
            refine r_iast (ws' := (WX τ ad M13)) hx hb hC hw (k0 + 3) (gI_X (isS_f2 hk0) τ ad M12) c8 c9 (by decide) (by rw [e13]; exact sI_X (isS_f2 hk0) τ ad M12 _ _) dX6_shove_54 (fun H locs hw => ?_)
            have hM : MR M13 := by rw [e13]; exact hM.put (isS_f2 hk0).pos g12
            refine lv_aload_n hx hb dX6_shove_55 rfl (lv_at hl 0 rfl) ?_
            refine gf_X6_18 hx hb hC hw k0 (gS_X hk0 τ ad M13) rfl dX6_shove_56 ?_
            refine lv_iload_n hx hb dX6_shove_59 rfl (lv_at hl 1 rfl) ?_
            refine r_iald hx hb hC hw (k0 + 3) (gI_X (isS_f2 hk0) τ ad M13) c8 c9 (by decide) dX6_shove_60 ?_
            refine r_top (fun x14 e14 => ?_)
            have g14 : iR x14 := by rw [e14]; exact hM.get (isS_f2 hk0).pos _
            have hv := hv x14 e14 g14
            exact k_iret (wq_X τ ad) hx hb hr hlk hw hM g14 hv dX6_shove_61
          · have hv := hv.2 b7
            refine r_bipush hx hb dX6_shove_34 (by decide +kernel) ?_
            exact k_iret (wq_X τ ad) hx hb hr hlk hw hM (by decide) hv dX6_shove_36
        · have hv := hv.2 b5
          refine r_iconst hx hb dX6_shove_24 ?_
          exact k_iret (wq_X τ ad) hx hb hr hlk hw hM (by decide) hv dX6_shove_25
set_option maxHeartbeats 4000000 in
set_option maxRecDepth 100000 in
theorem mX11_pushes (l : Launch) (D : va_G) (τ : Nat → ClassId) (ad : Nat → Nat) (sA sV : Nat → Nat) (sz : Nat) (p1 : Int) (p2 : Int) (hp1 : iR p1) (hp2 : iR p2) (M : Mem) (hM : MR M) (Q : Int → Mem → Prop) (hv : qX11_pushes p1 p2 M Q) : Met l yX11_pushes (lw_w yX11_pushes cX11_pushes 3 (some .int)) (rmk 4 0 0) (kPc D τ sA sV (WX τ ad M) sz [.ref (ad 155), .int (iI p1), .int (iI p2)]) (gQi D (EQi (WX τ ad) MR Q) (va_A (WX τ ad M) sz)) 0 0 (va_A (WX τ ad M) sz) := by
  refine k_met (ret := (some .int)) (Qc := gQi D (EQi (WX τ ad) MR Q)) (by decide +kernel) (Nat.le_of_ble_eq_true rfl) ?_
  intro p e s m args below meth c A ls hx hb hml hr hlk hnm hC hLS hA hw hl
  have hC : cx D τ s m args RX11 := hC
  have hl : lv_has ls 3 [(0, .ref (ad 155)), (1, .int (iI p1)), (2, .int (iI p2))] := hl
  unfold qX11_pushes at hv
  refine lv_aload_n hx hb dX11_pushes_0 rfl (lv_at hl 0 rfl) ?_
  refine gf_X11_36 hx hb hC hw 155 (gX_155 τ ad M) rfl dX11_pushes_1 ?_
  refine lv_aload_n hx hb dX11_pushes_4 rfl (lv_at hl 0 rfl) ?_
  refine gf_X11_26 hx hb hC hw 155 (gX_155 τ ad M) rfl dX11_pushes_5 ?_
  refine k_cVv (wq_X τ ad) hx hb hml hC hLS hA hw hl.1 (mX6_copyFrom l D τ ad sA sV _ 22 1 (by decide) (by decide) M hM _ hv) kX6_copyFrom ml_X11_153 rfl (gS_X (by decide) τ ad M) rfl rfl (Nat.le_of_ble_eq_true rfl) (rm_ok (by decide) (by decide)) ⟨Nat.zero_le _, Nat.zero_le _⟩ dX11_pushes_8 (fun M1 H locs hM hv hw => ?_)
  refine lv_aload_n hx hb dX11_pushes_11 rfl (lv_at hl 0 rfl) ?_
  refine lv_aload_n hx hb dX11_pushes_12 rfl (lv_at hl 0 rfl) ?_
  refine gf_X11_26 hx hb hC hw 155 (gX_155 τ ad M1) rfl dX11_pushes_13 ?_
  refine lv_iload_n hx hb dX11_pushes_16 rfl (lv_at hl 1 rfl) ?_
  refine lv_iload_n hx hb dX11_pushes_17 rfl (lv_at hl 2 rfl) ?_
  refine lv_aload_n hx hb dX11_pushes_18 rfl (lv_at hl 0 rfl) ?_
  refine gf_X11_19 hx hb hC hw 155 (gX_155 τ ad M1) rfl dX11_pushes_19 ?_
  refine k_cVi (wq_X τ ad) hx hb hml hC hLS hA hw hl.1 (mX6_shove l D τ ad sA sV _ 1 p1 p2 (by decide) hp1 hp2 M1 hM _ hv) kX6_shove ml_X11_311 rfl (gS_X (by decide) τ ad M1) rfl rfl (Nat.le_of_ble_eq_true rfl) (rm_ok (by decide) (by decide)) ⟨Nat.zero_le _, Nat.zero_le _⟩ dX11_pushes_22 (fun x2 M2 H locs g2 hM hv hw => ?_)
  have hv := hv g2
  refine k_cVi (wq_X τ ad) hx hb hml hC hLS hA hw hl.1 (mX11_undoable l D τ ad sA sV _ x2 g2 M2 hM _ hv) kX11_undoable ml_X11_305 rfl (gX_155 τ ad M2) rfl rfl (Nat.le_of_ble_eq_true rfl) (rm_ok (by decide) (by decide)) ⟨Nat.zero_le _, Nat.zero_le _⟩ dX11_pushes_25 (fun x3 M3 H locs g3 hM hv hw => ?_)
  have hv := hv g3
  exact k_iret (wq_X τ ad) hx hb hr hlk hw hM g3 hv dX11_pushes_28
set_option maxHeartbeats 4000000 in
set_option maxRecDepth 100000 in
theorem mX6_isHearse (l : Launch) (D : va_G) (τ : Nat → ClassId) (ad : Nat → Nat) (sA sV : Nat → Nat) (sz : Nat) (k0 : Nat) (p1 : Int) (hk0 : isS k0) (hp1 : iR p1) (M : Mem) (hM : MR M) (Q : Int → Mem → Prop) (hv : qX6_isHearse k0 p1 M Q) : Met l yX6_isHearse (lw_w yX6_isHearse cX6_isHearse 2 (some .boolean)) (rmk 1 0 0) (kPc D τ sA sV (WX τ ad M) sz [.ref (ad k0), .int (iI p1)]) (gQi D (EQz (WX τ ad) MR Q) (va_A (WX τ ad M) sz)) 0 0 (va_A (WX τ ad M) sz) := by
  refine k_met (ret := (some .boolean)) (Qc := gQi D (EQz (WX τ ad) MR Q)) (by decide +kernel) (Nat.le_of_ble_eq_true rfl) ?_
  intro p e s m args below meth c A ls hx hb hml hr hlk hnm hC hLS hA hw hl
  have hC : cx D τ s m args RX6 := hC
  have hl : lv_has ls 2 [(0, .ref (ad k0)), (1, .int (iI p1))] := hl
  unfold qX6_isHearse at hv
  refine lv_iload_n hx hb dX6_isHearse_0 rfl (lv_at hl 1 rfl) ?_
  refine r_if_lt (tgt := 16) hx hb dX6_isHearse_1 (by decide) hp1  (fun b1 => ?_) (fun b1 => ?_)
  · have hv := hv.1 b1
    refine r_iconst hx hb dX6_isHearse_16 ?_
    exact k_zret (wq_X τ ad) hx hb hr hlk hw hM (by decide) (by decide) hv dX6_isHearse_17
  · have hv := hv.2 b1
    refine lv_iload_n hx hb dX6_isHearse_4 rfl (lv_at hl 1 rfl) ?_
    refine lv_aload_n hx hb dX6_isHearse_5 rfl (lv_at hl 0 rfl) ?_
    refine gf_X6_30 hx hb hC hw k0 (gS_X hk0 τ ad M) rfl dX6_isHearse_6 ?_
    refine r_top (fun x2 e2 => ?_)
    have g2 : iR x2 := by rw [e2]; exact hM.get hk0.pos _
    have hv := hv x2 e2 g2
    refine r_icmp_ge (tgt := 16) hx hb dX6_isHearse_9 (by decide) hp1 g2 (fun b3 => ?_) (fun b3 => ?_)
    · have hv := hv.1 b3
      refine r_iconst hx hb dX6_isHearse_16 ?_
      exact k_zret (wq_X τ ad) hx hb hr hlk hw hM (by decide) (by decide) hv dX6_isHearse_17
    · have hv := hv.2 b3
      refine r_iconst hx hb dX6_isHearse_12 ?_
      refine lv_goto (tgt := 17) hx hb dX6_isHearse_13 (by decide) ?_
      exact k_zret (wq_X τ ad) hx hb hr hlk hw hM (by decide) (by decide) hv dX6_isHearse_17
set_option maxHeartbeats 4000000 in
set_option maxRecDepth 100000 in
theorem mX6_exchange (l : Launch) (D : va_G) (τ : Nat → ClassId) (ad : Nat → Nat) (sA sV : Nat → Nat) (sz : Nat) (k0 : Nat) (p1 : Int) (p2 : Int) (hk0 : isS k0) (hp1 : iR p1) (hp2 : iR p2) (M : Mem) (hM : MR M) (Q : Int → Mem → Prop) (hv : qX6_exchange k0 p1 p2 M Q) : Met l yX6_exchange (lw_w yX6_exchange cX6_exchange 4 (some .int)) (rmk 2 0 0) (kPc D τ sA sV (WX τ ad M) sz [.ref (ad k0), .int (iI p1), .int (iI p2)]) (gQi D (EQi (WX τ ad) MR Q) (va_A (WX τ ad M) sz)) 0 0 (va_A (WX τ ad M) sz) := by
  refine k_met (ret := (some .int)) (Qc := gQi D (EQi (WX τ ad) MR Q)) (by decide +kernel) (Nat.le_of_ble_eq_true rfl) ?_
  intro p e s m args below meth c A ls hx hb hml hr hlk hnm hC hLS hA hw hl
  have hC : cx D τ s m args RX6 := hC
  have hl : lv_has ls 4 [(0, .ref (ad k0)), (1, .int (iI p1)), (2, .int (iI p2))] := hl
  unfold qX6_exchange at hv
  refine lv_aload_n hx hb dX6_exchange_0 rfl (lv_at hl 0 rfl) ?_
  refine lv_iload_n hx hb dX6_exchange_1 rfl (lv_at hl 1 rfl) ?_
  refine k_cVz (wq_X τ ad) hx hb hml hC hLS hA hw hl.1 (mX6_isHearse l D τ ad sA sV _ k0 p1 hk0 hp1 M hM _ hv) kX6_isHearse ml_X6_72 rfl (gS_X hk0 τ ad M) rfl rfl (Nat.le_of_ble_eq_true rfl) (rm_ok (by decide) (by decide)) ⟨Nat.zero_le _, Nat.zero_le _⟩ dX6_exchange_2 (fun x1 M1 H locs g1 z1 hM hv hw => ?_)
  have hv := hv g1 z1
  refine r_if_eq (tgt := 21) hx hb dX6_exchange_5 (by decide) g1  (fun b2 => ?_) (fun b2 => ?_)
  · have hv := hv.1 b2
    refine r_iconst hx hb dX6_exchange_21 ?_
    exact k_iret (wq_X τ ad) hx hb hr hlk hw hM (by decide) hv dX6_exchange_22
  · have hv := hv.2 b2
    refine lv_aload_n hx hb dX6_exchange_8 rfl (lv_at hl 0 rfl) ?_
    refine lv_iload_n hx hb dX6_exchange_9 rfl (lv_at hl 2 rfl) ?_
    refine k_cVz (wq_X τ ad) hx hb hml hC hLS hA hw hl.1 (mX6_isHearse l D τ ad sA sV _ k0 p2 hk0 hp2 M1 hM _ hv) kX6_isHearse ml_X6_72 rfl (gS_X hk0 τ ad M1) rfl rfl (Nat.le_of_ble_eq_true rfl) (rm_ok (by decide) (by decide)) ⟨Nat.zero_le _, Nat.zero_le _⟩ dX6_exchange_10 (fun x3 M3 H locs g3 z3 hM hv hw => ?_)
    have hv := hv g3 z3
    refine r_if_eq (tgt := 21) hx hb dX6_exchange_13 (by decide) g3  (fun b4 => ?_) (fun b4 => ?_)
    · have hv := hv.1 b4
      refine r_iconst hx hb dX6_exchange_21 ?_
      exact k_iret (wq_X τ ad) hx hb hr hlk hw hM (by decide) hv dX6_exchange_22
    · have hv := hv.2 b4
      refine lv_iload_n hx hb dX6_exchange_16 rfl (lv_at hl 1 rfl) ?_
      refine lv_iload_n hx hb dX6_exchange_17 rfl (lv_at hl 2 rfl) ?_
      refine r_icmp_ne (tgt := 23) hx hb dX6_exchange_18 (by decide) hp1 hp2 (fun b5 => ?_) (fun b5 => ?_)
      · have hv := hv.1 b5
        refine lv_aload_n hx hb dX6_exchange_23 rfl (lv_at hl 0 rfl) ?_
        refine lv_iload_n hx hb dX6_exchange_24 rfl (lv_at hl 1 rfl) ?_
        refine k_cVz (wq_X τ ad) hx hb hml hC hLS hA hw hl.1 (mX6_hasArrived l D τ ad sA sV _ k0 p1 hk0 hp1 M3 hM _ hv) kX6_hasArrived ml_X6_56 rfl (gS_X hk0 τ ad M3) rfl rfl (Nat.le_of_ble_eq_true rfl) (rm_ok (by decide) (by decide)) ⟨Nat.zero_le _, Nat.zero_le _⟩ dX6_exchange_25 (fun x6 M6 H locs g6 z6 hM hv hw => ?_)
        have hv := hv g6 z6
        refine r_if_ne (tgt := 39) hx hb dX6_exchange_28 (by decide) g6  (fun b7 => ?_) (fun b7 => ?_)
        · have hv := hv.1 b7
          refine r_bipush hx hb dX6_exchange_39 (by decide +kernel) ?_
          exact k_iret (wq_X τ ad) hx hb hr hlk hw hM (by decide) hv dX6_exchange_41
        · have hv := hv.2 b7
          refine lv_aload_n hx hb dX6_exchange_31 rfl (lv_at hl 0 rfl) ?_
          refine lv_iload_n hx hb dX6_exchange_32 rfl (lv_at hl 2 rfl) ?_
          refine k_cVz (wq_X τ ad) hx hb hml hC hLS hA hw hl.1 (mX6_hasArrived l D τ ad sA sV _ k0 p2 hk0 hp2 M6 hM _ hv) kX6_hasArrived ml_X6_56 rfl (gS_X hk0 τ ad M6) rfl rfl (Nat.le_of_ble_eq_true rfl) (rm_ok (by decide) (by decide)) ⟨Nat.zero_le _, Nat.zero_le _⟩ dX6_exchange_33 (fun x8 M8 H locs g8 z8 hM hv hw => ?_)
          have hv := hv g8 z8
          refine r_if_eq (tgt := 42) hx hb dX6_exchange_36 (by decide) g8  (fun b9 => ?_) (fun b9 => ?_)
          · have hv := hv.1 b9
            refine lv_aload_n hx hb dX6_exchange_42 rfl (lv_at hl 0 rfl) ?_
            refine gf_X6_9 hx hb hC hw k0 (gS_X hk0 τ ad M8) rfl dX6_exchange_43 ?_
            refine lv_iload_n hx hb dX6_exchange_46 rfl (lv_at hl 1 rfl) ?_
            obtain ⟨c10, hv⟩ := hv
            obtain ⟨c11, hv⟩ := hv
            refine r_iald hx hb hC hw (k0 + 1) (gI_X (isS_f0 hk0) τ ad M8) c10 c11 (by decide) dX6_exchange_47 ?_
            refine r_top (fun x12 e12 => ?_)
            have g12 : iR x12 := by rw [e12]; exact hM.get (isS_f0 hk0).pos _
            have hv := hv x12 e12 g12
            refine lv_istore_n (lv' := [(3, .int (iI x12)), (0, .ref (ad k0)), (1, .int (iI p1)), (2, .int (iI p2))]) hx hb dX6_exchange_48 rfl hl (by decide) rfl (fun ls hl => ?_)
            refine lv_aload_n hx hb dX6_exchange_49 rfl (lv_at hl 1 rfl) ?_
            refine gf_X6_9 hx hb hC hw k0 (gS_X hk0 τ ad M8) rfl dX6_exchange_50 ?_
            refine lv_iload_n hx hb dX6_exchange_53 rfl (lv_at hl 2 rfl) ?_
            refine lv_aload_n hx hb dX6_exchange_54 rfl (lv_at hl 1 rfl) ?_
            refine gf_X6_9 hx hb hC hw k0 (gS_X hk0 τ ad M8) rfl dX6_exchange_55 ?_
            refine lv_iload_n hx hb dX6_exchange_58 rfl (lv_at hl 3 rfl) ?_
            obtain ⟨c13, hv⟩ := hv
            obtain ⟨c14, hv⟩ := hv
            refine r_iald hx hb hC hw (k0 + 1) (gI_X (isS_f0 hk0) τ ad M8) c13 c14 (by decide) dX6_exchange_59 ?_
            refine r_top (fun x15 e15 => ?_)
            have g15 : iR x15 := by rw [e15]; exact hM.get (isS_f0 hk0).pos _
            have hv := hv x15 e15 g15
            obtain ⟨M16, e16⟩ : ∃ M16 : Mem, M16 = up2 M8 (k0 + 1) p1 x15 := ⟨_, rfl⟩
            have hv := hv M16 e16
            refine r_iast (ws' := (WX τ ad M16)) hx hb hC hw (k0 + 1) (gI_X (isS_f0 hk0) τ ad M8) c10 c11 (by decide) (by rw [e16]; exact sI_X (isS_f0 hk0) τ ad M8 _ _) dX6_exchange_60 (fun H locs hw => ?_)
            have hM : MR M16 := by rw [e16]; exact hM.put (isS_f0 hk0).pos g15
            refine lv_aload_n hx hb dX6_exchange_61 rfl (lv_at hl 1 rfl) ?_
            refine gf_X6_9 hx hb hC hw k0 (gS_X hk0 τ ad M16) rfl dX6_exchange_62 ?_
            refine lv_iload_n hx hb dX6_exchange_65 rfl (lv_at hl 3 rfl) ?_
            refine lv_iload_n hx hb dX6_exchange_66 rfl (lv_at hl 0 rfl) ?_
            obtain ⟨M17, e17⟩ : ∃ M17 : Mem, M17 = up2 M16 (k0 + 1) p2 x12 := ⟨_, rfl⟩
            have hv := hv M17 e17
            refine r_iast (ws' := (WX τ ad M17)) hx hb hC hw (k0 + 1) (gI_X (isS_f0 hk0) τ ad M16) c13 c14 (by decide) (by rw [e17]; exact sI_X (isS_f0 hk0) τ ad M16 _ _) dX6_exchange_67 (fun H locs hw => ?_)
            have hM : MR M17 := by rw [e17]; exact hM.put (isS_f0 hk0).pos g12
            refine lv_aload_n hx hb dX6_exchange_68 rfl (lv_at hl 1 rfl) ?_
            refine gf_X6_9 hx hb hC hw k0 (gS_X hk0 τ ad M17) rfl dX6_exchange_69 ?_
            refine lv_iload_n hx hb dX6_exchange_72 rfl (lv_at hl 2 rfl) ?_
            refine r_iald hx hb hC hw (k0 + 1) (gI_X (isS_f0 hk0) τ ad M17) c10 c11 (by decide) dX6_exchange_73 ?_
            refine r_top (fun x18 e18 => ?_)
            have g18 : iR x18 := by rw [e18]; exact hM.get (isS_f0 hk0).pos _
            have hv := hv x18 e18 g18
            refine lv_aload_n hx hb dX6_exchange_74 rfl (lv_at hl 1 rfl) ?_
            refine gf_X6_9 hx hb hC hw k0 (gS_X hk0 τ ad M17) rfl dX6_exchange_75 ?_
            refine lv_iload_n hx hb dX6_exchange_78 rfl (lv_at hl 3 rfl) ?_
            refine r_iald hx hb hC hw (k0 + 1) (gI_X (isS_f0 hk0) τ ad M17) c13 c14 (by decide) dX6_exchange_79 ?_
            refine r_top (fun x19 e19 => ?_)
            have g19 : iR x19 := by rw [e19]; exact hM.get (isS_f0 hk0).pos _
            have hv := hv x19 e19 g19
            refine r_isub (z := (x18 - x19)) hx hb dX6_exchange_80 rfl ?_
            obtain ⟨c20, hv⟩ := hv
            refine r_mabs hx hb hml hC hl.1 ml_X6_75 sm_abs in_J9 cd_abs (by decide) (Nat.le_of_ble_eq_true rfl) (Nat.zero_le _) (Nat.zero_le _) c20 dX6_exchange_81 (fun x21 e21 g21 => ?_)
            have hv := hv x21 e21 g21
            obtain ⟨c22, hv⟩ := hv
            exact k_iret (wq_X τ ad) hx hb hr hlk hw hM c22 hv dX6_exchange_84
          · have hv := hv.2 b9
            refine r_bipush hx hb dX6_exchange_39 (by decide +kernel) ?_
            exact k_iret (wq_X τ ad) hx hb hr hlk hw hM (by decide) hv dX6_exchange_41
      · have hv := hv.2 b5
        refine r_iconst hx hb dX6_exchange_21 ?_
        exact k_iret (wq_X τ ad) hx hb hr hlk hw hM (by decide) hv dX6_exchange_22
set_option maxHeartbeats 4000000 in
set_option maxRecDepth 100000 in
theorem mX11_swaps (l : Launch) (D : va_G) (τ : Nat → ClassId) (ad : Nat → Nat) (sA sV : Nat → Nat) (sz : Nat) (p1 : Int) (p2 : Int) (hp1 : iR p1) (hp2 : iR p2) (M : Mem) (hM : MR M) (Q : Int → Mem → Prop) (hv : qX11_swaps p1 p2 M Q) : Met l yX11_swaps (lw_w yX11_swaps cX11_swaps 3 (some .int)) (rmk 4 0 0) (kPc D τ sA sV (WX τ ad M) sz [.ref (ad 155), .int (iI p1), .int (iI p2)]) (gQi D (EQi (WX τ ad) MR Q) (va_A (WX τ ad M) sz)) 0 0 (va_A (WX τ ad M) sz) := by
  refine k_met (ret := (some .int)) (Qc := gQi D (EQi (WX τ ad) MR Q)) (by decide +kernel) (Nat.le_of_ble_eq_true rfl) ?_
  intro p e s m args below meth c A ls hx hb hml hr hlk hnm hC hLS hA hw hl
  have hC : cx D τ s m args RX11 := hC
  have hl : lv_has ls 3 [(0, .ref (ad 155)), (1, .int (iI p1)), (2, .int (iI p2))] := hl
  unfold qX11_swaps at hv
  refine lv_aload_n hx hb dX11_swaps_0 rfl (lv_at hl 0 rfl) ?_
  refine gf_X11_36 hx hb hC hw 155 (gX_155 τ ad M) rfl dX11_swaps_1 ?_
  refine lv_aload_n hx hb dX11_swaps_4 rfl (lv_at hl 0 rfl) ?_
  refine gf_X11_26 hx hb hC hw 155 (gX_155 τ ad M) rfl dX11_swaps_5 ?_
  refine k_cVv (wq_X τ ad) hx hb hml hC hLS hA hw hl.1 (mX6_copyFrom l D τ ad sA sV _ 22 1 (by decide) (by decide) M hM _ hv) kX6_copyFrom ml_X11_153 rfl (gS_X (by decide) τ ad M) rfl rfl (Nat.le_of_ble_eq_true rfl) (rm_ok (by decide) (by decide)) ⟨Nat.zero_le _, Nat.zero_le _⟩ dX11_swaps_8 (fun M1 H locs hM hv hw => ?_)
  refine lv_aload_n hx hb dX11_swaps_11 rfl (lv_at hl 0 rfl) ?_
  refine lv_aload_n hx hb dX11_swaps_12 rfl (lv_at hl 0 rfl) ?_
  refine gf_X11_26 hx hb hC hw 155 (gX_155 τ ad M1) rfl dX11_swaps_13 ?_
  refine lv_iload_n hx hb dX11_swaps_16 rfl (lv_at hl 1 rfl) ?_
  refine lv_iload_n hx hb dX11_swaps_17 rfl (lv_at hl 2 rfl) ?_
  refine k_cVi (wq_X τ ad) hx hb hml hC hLS hA hw hl.1 (mX6_exchange l D τ ad sA sV _ 1 p1 p2 (by decide) hp1 hp2 M1 hM _ hv) kX6_exchange ml_X11_315 rfl (gS_X (by decide) τ ad M1) rfl rfl (Nat.le_of_ble_eq_true rfl) (rm_ok (by decide) (by decide)) ⟨Nat.zero_le _, Nat.zero_le _⟩ dX11_swaps_18 (fun x2 M2 H locs g2 hM hv hw => ?_)
  have hv := hv g2
  refine k_cVi (wq_X τ ad) hx hb hml hC hLS hA hw hl.1 (mX11_undoable l D τ ad sA sV _ x2 g2 M2 hM _ hv) kX11_undoable ml_X11_305 rfl (gX_155 τ ad M2) rfl rfl (Nat.le_of_ble_eq_true rfl) (rm_ok (by decide) (by decide)) ⟨Nat.zero_le _, Nat.zero_le _⟩ dX11_swaps_21 (fun x3 M3 H locs g3 hM hv hw => ?_)
  have hv := hv g3
  exact k_iret (wq_X τ ad) hx hb hr hlk hw hM g3 hv dX11_swaps_24
set_option maxHeartbeats 4000000 in
set_option maxRecDepth 100000 in
theorem mX11_doAct (l : Launch) (D : va_G) (τ : Nat → ClassId) (ad : Nat → Nat) (sA sV : Nat → Nat) (sz : Nat)   (M : Mem) (hM : MR M) (Q : Int → Mem → Prop) (hv : qX11_doAct  M Q) : Met l yX11_doAct (lw_w yX11_doAct cX11_doAct 3 (some .int)) (rmk 6 0 0) (kPc D τ sA sV (WX τ ad M) sz [.ref (ad 155)]) (gQi D (EQi (WX τ ad) MR Q) (va_A (WX τ ad M) sz)) 0 0 (va_A (WX τ ad M) sz) := by
  refine k_met (ret := (some .int)) (Qc := gQi D (EQi (WX τ ad) MR Q)) (by decide +kernel) (Nat.le_of_ble_eq_true rfl) ?_
  intro p e s m args below meth c A ls hx hb hml hr hlk hnm hC hLS hA hw hl
  have hC : cx D τ s m args RX11 := hC
  have hl : lv_has ls 3 [(0, .ref (ad 155))] := hl
  unfold qX11_doAct at hv
  refine lv_aload_n hx hb dX11_doAct_0 rfl (lv_at hl 0 rfl) ?_
  refine gf_X11_10 hx hb hC hw 155 (gX_155 τ ad M) rfl dX11_doAct_1 ?_
  refine k_cVi (wq_X τ ad) hx hb hml hC hLS hA hw hl.1 (mX9_look l D τ ad sA sV _   M hM _ hv) kX9_look ml_X11_194 rfl (gX_156 τ ad M) rfl rfl (Nat.le_of_ble_eq_true rfl) (rm_ok (by decide) (by decide)) ⟨Nat.zero_le _, Nat.zero_le _⟩ dX11_doAct_4 (fun x1 M1 H locs g1 hM hv hw => ?_)
  have hv := hv g1
  refine lv_istore_n (lv' := [(1, .int (iI x1)), (0, .ref (ad 155))]) hx hb dX11_doAct_7 rfl hl (by decide) rfl (fun ls hl => ?_)
  refine lv_aload_n hx hb dX11_doAct_8 rfl (lv_at hl 1 rfl) ?_
  refine gf_X11_10 hx hb hC hw 155 (gX_155 τ ad M1) rfl dX11_doAct_9 ?_
  refine k_cVv (wq_X τ ad) hx hb hml hC hLS hA hw hl.1 (mX9_pass l D τ ad sA sV _   M1 hM _ hv) kX9_pass ml_X11_197 rfl (gX_156 τ ad M1) rfl rfl (Nat.le_of_ble_eq_true rfl) (rm_ok (by decide) (by decide)) ⟨Nat.zero_le _, Nat.zero_le _⟩ dX11_doAct_12 (fun M2 H locs hM hv hw => ?_)
  refine lv_aload_n hx hb dX11_doAct_15 rfl (lv_at hl 1 rfl) ?_
  refine gf_X11_10 hx hb hC hw 155 (gX_155 τ ad M2) rfl dX11_doAct_16 ?_
  refine k_cVi (wq_X τ ad) hx hb hml hC hLS hA hw hl.1 (mX9_digit l D τ ad sA sV _   M2 hM _ hv) kX9_digit ml_X11_339 rfl (gX_156 τ ad M2) rfl rfl (Nat.le_of_ble_eq_true rfl) (rm_ok (by decide) (by decide)) ⟨Nat.zero_le _, Nat.zero_le _⟩ dX11_doAct_19 (fun x3 M3 H locs g3 hM hv hw => ?_)
  have hv := hv g3
  refine lv_istore_n (lv' := [(2, .int (iI x3)), (1, .int (iI x1)), (0, .ref (ad 155))]) hx hb dX11_doAct_22 rfl hl (by decide) rfl (fun ls hl => ?_)
  refine lv_iload_n hx hb dX11_doAct_23 rfl (lv_at hl 1 rfl) ?_
  rcases (show x1 = 98 ∨ x1 = 110 ∨ x1 = 112 ∨ x1 = 116 ∨ (¬ x1 = 98 ∧ ¬ x1 = 110 ∧ ¬ x1 = 112 ∧ ¬ x1 = 116) by omega) with b4 | b4 | b4 | b4 | b4
  · refine r_lkI (tgt := 121) hx hb dX11_doAct_24 g1 (by decide) (by rw [b4]; first | done | rfl) (by decide) ?_
    have hv := hv.1 b4
    refine lv_aload_n hx hb dX11_doAct_121 rfl (lv_at hl 2 rfl) ?_
    refine gf_X11_26 hx hb hC hw 155 (gX_155 τ ad M3) rfl dX11_doAct_122 ?_
    refine lv_iload_n hx hb dX11_doAct_125 rfl (lv_at hl 0 rfl) ?_
    refine lv_aload_n hx hb dX11_doAct_126 rfl (lv_at hl 2 rfl) ?_
    refine gf_X11_10 hx hb hC hw 155 (gX_155 τ ad M3) rfl dX11_doAct_127 ?_
    refine k_cVi (wq_X τ ad) hx hb hml hC hLS hA hw hl.1 (mX9_digit l D τ ad sA sV _   M3 hM _ hv) kX9_digit ml_X11_339 rfl (gX_156 τ ad M3) rfl rfl (Nat.le_of_ble_eq_true rfl) (rm_ok (by decide) (by decide)) ⟨Nat.zero_le _, Nat.zero_le _⟩ dX11_doAct_130 (fun x5 M5 H locs g5 hM hv hw => ?_)
    have hv := hv g5
    refine r_ineg (z := (-x5)) hx hb dX11_doAct_133 rfl ?_
    refine lv_aload_n hx hb dX11_doAct_134 rfl (lv_at hl 2 rfl) ?_
    refine gf_X11_19 hx hb hC hw 155 (gX_155 τ ad M5) rfl dX11_doAct_135 ?_
    obtain ⟨c6, hv⟩ := hv
    refine k_cVi (wq_X τ ad) hx hb hml hC hLS hA hw hl.1 (mX6_shove l D τ ad sA sV _ 1 x3 (-x5) (by decide) g3 c6 M5 hM _ hv) kX6_shove ml_X11_311 rfl (gS_X (by decide) τ ad M5) rfl rfl (Nat.le_of_ble_eq_true rfl) (rm_ok (by decide) (by decide)) ⟨Nat.zero_le _, Nat.zero_le _⟩ dX11_doAct_138 (fun x7 M7 H locs g7 hM hv hw => ?_)
    have hv := hv g7
    exact k_iret (wq_X τ ad) hx hb hr hlk hw hM g7 hv dX11_doAct_141
  · refine r_lkI (tgt := 68) hx hb dX11_doAct_24 g1 (by decide) (by rw [b4]; first | done | rfl) (by decide) ?_
    have hv := hv.2.1 b4
    refine lv_aload_n hx hb dX11_doAct_68 rfl (lv_at hl 2 rfl) ?_
    refine gf_X11_44 hx hb hC hw 155 (gX_155 τ ad M3) rfl dX11_doAct_69 ?_
    refine lv_aload_n hx hb dX11_doAct_72 rfl (lv_at hl 2 rfl) ?_
    refine gf_X11_26 hx hb hC hw 155 (gX_155 τ ad M3) rfl dX11_doAct_73 ?_
    refine lv_aload_n hx hb dX11_doAct_76 rfl (lv_at hl 2 rfl) ?_
    refine gf_X11_105 hx hb hC hw 155 (gX_155 τ ad M3) rfl dX11_doAct_77 ?_
    obtain ⟨c8, hv⟩ := hv
    refine lv_iload_n hx hb dX11_doAct_80 rfl (lv_at hl 0 rfl) ?_
    refine k_cVv (wq_X τ ad) hx hb hml hC hLS hA hw hl.1 (mX10_walk l D τ ad sA sV _ 1 (M3 155 16).toNat x3 (by decide) c8 g3 M3 hM _ hv) kX10_walk ml_X11_288 rfl (gX_160 τ ad M3) rfl rfl (Nat.le_of_ble_eq_true rfl) (rm_ok (by decide) (by decide)) ⟨Nat.zero_le _, Nat.zero_le _⟩ dX11_doAct_81 (fun M9 H locs hM hv hw => ?_)
    refine lv_aload_n hx hb dX11_doAct_84 rfl (lv_at hl 2 rfl) ?_
    refine gf_X11_26 hx hb hC hw 155 (gX_155 τ ad M9) rfl dX11_doAct_85 ?_
    refine gf_X11_302 hx hb hC hw 1 (gS_X (by decide) τ ad M9) rfl dX11_doAct_88 ?_
    refine r_top (fun x10 e10 => ?_)
    have g10 : iR x10 := by rw [e10]; exact hM.get (by decide) _
    have hv := hv x10 e10 g10
    exact k_iret (wq_X τ ad) hx hb hr hlk hw hM g10 hv dX11_doAct_91
  · refine r_lkI (tgt := 101) hx hb dX11_doAct_24 g1 (by decide) (by rw [b4]; first | done | rfl) (by decide) ?_
    have hv := hv.2.2.1 b4
    refine lv_aload_n hx hb dX11_doAct_101 rfl (lv_at hl 2 rfl) ?_
    refine gf_X11_26 hx hb hC hw 155 (gX_155 τ ad M3) rfl dX11_doAct_102 ?_
    refine lv_iload_n hx hb dX11_doAct_105 rfl (lv_at hl 0 rfl) ?_
    refine lv_aload_n hx hb dX11_doAct_106 rfl (lv_at hl 2 rfl) ?_
    refine gf_X11_10 hx hb hC hw 155 (gX_155 τ ad M3) rfl dX11_doAct_107 ?_
    refine k_cVi (wq_X τ ad) hx hb hml hC hLS hA hw hl.1 (mX9_digit l D τ ad sA sV _   M3 hM _ hv) kX9_digit ml_X11_339 rfl (gX_156 τ ad M3) rfl rfl (Nat.le_of_ble_eq_true rfl) (rm_ok (by decide) (by decide)) ⟨Nat.zero_le _, Nat.zero_le _⟩ dX11_doAct_110 (fun x11 M11 H locs g11 hM hv hw => ?_)
    have hv := hv g11
    refine lv_aload_n hx hb dX11_doAct_113 rfl (lv_at hl 2 rfl) ?_
    refine gf_X11_19 hx hb hC hw 155 (gX_155 τ ad M11) rfl dX11_doAct_114 ?_
    refine k_cVi (wq_X τ ad) hx hb hml hC hLS hA hw hl.1 (mX6_shove l D τ ad sA sV _ 1 x3 x11 (by decide) g3 g11 M11 hM _ hv) kX6_shove ml_X11_311 rfl (gS_X (by decide) τ ad M11) rfl rfl (Nat.le_of_ble_eq_true rfl) (rm_ok (by decide) (by decide)) ⟨Nat.zero_le _, Nat.zero_le _⟩ dX11_doAct_117 (fun x12 M12 H locs g12 hM hv hw => ?_)
    have hv := hv g12
    exact k_iret (wq_X τ ad) hx hb hr hlk hw hM g12 hv dX11_doAct_120
  · refine r_lkI (tgt := 92) hx hb dX11_doAct_24 g1 (by decide) (by rw [b4]; first | done | rfl) (by decide) ?_
    have hv := hv.2.2.2.1 b4
    refine lv_aload_n hx hb dX11_doAct_92 rfl (lv_at hl 2 rfl) ?_
    refine gf_X11_26 hx hb hC hw 155 (gX_155 τ ad M3) rfl dX11_doAct_93 ?_
    refine lv_iload_n hx hb dX11_doAct_96 rfl (lv_at hl 0 rfl) ?_
    refine k_cVi (wq_X τ ad) hx hb hml hC hLS hA hw hl.1 (mX6_turn l D τ ad sA sV _ 1 x3 (by decide) g3 M3 hM _ hv) kX6_turn ml_X11_308 rfl (gS_X (by decide) τ ad M3) rfl rfl (Nat.le_of_ble_eq_true rfl) (rm_ok (by decide) (by decide)) ⟨Nat.zero_le _, Nat.zero_le _⟩ dX11_doAct_97 (fun x13 M13 H locs g13 hM hv hw => ?_)
    have hv := hv g13
    exact k_iret (wq_X τ ad) hx hb hr hlk hw hM g13 hv dX11_doAct_100
  · refine r_lkI (off := 118) (tgt := 142) hx hb dX11_doAct_24 g1 (by decide) (by simp [Op.lookupswitch.offset]; (repeat rw [if_neg (by omega)])) (by decide) ?_
    have hv := hv.2.2.2.2 b4
    refine lv_aload_n hx hb dX11_doAct_142 rfl (lv_at hl 2 rfl) ?_
    refine gf_X11_26 hx hb hC hw 155 (gX_155 τ ad M3) rfl dX11_doAct_143 ?_
    refine lv_iload_n hx hb dX11_doAct_146 rfl (lv_at hl 0 rfl) ?_
    refine lv_aload_n hx hb dX11_doAct_147 rfl (lv_at hl 2 rfl) ?_
    refine gf_X11_10 hx hb hC hw 155 (gX_155 τ ad M3) rfl dX11_doAct_148 ?_
    refine k_cVi (wq_X τ ad) hx hb hml hC hLS hA hw hl.1 (mX9_digit l D τ ad sA sV _   M3 hM _ hv) kX9_digit ml_X11_339 rfl (gX_156 τ ad M3) rfl rfl (Nat.le_of_ble_eq_true rfl) (rm_ok (by decide) (by decide)) ⟨Nat.zero_le _, Nat.zero_le _⟩ dX11_doAct_151 (fun x14 M14 H locs g14 hM hv hw => ?_)
    have hv := hv g14
    refine k_cVi (wq_X τ ad) hx hb hml hC hLS hA hw hl.1 (mX6_exchange l D τ ad sA sV _ 1 x3 x14 (by decide) g3 g14 M14 hM _ hv) kX6_exchange ml_X11_315 rfl (gS_X (by decide) τ ad M14) rfl rfl (Nat.le_of_ble_eq_true rfl) (rm_ok (by decide) (by decide)) ⟨Nat.zero_le _, Nat.zero_le _⟩ dX11_doAct_154 (fun x15 M15 H locs g15 hM hv hw => ?_)
    have hv := hv g15
    exact k_iret (wq_X τ ad) hx hb hr hlk hw hM g15 hv dX11_doAct_157
set_option maxHeartbeats 4000000 in
set_option maxRecDepth 100000 in
theorem mX11_passAct (l : Launch) (D : va_G) (τ : Nat → ClassId) (ad : Nat → Nat) (sA sV : Nat → Nat) (sz : Nat)   (M : Mem) (hM : MR M) (Q : Int → Mem → Prop) (hv : qX11_passAct  M Q) : Met l yX11_passAct (lw_w yX11_passAct cX11_passAct 3 (some .boolean)) (rmk 3 0 0) (kPc D τ sA sV (WX τ ad M) sz [.ref (ad 155)]) (gQi D (EQz (WX τ ad) MR Q) (va_A (WX τ ad M) sz)) 0 0 (va_A (WX τ ad M) sz) := by
  refine k_met (ret := (some .boolean)) (Qc := gQi D (EQz (WX τ ad) MR Q)) (by decide +kernel) (Nat.le_of_ble_eq_true rfl) ?_
  intro p e s m args below meth c A ls hx hb hml hr hlk hnm hC hLS hA hw hl
  have hC : cx D τ s m args RX11 := hC
  have hl : lv_has ls 3 [(0, .ref (ad 155))] := hl
  unfold qX11_passAct at hv
  have J96 : ∀  (M : Mem) (H : Heap) (locs : List Loc) (ls : Array Slot), MR M → qX11_passAct_J96  Q  M → wS D A s.heap (WX τ ad M) H locs → lv_has ls 3 [(0, .ref (ad 155))] → W p l e (rmk 3 0 0) s m args below meth c H locs 0 0 (MQ below (gQi D (EQz (WX τ ad) MR Q) A) args s 0 0 A) (F0 m 96 ls []) := by
    intro  M H locs ls hM hv hw hl
    unfold qX11_passAct_J96 at hv
    refine lv_aload_n hx hb dX11_passAct_96 rfl (lv_at hl 0 rfl) ?_
    refine gf_X11_10 hx hb hC hw 155 (gX_155 τ ad M) rfl dX11_passAct_97 ?_
    refine k_cVi (wq_X τ ad) hx hb hml hC hLS hA hw hl.1 (mX9_digit l D τ ad sA sV _   M hM _ hv) kX9_digit ml_X11_339 rfl (gX_156 τ ad M) rfl rfl (Nat.le_of_ble_eq_true rfl) (rm_ok (by decide) (by decide)) ⟨Nat.zero_le _, Nat.zero_le _⟩ dX11_passAct_100 (fun x12 M12 H locs g12 hM hv hw => ?_)
    have hv := hv g12
    refine r_iconst hx hb dX11_passAct_103 ?_
    refine r_icmp_eq (tgt := 111) hx hb dX11_passAct_104 (by decide) g12 (by decide) (fun b13 => ?_) (fun b13 => ?_)
    · have hv := hv.1 b13
      refine r_iconst hx hb dX11_passAct_111 ?_
      exact k_zret (wq_X τ ad) hx hb hr hlk hw hM (by decide) (by decide) hv dX11_passAct_112
    · have hv := hv.2 b13
      refine r_iconst hx hb dX11_passAct_107 ?_
      refine lv_goto (tgt := 112) hx hb dX11_passAct_108 (by decide) ?_
      exact k_zret (wq_X τ ad) hx hb hr hlk hw hM (by decide) (by decide) hv dX11_passAct_112
  have J86 : ∀ (v1 : Int) (v2 : Int) (M : Mem) (H : Heap) (locs : List Loc) (ls : Array Slot), MR M → qX11_passAct_J86  Q v1 v2 M → wS D A s.heap (WX τ ad M) H locs → lv_has ls 3 [(0, .ref (ad 155)), (1, .int (iI v1)), (2, .int (iI v2))] → W p l e (rmk 3 0 0) s m args below meth c H locs 0 0 (MQ below (gQi D (EQz (WX τ ad) MR Q) A) args s 0 0 A) (F0 m 86 ls []) := by
    intro v1 v2 M H locs ls hM hv hw hl
    unfold qX11_passAct_J86 at hv
    refine lv_iload_n hx hb dX11_passAct_86 rfl (lv_at hl 2 rfl) ?_
    obtain ⟨c10, hv⟩ := hv
    refine r_if_ne (tgt := 96) hx hb dX11_passAct_87 (by decide) c10  (fun b11 => ?_) (fun b11 => ?_)
    · have hv := hv.1 b11
      exact J96  M _ _ _ hM hv hw (lv_sub hl [0] rfl)
    · have hv := hv.2 b11
      refine lv_iload_n hx hb dX11_passAct_90 rfl (lv_at hl 1 rfl) ?_
      refine r_bipush hx hb dX11_passAct_91 (by decide +kernel) ?_
      obtain ⟨c14, hv⟩ := hv
      refine r_icmp_ne (tgt := 107) hx hb dX11_passAct_93 (by decide) c14 (by decide) (fun b15 => ?_) (fun b15 => ?_)
      · have hv := hv.1 b15
        refine r_iconst hx hb dX11_passAct_107 ?_
        refine lv_goto (tgt := 112) hx hb dX11_passAct_108 (by decide) ?_
        exact k_zret (wq_X τ ad) hx hb hr hlk hw hM (by decide) (by decide) hv dX11_passAct_112
      · have hv := hv.2 b15
        exact J96  M _ _ _ hM hv hw (lv_sub hl [0] rfl)
  have J50 : ∀ (v1 : Int) (v2 : Int) (M : Mem) (H : Heap) (locs : List Loc) (ls : Array Slot), MR M → qX11_passAct_J50  Q v1 v2 M → wS D A s.heap (WX τ ad M) H locs → lv_has ls 3 [(0, .ref (ad 155)), (1, .int (iI v1)), (2, .int (iI v2))] → W p l e (rmk 3 0 0) s m args below meth c H locs 0 0 (MQ below (gQi D (EQz (WX τ ad) MR Q) A) args s 0 0 A) (F0 m 50 ls []) := by
    intro v1 v2 M H locs ls hM hv hw hl
    unfold qX11_passAct_J50 at hv
    refine lv_aload_n hx hb dX11_passAct_50 rfl (lv_at hl 0 rfl) ?_
    refine gf_X11_10 hx hb hC hw 155 (gX_155 τ ad M) rfl dX11_passAct_51 ?_
    refine k_cVv (wq_X τ ad) hx hb hml hC hLS hA hw hl.1 (mX9_pass l D τ ad sA sV _   M hM _ hv) kX9_pass ml_X11_197 rfl (gX_156 τ ad M) rfl rfl (Nat.le_of_ble_eq_true rfl) (rm_ok (by decide) (by decide)) ⟨Nat.zero_le _, Nat.zero_le _⟩ dX11_passAct_54 (fun M5 H locs hM hv hw => ?_)
    refine lv_aload_n hx hb dX11_passAct_57 rfl (lv_at hl 0 rfl) ?_
    refine gf_X11_10 hx hb hC hw 155 (gX_155 τ ad M5) rfl dX11_passAct_58 ?_
    refine k_cVi (wq_X τ ad) hx hb hml hC hLS hA hw hl.1 (mX9_digit l D τ ad sA sV _   M5 hM _ hv) kX9_digit ml_X11_339 rfl (gX_156 τ ad M5) rfl rfl (Nat.le_of_ble_eq_true rfl) (rm_ok (by decide) (by decide)) ⟨Nat.zero_le _, Nat.zero_le _⟩ dX11_passAct_61 (fun x6 M6 H locs g6 hM hv hw => ?_)
    have hv := hv g6
    refine r_iconst hx hb dX11_passAct_64 ?_
    refine r_icmp_eq (tgt := 84) hx hb dX11_passAct_65 (by decide) g6 (by decide) (fun b7 => ?_) (fun b7 => ?_)
    · have hv := hv.1 b7
      refine r_iconst hx hb dX11_passAct_84 ?_
      exact k_zret (wq_X τ ad) hx hb hr hlk hw hM (by decide) (by decide) hv dX11_passAct_85
    · have hv := hv.2 b7
      refine lv_iload_n hx hb dX11_passAct_68 rfl (lv_at hl 2 rfl) ?_
      obtain ⟨c8, hv⟩ := hv
      refine r_if_eq (tgt := 86) hx hb dX11_passAct_69 (by decide) c8  (fun b9 => ?_) (fun b9 => ?_)
      · have hv := hv.1 b9
        exact J86 v1 v2 M6 _ _ _ hM hv hw (lv_sub hl [0, 1, 2] rfl)
      · have hv := hv.2 b9
        refine lv_aload_n hx hb dX11_passAct_72 rfl (lv_at hl 0 rfl) ?_
        refine gf_X11_10 hx hb hC hw 155 (gX_155 τ ad M6) rfl dX11_passAct_73 ?_
        refine k_cVi (wq_X τ ad) hx hb hml hC hLS hA hw hl.1 (mX9_look l D τ ad sA sV _   M6 hM _ hv) kX9_look ml_X11_194 rfl (gX_156 τ ad M6) rfl rfl (Nat.le_of_ble_eq_true rfl) (rm_ok (by decide) (by decide)) ⟨Nat.zero_le _, Nat.zero_le _⟩ dX11_passAct_76 (fun x16 M16 H locs g16 hM hv hw => ?_)
        have hv := hv g16
        refine r_bipush hx hb dX11_passAct_79 (by decide +kernel) ?_
        refine r_icmp_ne (tgt := 86) hx hb dX11_passAct_81 (by decide) g16 (by decide) (fun b17 => ?_) (fun b17 => ?_)
        · have hv := hv.1 b17
          exact J86 v1 v2 M16 _ _ _ hM hv hw (lv_sub hl [0, 1, 2] rfl)
        · have hv := hv.2 b17
          refine r_iconst hx hb dX11_passAct_84 ?_
          exact k_zret (wq_X τ ad) hx hb hr hlk hw hM (by decide) (by decide) hv dX11_passAct_85
  have J25 : ∀ (v1 : Int) (t0 : Int) (M : Mem) (H : Heap) (locs : List Loc) (ls : Array Slot), MR M → qX11_passAct_J25  Q v1 t0 M → wS D A s.heap (WX τ ad M) H locs → lv_has ls 3 [(0, .ref (ad 155)), (1, .int (iI v1))] → W p l e (rmk 3 0 0) s m args below meth c H locs 0 0 (MQ below (gQi D (EQz (WX τ ad) MR Q) A) args s 0 0 A) (F0 m 25 ls [.int (iI t0)]) := by
    intro v1 t0 M H locs ls hM hv hw hl
    unfold qX11_passAct_J25 at hv
    refine lv_istore_n (lv' := [(2, .int (iI t0)), (0, .ref (ad 155)), (1, .int (iI v1))]) hx hb dX11_passAct_25 rfl hl (by decide) rfl (fun ls hl => ?_)
    refine lv_iload_n hx hb dX11_passAct_26 rfl (lv_at hl 0 rfl) ?_
    obtain ⟨c3, hv⟩ := hv
    refine r_if_ne (tgt := 50) hx hb dX11_passAct_27 (by decide) c3  (fun b4 => ?_) (fun b4 => ?_)
    · have hv := hv.1 b4
      exact J50 v1 t0 M _ _ _ hM hv hw (lv_sub hl [1, 2, 0] rfl)
    · have hv := hv.2 b4
      refine lv_iload_n hx hb dX11_passAct_30 rfl (lv_at hl 2 rfl) ?_
      refine r_bipush hx hb dX11_passAct_31 (by decide +kernel) ?_
      obtain ⟨c18, hv⟩ := hv
      refine r_icmp_eq (tgt := 50) hx hb dX11_passAct_33 (by decide) c18 (by decide) (fun b19 => ?_) (fun b19 => ?_)
      · have hv := hv.1 b19
        exact J50 v1 t0 M _ _ _ hM hv hw (lv_sub hl [1, 2, 0] rfl)
      · have hv := hv.2 b19
        refine lv_iload_n hx hb dX11_passAct_36 rfl (lv_at hl 2 rfl) ?_
        refine r_bipush hx hb dX11_passAct_37 (by decide +kernel) ?_
        refine r_icmp_eq (tgt := 50) hx hb dX11_passAct_39 (by decide) c18 (by decide) (fun b20 => ?_) (fun b20 => ?_)
        · have hv := hv.1 b20
          exact J50 v1 t0 M _ _ _ hM hv hw (lv_sub hl [1, 2, 0] rfl)
        · have hv := hv.2 b20
          refine lv_iload_n hx hb dX11_passAct_42 rfl (lv_at hl 2 rfl) ?_
          refine r_bipush hx hb dX11_passAct_43 (by decide +kernel) ?_
          refine r_icmp_eq (tgt := 50) hx hb dX11_passAct_45 (by decide) c18 (by decide) (fun b21 => ?_) (fun b21 => ?_)
          · have hv := hv.1 b21
            exact J50 v1 t0 M _ _ _ hM hv hw (lv_sub hl [1, 2, 0] rfl)
          · have hv := hv.2 b21
            refine r_iconst hx hb dX11_passAct_48 ?_
            exact k_zret (wq_X τ ad) hx hb hr hlk hw hM (by decide) (by decide) hv dX11_passAct_49
  have J20 : ∀ (v1 : Int) (M : Mem) (H : Heap) (locs : List Loc) (ls : Array Slot), MR M → qX11_passAct_J20  Q v1 M → wS D A s.heap (WX τ ad M) H locs → lv_has ls 3 [(0, .ref (ad 155)), (1, .int (iI v1))] → W p l e (rmk 3 0 0) s m args below meth c H locs 0 0 (MQ below (gQi D (EQz (WX τ ad) MR Q) A) args s 0 0 A) (F0 m 20 ls []) := by
    intro v1 M H locs ls hM hv hw hl
    unfold qX11_passAct_J20 at hv
    refine r_iconst hx hb dX11_passAct_20 ?_
    refine lv_goto (tgt := 25) hx hb dX11_passAct_21 (by decide) ?_
    exact J25 v1 1 M _ _ _ hM hv hw (lv_sub hl [0, 1] rfl)
  refine lv_aload_n hx hb dX11_passAct_0 rfl (lv_at hl 0 rfl) ?_
  refine gf_X11_10 hx hb hC hw 155 (gX_155 τ ad M) rfl dX11_passAct_1 ?_
  refine k_cVi (wq_X τ ad) hx hb hml hC hLS hA hw hl.1 (mX9_look l D τ ad sA sV _   M hM _ hv) kX9_look ml_X11_194 rfl (gX_156 τ ad M) rfl rfl (Nat.le_of_ble_eq_true rfl) (rm_ok (by decide) (by decide)) ⟨Nat.zero_le _, Nat.zero_le _⟩ dX11_passAct_4 (fun x1 M1 H locs g1 hM hv hw => ?_)
  have hv := hv g1
  refine lv_istore_n (lv' := [(1, .int (iI x1)), (0, .ref (ad 155))]) hx hb dX11_passAct_7 rfl hl (by decide) rfl (fun ls hl => ?_)
  refine lv_iload_n hx hb dX11_passAct_8 rfl (lv_at hl 0 rfl) ?_
  refine r_bipush hx hb dX11_passAct_9 (by decide +kernel) ?_
  refine r_icmp_eq (tgt := 20) hx hb dX11_passAct_11 (by decide) g1 (by decide) (fun b2 => ?_) (fun b2 => ?_)
  · have hv := hv.1 b2
    exact J20 x1 M1 _ _ _ hM hv hw (lv_sub hl [1, 0] rfl)
  · have hv := hv.2 b2
    refine lv_iload_n hx hb dX11_passAct_14 rfl (lv_at hl 0 rfl) ?_
    refine r_bipush hx hb dX11_passAct_15 (by decide +kernel) ?_
    refine r_icmp_ne (tgt := 24) hx hb dX11_passAct_17 (by decide) g1 (by decide) (fun b22 => ?_) (fun b22 => ?_)
    · have hv := hv.1 b22
      refine r_iconst hx hb dX11_passAct_24 ?_
      exact J25 x1 0 M1 _ _ _ hM hv hw (lv_sub hl [1, 0] rfl)
    · have hv := hv.2 b22
      exact J20 x1 M1 _ _ _ hM hv hw (lv_sub hl [1, 0] rfl)
