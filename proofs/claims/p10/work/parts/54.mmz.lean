/-! what the reference says of a throw -/
def qX12_thrown (M : Mem) (Q : Int → Mem → Prop) : Prop := ∀ x1 : Int, x1 = M 1 0 → iR x1 → Q x1 M
set_option maxHeartbeats 4000000 in
set_option maxRecDepth 100000 in
theorem mX12_thrown (l : Launch) (D : va_G) (τ : Nat → ClassId) (ad : Nat → Nat) (sA sV : Nat → Nat) (sz : Nat)   (M : Mem) (hM : MR M) (Q : Int → Mem → Prop) (hv : qX12_thrown  M Q) : Met l yX12_thrown (lw_w yX12_thrown cX12_thrown 1 (some .int)) (rmk 1 0 0) (kPc D τ sA sV (WM τ ad M) sz [.ref (ad 1)]) (gQi D (EQi (WM τ ad) MR Q) (va_A (WM τ ad M) sz)) 0 0 (va_A (WM τ ad M) sz) := by
  refine k_met (ret := (some .int)) (Qc := gQi D (EQi (WM τ ad) MR Q)) (by decide +kernel) (Nat.le_of_ble_eq_true rfl) ?_
  intro p e s m args below meth c A ls hx hb hml hr hlk hnm hC hLS hA hw hl
  have hC : cx D τ s m args RX12 := hC
  have hl : lv_has ls 1 [(0, .ref (ad 1))] := hl
  unfold qX12_thrown at hv
  refine lv_aload_n hx hb dX12_thrown_0 rfl (lv_at hl 0 rfl) ?_
  refine gf_X12_112 hx hb hC hw 1 (gM_1 τ ad M) rfl dX12_thrown_1 ?_
  refine r_top (fun x1 e1 => ?_)
  have g1 : iR x1 := by rw [e1]; exact hM.get (by decide) _
  have hv := hv x1 e1 g1
  exact k_iret (wq_M τ ad) hx hb hr hlk hw hM g1 hv dX12_thrown_4
