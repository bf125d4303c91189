section
/-! the reference: weakest preconditions, out of the bytecode -/
def qX12_sign_L18 (p1 : Int) (X53 : Mem → Prop) (Q : Int → Mem → Prop) : Nat → Int → Mem → Prop
  | 0, _, _ => False
  | n + 1, v2, M => iR v2 ∧ (
(((4 ≤ v2) → (X53  M)) ∧
((¬ (4 ≤ v2)) → (∀ x6 : Int, x6 = M 1 14 → iR x6 → (
∀ x7 : Int, x7 = srI p1 (24 - (8 * v2)) → iR x7 → (
∀ x8 : Int, x8 = aI x7 255 → iR x8 → (
(0 ≤ (x6 + v2)) ∧ (
((x6 + v2) < 80) ∧ (
∀ M11 : Mem, M11 = up2 M 7 (x6 + v2) x8 → (
qX12_sign_L18 p1 X53 Q n (v2 + 1) M11))))))))))
def qX12_sign (p1 : Int) (M : Mem) (Q : Int → Mem → Prop) : Prop := ∀ M1 : Mem, M1 = up2 M 1 0 0 → (
∀ x2 : Int, x2 = M1 1 14 → iR x2 → (
(((x2 ≤ 76) → (∃ n12 : Nat, qX12_sign_L18 p1 (fun  (M : Mem) => ∀ x13 : Int, x13 = M 1 14 → iR x13 → (
iR (x13 + 4) ∧ (
∀ M15 : Mem, M15 = up2 M 1 14 (x13 + 4) → (
∀ x16 : Int, x16 = M15 1 14 → iR x16 → (
Q x16 M15))))) Q n12 0 M1)) ∧
((¬ (x2 ≤ 76)) → (Q (-1) M1)))))
def qX12_in (p0 : Int) (p2 : Int) (p4 : Int) (M : Mem) (Q : Int → Mem → Prop) : Prop := ∀ x1 : Int, iR x1 → ((x1 = -1 ∧ p0 < p2) ∨ (x1 = 0 ∧ p0 = p2) ∨ (x1 = 1 ∧ p2 < p0)) → (
(((x1 < 0) → (Q 0 M)) ∧
((¬ (x1 < 0)) → (∀ x3 : Int, iR x3 → ((x3 = -1 ∧ p0 < p4) ∨ (x3 = 0 ∧ p0 = p4) ∨ (x3 = 1 ∧ p4 < p0)) → (
(((0 < x3) → (Q 0 M)) ∧
((¬ (0 < x3)) → (Q 1 M))))))))
def qX12_end (p1 : Int) (M : Mem) (Q : Int → Mem → Prop) : Prop := ∀ M1 : Mem, M1 = up2 M 1 0 0 → (
∀ x2 : Int, x2 = M1 1 14 → iR x2 → (
qX12_in p1 0 x2 M1 (fun (x3 : Int) (M3 : Mem) => iR x3 → (x3 = 0 ∨ x3 = 1) → (
(((¬ x3 = 0) → (∀ M5 : Mem, M5 = up2 M3 1 14 p1 → (
Q 1 M5))) ∧
((x3 = 0) → (Q 0 M3)))))))
def qX12_begins (p1 : Int) (M : Mem) (Q : Int → Mem → Prop) : Prop := ∀ x1 : Int, x1 = M 1 14 → iR x1 → (
∀ M2 : Mem, M2 = up2 M 1 14 0 → (
∀ M3 : Mem, M3 = up2 M2 1 15 0 → (
∀ M4 : Mem, M4 = up2 M3 1 17 0 → (
∀ x5 : Int, x5 = min x1 p1 → iR x5 → (
∀ M6 : Mem, M6 = up2 M4 1 16 x5 → (
Q x1 M6))))))
def qX12_flag (p0 : Int) (M : Mem) (Q : Int → Mem → Prop) : Prop := (((p0 = 0) → (Q 0 M)) ∧
((¬ (p0 = 0)) → (Q 1 M)))
def qX12_takesOf_L2 (bs : List Int) (X38 : Int → Mem → Prop) (Q : Int → Mem → Prop) : Nat → Int → Mem → Prop
  | 0, _, _ => False
  | n + 1, v2, M => ∀ x1 : Int, x1 = (bs.length : Int) → iR x1 → (
iR v2 ∧ (
(((x1 ≤ v2) → (Q (-1) M)) ∧
((¬ (x1 ≤ v2)) → (∀ x4 : Int, x4 = M 1 15 → iR x4 → (
∀ x5 : Int, x5 = M 1 16 → iR x5 → (
(((x5 ≤ x4) → (Q (-1) M)) ∧
((¬ (x5 ≤ x4)) → ((0 ≤ v2) ∧ (
(v2 < (bs.length : Int)) ∧ (
∀ x9 : Int, x9 = bs.getD v2.toNat 0 → iR x9 → (
∀ x10 : Int, x10 = M 1 15 → iR x10 → (
(0 ≤ x10) ∧ (
(x10 < 80) ∧ (
∀ x13 : Int, x13 = M 7 x10 → iR x13 → (
(((¬ x9 = x13) → (qX12_takesOf_L2 bs X38 Q n (v2 + 1) M)) ∧
((x9 = x13) → (X38 v2 M))))))))))))))))))))
def qX12_takesOf (bs : List Int) (M : Mem) (Q : Int → Mem → Prop) : Prop := ∃ n15 : Nat, qX12_takesOf_L2 bs (fun (v2 : Int) (M : Mem) => ∀ x16 : Int, x16 = M 1 15 → iR x16 → (
iR (x16 + 1) ∧ (
∀ M18 : Mem, M18 = up2 M 1 15 (x16 + 1) → (
iR v2 ∧ (
Q v2 M18))))) Q n15 0 M
def qX12_avenue_J58  (R : Int → Int → Mem → Prop) (X69 : Int → Mem → Prop) (Q : Int → Mem → Prop) (v1 : Int) (v2 : Int) (t0 : Int) (t1 : Int) (M : Mem) : Prop := (0 ≤ t1) ∧ (
(t1 < 30) ∧ (
iR t0 ∧ (
(t0 = 0 ∨ t0 = 1) ∧ (
∀ M15 : Mem, M15 = up2 M 8 t1 t0 → (
iR v2 ∧ (
qX12_flag v2 M15 (fun (x17 : Int) (M17 : Mem) => iR x17 → (
R (v1 + x17) v2 M17))))))))
def qX12_avenue_J42  (R : Int → Int → Mem → Prop) (X69 : Int → Mem → Prop) (Q : Int → Mem → Prop) (v1 : Int) (v3 : Int) (t0 : Int) (M : Mem) : Prop := iR v3 ∧ (
(((¬ v3 = 1) → (qX12_avenue_J58  (R) X69 Q v1 t0 0 v1 M)) ∧
((v3 = 1) → (qX12_avenue_J58  (R) X69 Q v1 t0 1 v1 M))))
def qX12_avenue_L16  (X69 : Int → Mem → Prop) (Q : Int → Mem → Prop) : Nat → Int → Int → Mem → Prop
  | 0, _, _, _ => False
  | n + 1, v1, v2, M => iR v2 ∧ (
(((v2 = 0) → (X69 v1 M)) ∧
((¬ (v2 = 0)) → (iR v1 ∧ (
(((30 ≤ v1) → (X69 v1 M)) ∧
((¬ (30 ≤ v1)) → (qX12_takesOf (bS 1) M (fun (x7 : Int) (M7 : Mem) => iR x7 → (
(((x7 < 0) → (qX12_avenue_J42  (qX12_avenue_L16  X69 Q n) X69 Q v1 x7 0 M7)) ∧
((¬ (x7 < 0)) → (qX12_avenue_J42  (qX12_avenue_L16  X69 Q n) X69 Q v1 x7 1 M7)))))))))))))
def qX12_avenue_L99  (X122 : Int → Mem → Prop) (Q : Int → Mem → Prop) : Nat → Int → Int → Mem → Prop
  | 0, _, _, _ => False
  | n + 1, v1, v3, M => iR v3 ∧ (
iR v1 ∧ (
(((v1 ≤ v3) → (X122 v1 M)) ∧
((¬ (v1 ≤ v3)) → ((0 ≤ v3) ∧ (
(v3 < 30) ∧ (
∀ x32 : Int, x32 = M 8 v3 → iR x32 → (
(x32 = 0 ∨ x32 = 1) ∧ (
∀ M34 : Mem, M34 = up2 M 2 v3 x32 → (
qX12_avenue_L99  X122 Q n v1 (v3 + 1) M34))))))))))
def qX12_avenue_L155   (Q : Int → Mem → Prop) : Nat → Int → Int → Mem → Prop
  | 0, _, _, _ => False
  | n + 1, v1, v3, M => iR v3 ∧ (
(((3 ≤ v3) → (iR v1 ∧ (
Q v1 M))) ∧
((¬ (3 ≤ v3)) → ((0 ≤ v3) ∧ (
(v3 < 3) ∧ (
∀ M46 : Mem, M46 = up2 M 29 v3 0 → (
qX12_avenue_L155   Q n v1 (v3 + 1) M46)))))))
def qX12_avenue_J69  (Q : Int → Mem → Prop) (v1 : Int) (M : Mem) : Prop := iR v1 ∧ (
(((v1 < 4) → (∀ x21 : Int, x21 = M 1 15 → iR x21 → (
iR ((-1) - x21) ∧ (
Q ((-1) - x21) M)))) ∧
((¬ (v1 < 4)) → (∀ x23 : Int, x23 = M 1 15 → iR x23 → (
∀ x24 : Int, x24 = M 1 16 → iR x24 → (
(((x24 ≤ x23) → (∀ M26 : Mem, M26 = up2 M 1 3 v1 → (
∃ n35 : Nat, qX12_avenue_L99  (fun (v1 : Int) (M : Mem) => ∀ M36 : Mem, M36 = up2 M 1 4 0 → (
∀ M37 : Mem, M37 = up2 M36 1 5 0 → (
∀ M38 : Mem, M38 = up2 M37 5 12 0 → (
∀ M39 : Mem, M39 = up2 M38 5 37 0 → (
∀ M40 : Mem, M40 = up2 M39 1 28 0 → (
∃ n47 : Nat, qX12_avenue_L155   Q n47 v1 0 M40)))))) Q n35 v1 0 M26))) ∧
((¬ (x24 ≤ x23)) → (∀ x48 : Int, x48 = M 1 15 → iR x48 → (
iR ((-1) - x48) ∧ (
Q ((-1) - x48) M)))))))))))
def qX12_avenue  (M : Mem) (Q : Int → Mem → Prop) : Prop := ∀ M1 : Mem, M1 = up2 M 1 0 0 → (
qX12_begins 80 M1 (fun (x2 : Int) (M2 : Mem) => iR x2 → (
∃ n18 : Nat, qX12_avenue_L16  (fun (v1 : Int) (M : Mem) => qX12_avenue_J69  Q v1 M) Q n18 0 1 M2)))
def qX12_faultOf_J44 (p1 : Int) (p2 : Int) (p3 : Int) (Q : Int → Mem → Prop) (v4 : Int) (M : Mem) : Prop := iR v4 ∧ (
(((v4 = 0) → (∀ x5 : Int, x5 = M 1 15 → iR x5 → (
iR ((-1) - x5) ∧ (
Q ((-1) - x5) M)))) ∧
((¬ (v4 = 0)) → (Q 0 M))))
def qX12_faultOf_J20 (p1 : Int) (p2 : Int) (p3 : Int) (Q : Int → Mem → Prop) (t0 : Int) (M : Mem) : Prop := (((p1 ≤ p2) → (qX12_faultOf_J44 p1 p2 p3 Q t0 M)) ∧
((¬ (p1 ≤ p2)) → (iR t0 ∧ (
(((¬ t0 = 0) → (iR ((-1) - p2) ∧ (
Q ((-1) - p2) M))) ∧
((t0 = 0) → (∀ x10 : Int, x10 = M 1 15 → iR x10 → (
(((x10 < p2) → (qX12_faultOf_J44 p1 p2 p3 Q t0 M)) ∧
((¬ (x10 < p2)) → (iR ((-1) - p2) ∧ (
Q ((-1) - p2) M))))))))))))
def qX12_faultOf_J19 (p1 : Int) (p2 : Int) (p3 : Int) (Q : Int → Mem → Prop)  (M : Mem) : Prop := qX12_faultOf_J20 p1 p2 p3 Q 0 M
def qX12_faultOf (p1 : Int) (p2 : Int) (p3 : Int) (M : Mem) (Q : Int → Mem → Prop) : Prop := (((p3 = 0) → (qX12_faultOf_J19 p1 p2 p3 Q  M)) ∧
((¬ (p3 = 0)) → (∀ x13 : Int, x13 = M 1 15 → iR x13 → (
∀ x14 : Int, x14 = M 1 16 → iR x14 → (
(((¬ x13 = x14) → (qX12_faultOf_J19 p1 p2 p3 Q  M)) ∧
((x13 = x14) → (qX12_faultOf_J20 p1 p2 p3 Q 1 M))))))))
def qX12_isNew_J36  (Q : Int → Mem → Prop) (t0 : Int) (t1 : Int) (M : Mem) : Prop := iR t0 ∧ (
qX12_flag t0 M (fun (x10 : Int) (M10 : Mem) => iR x10 → (
iR (t1 + x10) ∧ (
∀ M12 : Mem, M12 = up2 M10 1 6 (t1 + x10) → (
∀ x13 : Int, x13 = M12 1 20 → iR x13 → (
Q x13 M12))))))
def qX12_isNew_J16  (Q : Int → Mem → Prop) (t0 : Int) (M : Mem) : Prop := iR t0 ∧ (
∀ M5 : Mem, M5 = up2 M 1 28 t0 → (
∀ x6 : Int, x6 = M5 1 6 → iR x6 → (
∀ x7 : Int, x7 = M5 1 20 → iR x7 → (
(((x7 ≤ 0) → (qX12_isNew_J36  Q 0 x6 M5)) ∧
((¬ (x7 ≤ 0)) → (qX12_isNew_J36  Q 1 x6 M5)))))))
def qX12_isNew  (M : Mem) (Q : Int → Mem → Prop) : Prop := ∀ x1 : Int, x1 = M 1 20 → iR x1 → (
(((x1 ≤ 0) → (∀ x3 : Int, x3 = M 1 28 → iR x3 → (
qX12_isNew_J16  Q x3 M))) ∧
((¬ (x1 ≤ 0)) → (qX12_isNew_J16  Q 0 M))))
def qX12_gate  (M : Mem) (Q : Int → Mem → Prop) : Prop := ∀ x1 : Int, x1 = M 1 3 → iR x1 → (
iR (x1 - 1) ∧ (
Q (x1 - 1) M))
def qX12_isDigit  (M : Mem) (Q : Int → Mem → Prop) : Prop := ∀ x1 : Int, x1 = M 1 15 → iR x1 → (
∀ x2 : Int, x2 = M 1 16 → iR x2 → (
(((x2 ≤ x1) → (Q 0 M)) ∧
((¬ (x2 ≤ x1)) → (∀ x4 : Int, x4 = M 1 15 → iR x4 → (
(0 ≤ x4) ∧ (
(x4 < 80) ∧ (
∀ x7 : Int, x7 = M 7 x4 → iR x7 → (
qX12_in x7 48 57 M (fun (x8 : Int) (M8 : Mem) => iR x8 → (x8 = 0 ∨ x8 = 1) → (
(((x8 = 0) → (Q 0 M8)) ∧
((¬ (x8 = 0)) → (Q 1 M8))))))))))))))
def qX12_number_L13 (p1 : Int)  (Q : Int → Mem → Prop) : Nat → Int → Int → Mem → Prop
  | 0, _, _, _ => False
  | n + 1, v2, v3, M => iR v3 ∧ (
(((p1 ≤ v3) → (iR v2 ∧ (
Q v2 M))) ∧
((¬ (p1 ≤ v3)) → (qX12_isDigit  M (fun (x6 : Int) (M6 : Mem) => iR x6 → (x6 = 0 ∨ x6 = 1) → (
(((x6 = 0) → (iR v2 ∧ (
Q v2 M6))) ∧
((¬ (x6 = 0)) → (∀ x9 : Int, x9 = M6 1 15 → iR x9 → (
(0 ≤ x9) ∧ (
(x9 < 80) ∧ (
∀ x12 : Int, x12 = M6 7 x9 → iR x12 → (
∀ x13 : Int, x13 = M6 1 15 → iR x13 → (
iR (x13 + 1) ∧ (
∀ M15 : Mem, M15 = up2 M6 1 15 (x13 + 1) → (
qX12_number_L13 p1  Q n (((10 * v2) + x12) - 48) (v3 + 1) M15))))))))))))))))
def qX12_number (p1 : Int) (M : Mem) (Q : Int → Mem → Prop) : Prop := qX12_isDigit  M (fun (x1 : Int) (M1 : Mem) => iR x1 → (x1 = 0 ∨ x1 = 1) → (
(((¬ x1 = 0) → (∃ n16 : Nat, qX12_number_L13 p1  Q n16 0 0 M1)) ∧
((x1 = 0) → (Q (-1) M1)))))
def qX12_onCell_L5 (k1 : Nat) (p2 : Int)  (Q : Int → Mem → Prop) : Nat → Int → Int → Mem → Prop
  | 0, _, _, _ => False
  | n + 1, v3, v4, M => ∀ x1 : Int, x1 = M 1 4 → iR x1 → (
iR v4 ∧ (
(((x1 ≤ v4) → (iR v3 ∧ (
Q v3 M))) ∧
((¬ (x1 ≤ v4)) → ((0 ≤ v4) ∧ (
(v4 < 38) ∧ (
∀ x7 : Int, x7 = M k1 v4 → iR x7 → (
(((¬ x7 = p2) → (qX12_onCell_L5 k1 p2  Q n v3 (v4 + 1) M)) ∧
((x7 = p2) → (qX12_onCell_L5 k1 p2  Q n v4 (v4 + 1) M)))))))))))
def qX12_onCell (k1 : Nat) (p2 : Int) (M : Mem) (Q : Int → Mem → Prop) : Prop := ∃ n9 : Nat, qX12_onCell_L5 k1 p2  Q n9 (-1) 0 M
def qX12_readsCell_L45 (p1 : Int) (X85 : Int → Int → Mem → Prop) (Q : Int → Mem → Prop) : Nat → Int → Int → Int → Mem → Prop
  | 0, _, _, _, _ => False
  | n + 1, v2, v3, v4, M => ∀ x5 : Int, x5 = M 1 20 → iR x5 → (
iR v4 ∧ (
(((x5 ≤ v4) → (X85 v2 v3 M)) ∧
((¬ (x5 ≤ v4)) → ((((p1 = 0) → (X85 v2 v3 M)) ∧
((¬ (p1 = 0)) → (iR v3 ∧ (
(((v3 = 0) → (qX12_readsCell_L45 p1 X85 Q n v2 0 (v4 + 1) M)) ∧
((¬ (v3 = 0)) → ((0 ≤ v4) ∧ (
(v4 < 16) ∧ (
∀ x13 : Int, x13 = M 9 v4 → iR x13 → (
iR v2 ∧ (
(((x13 = v2) → (qX12_readsCell_L45 p1 X85 Q n v2 0 (v4 + 1) M)) ∧
((¬ (x13 = v2)) → (qX12_readsCell_L45 p1 X85 Q n v2 1 (v4 + 1) M)))))))))))))))))))
def qX12_readsCell_J99 (p1 : Int) (Q : Int → Mem → Prop) (v2 : Int) (v3 : Int) (t0 : Int) (t1 : Int) (M : Mem) : Prop := iR t0 ∧ (
qX12_flag t0 M (fun (x21 : Int) (M21 : Mem) => iR x21 → (
iR (t1 - x21) ∧ (
∀ M23 : Mem, M23 = up2 M21 1 15 (t1 - x21) → (
iR v3 ∧ (
(((v3 = 0) → (Q (-1) M23)) ∧
((¬ (v3 = 0)) → (iR v2 ∧ (
Q v2 M23))))))))))
def qX12_readsCell_J85 (p1 : Int) (Q : Int → Mem → Prop) (v2 : Int) (v3 : Int) (M : Mem) : Prop := ∀ x17 : Int, x17 = M 1 15 → iR x17 → (
iR v3 ∧ (
(((¬ v3 = 0) → (qX12_readsCell_J99 p1 Q v2 v3 0 x17 M)) ∧
((v3 = 0) → (qX12_readsCell_J99 p1 Q v2 v3 1 x17 M)))))
def qX12_readsCell (p1 : Int) (M : Mem) (Q : Int → Mem → Prop) : Prop := qX12_number 2 M (fun (x1 : Int) (M1 : Mem) => iR x1 → (
(((0 ≤ x1) → (qX12_gate  M1 (fun (x3 : Int) (M3 : Mem) => iR x3 → (
(((x3 ≤ x1) → (∃ n16 : Nat, qX12_readsCell_L45 p1 (fun (v2 : Int) (v3 : Int) (M : Mem) => qX12_readsCell_J85 p1 Q v2 v3 M) Q n16 x1 0 0 M3)) ∧
((¬ (x3 ≤ x1)) → ((((p1 = 0) → (∃ n28 : Nat, qX12_readsCell_L45 p1 (fun (v2 : Int) (v3 : Int) (M : Mem) => qX12_readsCell_J85 p1 Q v2 v3 M) Q n28 x1 1 0 M3)) ∧
((¬ (p1 = 0)) → (qX12_onCell 5 x1 M3 (fun (x29 : Int) (M29 : Mem) => iR x29 → (
(((0 ≤ x29) → (∃ n31 : Nat, qX12_readsCell_L45 p1 (fun (v2 : Int) (v3 : Int) (M : Mem) => qX12_readsCell_J85 p1 Q v2 v3 M) Q n31 x1 0 0 M29)) ∧
((¬ (0 ≤ x29)) → (∃ n32 : Nat, qX12_readsCell_L45 p1 (fun (v2 : Int) (v3 : Int) (M : Mem) => qX12_readsCell_J85 p1 Q v2 v3 M) Q n32 x1 1 0 M29))))))))))))))) ∧
((¬ (0 ≤ x1)) → (Q (-1) M1)))))
def qX12_readsHearse  (M : Mem) (Q : Int → Mem → Prop) : Prop := ∀ x1 : Int, x1 = M 1 4 → iR x1 → (
∀ x2 : Int, x2 = M 1 20 → iR x2 → (
iR (x1 + x2) ∧ (
(((¬ (x1 + x2) = 6) → (qX12_readsCell 1 M (fun (x5 : Int) (M5 : Mem) => iR x5 → (
∀ x6 : Int, x6 = M5 1 20 → iR x6 → (
(0 ≤ x6) ∧ (
(x6 < 16) ∧ (
∀ M9 : Mem, M9 = up2 M5 9 x6 x5 → (
∀ x10 : Int, x10 = M9 1 20 → iR x10 → (
iR (x10 + 1) ∧ (
∀ M12 : Mem, M12 = up2 M9 1 20 (x10 + 1) → (
(((x5 < 0) → (Q 0 M12)) ∧
((¬ (x5 < 0)) → (Q 1 M12)))))))))))))) ∧
(((x1 + x2) = 6) → (Q 0 M))))))
def qX12_takes_J29 (p1 : Int) (Q : Int → Mem → Prop) (t0 : Int) (M : Mem) : Prop := ∀ x4 : Int, x4 = M 1 15 → iR x4 → (
iR t0 ∧ (
qX12_flag t0 M (fun (x6 : Int) (M6 : Mem) => iR x6 → (
iR (x4 + x6) ∧ (
∀ M8 : Mem, M8 = up2 M6 1 15 (x4 + x6) → (
(t0 = 0 ∨ t0 = 1) ∧ (
Q t0 M8)))))))
def qX12_takes_J28 (p1 : Int) (Q : Int → Mem → Prop)  (M : Mem) : Prop := qX12_takes_J29 p1 Q 0 M
def qX12_takes (p1 : Int) (M : Mem) (Q : Int → Mem → Prop) : Prop := ∀ x1 : Int, x1 = M 1 15 → iR x1 → (
∀ x2 : Int, x2 = M 1 16 → iR x2 → (
(((x2 ≤ x1) → (qX12_takes_J28 p1 Q  M)) ∧
((¬ (x2 ≤ x1)) → (∀ x10 : Int, x10 = M 1 15 → iR x10 → (
(0 ≤ x10) ∧ (
(x10 < 80) ∧ (
∀ x13 : Int, x13 = M 7 x10 → iR x13 → (
(((¬ x13 = p1) → (qX12_takes_J28 p1 Q  M)) ∧
((x13 = p1) → (qX12_takes_J29 p1 Q 1 M))))))))))))
def qX12_hearses_L29  (X60 : Int → Int → Mem → Prop) (Q : Int → Mem → Prop) : Nat → Int → Int → Int → Mem → Prop
  | 0, _, _, _, _ => False
  | n + 1, v1, v2, v3, M => iR v3 ∧ (
(((v3 = 0) → (X60 v1 v2 M)) ∧
((¬ (v3 = 0)) → (qX12_readsHearse  M (fun (x7 : Int) (M7 : Mem) => iR x7 → (x7 = 0 ∨ x7 = 1) → (
(((x7 = 0) → (qX12_hearses_L29  X60 Q n v1 x7 0 M7)) ∧
((¬ (x7 = 0)) → (qX12_takes 59 M7 (fun (x9 : Int) (M9 : Mem) => iR x9 → (x9 = 0 ∨ x9 = 1) → (
(((x9 = 0) → (qX12_hearses_L29  X60 Q n v1 x7 0 M9)) ∧
((¬ (x9 = 0)) → (qX12_hearses_L29  X60 Q n v1 x7 1 M9))))))))))))))
def qX12_hearses_L81  (X135 : Mem → Prop) (Q : Int → Mem → Prop) : Nat → Int → Mem → Prop
  | 0, _, _ => False
  | n + 1, v5, M => ∀ x16 : Int, x16 = M 1 20 → iR x16 → (
iR v5 ∧ (
(((x16 ≤ v5) → (X135  M)) ∧
((¬ (x16 ≤ v5)) → (∀ x19 : Int, x19 = M 1 4 → iR x19 → (
(0 ≤ v5) ∧ (
(v5 < 16) ∧ (
∀ x22 : Int, x22 = M 9 v5 → iR x22 → (
(0 ≤ x19) ∧ (
(x19 < 38) ∧ (
∀ M25 : Mem, M25 = up2 M 5 x19 x22 → (
∀ x26 : Int, x26 = M25 1 4 → iR x26 → (
(0 ≤ (6 + x26)) ∧ (
((6 + x26) < 38) ∧ (
∀ M29 : Mem, M29 = up2 M25 5 (6 + x26) 0 → (
∀ x30 : Int, x30 = M29 1 4 → iR x30 → (
iR (x30 + 1) ∧ (
∀ M32 : Mem, M32 = up2 M29 1 4 (x30 + 1) → (
qX12_hearses_L81  X135 Q n (v5 + 1) M32)))))))))))))))))))
def qX12_hearses  (M : Mem) (Q : Int → Mem → Prop) : Prop := ∀ M1 : Mem, M1 = up2 M 1 0 0 → (
qX12_begins 17 M1 (fun (x2 : Int) (M2 : Mem) => iR x2 → (
∀ M3 : Mem, M3 = up2 M2 1 20 0 → (
(((x2 ≤ 0) → (∃ n11 : Nat, qX12_hearses_L29  (fun (v1 : Int) (v2 : Int) (M : Mem) => iR v1 ∧ (
iR v2 ∧ (
qX12_faultOf v1 17 v2 M (fun (x14 : Int) (M14 : Mem) => iR x14 → (
(((0 ≤ x14) → (∃ n33 : Nat, qX12_hearses_L81  (fun  (M : Mem) => qX12_isNew  M (fun (x34 : Int) (M34 : Mem) => iR x34 → (
Q x34 M34))) Q n33 0 M14)) ∧
((¬ (0 ≤ x14)) → (Q x14 M14)))))))) Q n11 x2 1 0 M3)) ∧
((¬ (x2 ≤ 0)) → (∃ n35 : Nat, qX12_hearses_L29  (fun (v1 : Int) (v2 : Int) (M : Mem) => iR v1 ∧ (
iR v2 ∧ (
qX12_faultOf v1 17 v2 M (fun (x38 : Int) (M38 : Mem) => iR x38 → (
(((0 ≤ x38) → (∃ n40 : Nat, qX12_hearses_L81  (fun  (M : Mem) => qX12_isNew  M (fun (x41 : Int) (M41 : Mem) => iR x41 → (
Q x41 M41))) Q n40 0 M38)) ∧
((¬ (0 ≤ x38)) → (Q x38 M38)))))))) Q n35 x2 1 1 M3)))))))
def qX12_readsMourner_J68  (Q : Int → Mem → Prop) (t0 : Int) (t1 : Int) (M : Mem) : Prop := (0 ≤ t1) ∧ (
(t1 < 16) ∧ (
iR t0 ∧ (
∀ M20 : Mem, M20 = up2 M 9 t1 t0 → (
∀ x21 : Int, x21 = M20 1 20 → iR x21 → (
iR (x21 + 1) ∧ (
∀ M23 : Mem, M23 = up2 M20 1 20 (x21 + 1) → (
∀ x24 : Int, x24 = M23 1 20 → iR x24 → (
(0 ≤ ((2 * x24) - 1)) ∧ (
(((2 * x24) - 1) < 16) ∧ (
∀ x27 : Int, x27 = M23 9 ((2 * x24) - 1) → iR x27 → (
(((x27 < 0) → (Q 0 M23)) ∧
((¬ (x27 < 0)) → (Q 1 M23))))))))))))))
def qX12_readsMourner  (M : Mem) (Q : Int → Mem → Prop) : Prop := ∀ x1 : Int, x1 = M 1 5 → iR x1 → (
∀ x2 : Int, x2 = M 1 20 → iR x2 → (
iR (x1 + x2) ∧ (
(((¬ (x1 + x2) = 8) → (qX12_readsCell 0 M (fun (x5 : Int) (M5 : Mem) => iR x5 → (
∀ x6 : Int, x6 = M5 1 20 → iR x6 → (
(0 ≤ (2 * x6)) ∧ (
((2 * x6) < 16) ∧ (
∀ M9 : Mem, M9 = up2 M5 9 (2 * x6) x5 → (
∀ x10 : Int, x10 = M9 1 20 → iR x10 → (
(((0 ≤ x5) → (∀ x12 : Int, x12 = M9 1 4 → iR x12 → (
(0 ≤ x12) ∧ (
(x12 ≤ ((bS 2).length : Int)) ∧ (
qX12_takesOf ((bS 2).take x12.toNat) M9 (fun (x16 : Int) (M16 : Mem) => iR x16 → (
qX12_readsMourner_J68  Q x16 ((2 * x10) + 1) M16))))))) ∧
((¬ (0 ≤ x5)) → (qX12_readsMourner_J68  Q (-1) ((2 * x10) + 1) M9)))))))))))) ∧
(((x1 + x2) = 8) → (Q 0 M))))))
def qX12_mourners_L29  (X60 : Int → Int → Mem → Prop) (Q : Int → Mem → Prop) : Nat → Int → Int → Int → Mem → Prop
  | 0, _, _, _, _ => False
  | n + 1, v1, v2, v3, M => iR v3 ∧ (
(((v3 = 0) → (X60 v1 v2 M)) ∧
((¬ (v3 = 0)) → (qX12_readsMourner  M (fun (x7 : Int) (M7 : Mem) => iR x7 → (x7 = 0 ∨ x7 = 1) → (
(((x7 = 0) → (qX12_mourners_L29  X60 Q n v1 x7 0 M7)) ∧
((¬ (x7 = 0)) → (qX12_takes 59 M7 (fun (x9 : Int) (M9 : Mem) => iR x9 → (x9 = 0 ∨ x9 = 1) → (
(((x9 = 0) → (qX12_mourners_L29  X60 Q n v1 x7 0 M9)) ∧
((¬ (x9 = 0)) → (qX12_mourners_L29  X60 Q n v1 x7 1 M9))))))))))))))
def qX12_mourners_L81  (X173 : Mem → Prop) (Q : Int → Mem → Prop) : Nat → Int → Mem → Prop
  | 0, _, _ => False
  | n + 1, v5, M => ∀ x16 : Int, x16 = M 1 20 → iR x16 → (
iR v5 ∧ (
(((x16 ≤ v5) → (X173  M)) ∧
((¬ (x16 ≤ v5)) → (∀ x19 : Int, x19 = M 1 5 → iR x19 → (
(0 ≤ (2 * v5)) ∧ (
((2 * v5) < 16) ∧ (
∀ x22 : Int, x22 = M 9 (2 * v5) → iR x22 → (
(0 ≤ (13 + x19)) ∧ (
((13 + x19) < 38) ∧ (
∀ M25 : Mem, M25 = up2 M 5 (13 + x19) x22 → (
∀ x26 : Int, x26 = M25 1 5 → iR x26 → (
(0 ≤ ((2 * v5) + 1)) ∧ (
(((2 * v5) + 1) < 16) ∧ (
∀ x29 : Int, x29 = M25 9 ((2 * v5) + 1) → iR x29 → (
(0 ≤ x26) ∧ (
(x26 < 8) ∧ (
∀ M32 : Mem, M32 = up2 M25 3 x26 x29 → (
∀ x33 : Int, x33 = M32 1 5 → iR x33 → (
(0 ≤ (21 + x33)) ∧ (
((21 + x33) < 38) ∧ (
∀ M36 : Mem, M36 = up2 M32 5 (21 + x33) (-1) → (
∀ x37 : Int, x37 = M36 1 5 → iR x37 → (
(0 ≤ (29 + x37)) ∧ (
((29 + x37) < 38) ∧ (
∀ M40 : Mem, M40 = up2 M36 5 (29 + x37) (-1) → (
∀ x41 : Int, x41 = M40 1 5 → iR x41 → (
iR (x41 + 1) ∧ (
∀ M43 : Mem, M43 = up2 M40 1 5 (x41 + 1) → (
qX12_mourners_L81  X173 Q n (v5 + 1) M43))))))))))))))))))))))))))))))
def qX12_mourners  (M : Mem) (Q : Int → Mem → Prop) : Prop := ∀ M1 : Mem, M1 = up2 M 1 0 0 → (
qX12_begins 39 M1 (fun (x2 : Int) (M2 : Mem) => iR x2 → (
∀ M3 : Mem, M3 = up2 M2 1 20 0 → (
(((x2 ≤ 0) → (∃ n11 : Nat, n11 ≤ 10 ∧ (qX12_mourners_L29  (fun (v1 : Int) (v2 : Int) (M : Mem) => iR v1 ∧ (
iR v2 ∧ (
qX12_faultOf v1 39 v2 M (fun (x14 : Int) (M14 : Mem) => iR x14 → (
(((0 ≤ x14) → (∃ n44 : Nat, qX12_mourners_L81  (fun  (M : Mem) => qX12_isNew  M (fun (x45 : Int) (M45 : Mem) => iR x45 → (
Q x45 M45))) Q n44 0 M14)) ∧
((¬ (0 ≤ x14)) → (Q x14 M14)))))))) Q n11 x2 1 0 M3))) ∧
((¬ (x2 ≤ 0)) → (∃ n46 : Nat, n46 ≤ 10 ∧ (qX12_mourners_L29  (fun (v1 : Int) (v2 : Int) (M : Mem) => iR v1 ∧ (
iR v2 ∧ (
qX12_faultOf v1 39 v2 M (fun (x49 : Int) (M49 : Mem) => iR x49 → (
(((0 ≤ x49) → (∃ n51 : Nat, qX12_mourners_L81  (fun  (M : Mem) => qX12_isNew  M (fun (x52 : Int) (M52 : Mem) => iR x52 → (
Q x52 M52))) Q n51 0 M49)) ∧
((¬ (0 ≤ x49)) → (Q x49 M49)))))))) Q n46 x2 1 1 M3))))))))
def qX12_weather_L14  (X44 : Int → Mem → Prop) (Q : Int → Mem → Prop) : Nat → Int → Mem → Prop
  | 0, _, _ => False
  | n + 1, v1, M => iR v1 ∧ (
(((20 ≤ v1) → (X44 v1 M)) ∧
((¬ (20 ≤ v1)) → (qX12_isDigit  M (fun (x5 : Int) (M5 : Mem) => iR x5 → (x5 = 0 ∨ x5 = 1) → (
(((x5 = 0) → (X44 v1 M5)) ∧
((¬ (x5 = 0)) → (qX12_number 1 M5 (fun (x7 : Int) (M7 : Mem) => iR x7 → (
(0 ≤ v1) ∧ (
(v1 < 20) ∧ (
∀ M10 : Mem, M10 = up2 M7 10 v1 x7 → (
qX12_weather_L14  X44 Q n (v1 + 1) M10))))))))))))))
def qX12_weather_L73   (Q : Int → Mem → Prop) : Nat → Int → Int → Mem → Prop
  | 0, _, _, _ => False
  | n + 1, v1, v2, M => iR v2 ∧ (
iR v1 ∧ (
(((v1 ≤ v2) → (Q v1 M)) ∧
((¬ (v1 ≤ v2)) → ((0 ≤ v2) ∧ (
(v2 < 20) ∧ (
∀ x25 : Int, x25 = M 10 v2 → iR x25 → (
∀ M26 : Mem, M26 = up2 M 4 v2 x25 → (
qX12_weather_L73   Q n v1 (v2 + 1) M26)))))))))
def qX12_weather_J44  (Q : Int → Mem → Prop) (v1 : Int) (M : Mem) : Prop := iR v1 ∧ (
(((v1 = 0) → (∀ x14 : Int, x14 = M 1 15 → iR x14 → (
iR ((-1) - x14) ∧ (
Q ((-1) - x14) M)))) ∧
((¬ (v1 = 0)) → (∀ x16 : Int, x16 = M 1 15 → iR x16 → (
∀ x17 : Int, x17 = M 1 16 → iR x17 → (
(((x17 ≤ x16) → (∀ M19 : Mem, M19 = up2 M 1 7 v1 → (
∃ n27 : Nat, qX12_weather_L73   Q n27 v1 0 M19))) ∧
((¬ (x17 ≤ x16)) → (∀ x28 : Int, x28 = M 1 15 → iR x28 → (
iR ((-1) - x28) ∧ (
Q ((-1) - x28) M)))))))))))
def qX12_weather  (M : Mem) (Q : Int → Mem → Prop) : Prop := ∀ M1 : Mem, M1 = up2 M 1 0 0 → (
qX12_begins 80 M1 (fun (x2 : Int) (M2 : Mem) => iR x2 → (
∃ n11 : Nat, qX12_weather_L14  (fun (v1 : Int) (M : Mem) => qX12_weather_J44  Q v1 M) Q n11 0 M2)))
def qX12_laysCode_L7 (k1 : Nat) (p2 : Int)  (Q : Mem → Prop) : Nat → Int → Mem → Prop
  | 0, _, _ => False
  | n + 1, v3, M => iR v3 ∧ (
(((p2 ≤ v3) → (Q M)) ∧
((¬ (p2 ≤ v3)) → ((0 ≤ v3) ∧ (
(v3 < 80) ∧ (
∀ x6 : Int, x6 = M k1 v3 → iR x6 → (
∀ M7 : Mem, M7 = up2 M 11 v3 x6 → (
qX12_laysCode_L7 k1 p2  Q n (v3 + 1) M7))))))))
def qX12_laysCode (k1 : Nat) (p2 : Int) (M : Mem) (Q : Mem → Prop) : Prop := ∀ M1 : Mem, M1 = up2 M 1 24 p2 → (
∃ n8 : Nat, qX12_laysCode_L7 k1 p2  Q n8 0 M1)
def qX12_codes (p1 : Int) (M : Mem) (Q : Mem → Prop) : Prop := ∀ x1 : Int, x1 = M 1 25 → iR x1 → (
(0 ≤ x1) ∧ (
(x1 < 80) ∧ (
∀ M4 : Mem, M4 = up2 M 12 x1 p1 → (
∀ x5 : Int, x5 = M4 1 25 → iR x5 → (
iR (x5 + 1) ∧ (
∀ M7 : Mem, M7 = up2 M4 1 25 (x5 + 1) → (
Q M7)))))))
def bX12_readsThing (rc : Nat → Int → Mem → (Int → Mem → Prop) → Prop)  (M : Mem) (Q : Int → Mem → Prop) : Prop := qX12_takes 45 M (fun (x1 : Int) (M1 : Mem) => iR x1 → (x1 = 0 ∨ x1 = 1) → (
(((x1 = 0) → (qX12_isDigit  M1 (fun (x3 : Int) (M3 : Mem) => iR x3 → (x3 = 0 ∨ x3 = 1) → (
(((x3 = 0) → (qX12_takesOf (bS 4) M3 (fun (x5 : Int) (M5 : Mem) => iR x5 → (
(((x5 < 0) → (∀ x7 : Int, x7 = M5 1 17 → iR x7 → (
(((x7 = 4) → (Q 0 M5)) ∧
((¬ (x7 = 4)) → (qX12_takes 40 M5 (fun (x9 : Int) (M9 : Mem) => iR x9 → (x9 = 0 ∨ x9 = 1) → (
(((¬ x9 = 0) → (∀ x11 : Int, x11 = M9 1 17 → iR x11 → (
iR (x11 + 1) ∧ (
∀ M13 : Mem, M13 = up2 M9 1 17 (x11 + 1) → (
rc 1 0 M13 (fun (x14 : Int) (M14 : Mem) => iR x14 → (x14 = 0 ∨ x14 = 1) → (
(((x14 = 0) → (Q 0 M14)) ∧
((¬ (x14 = 0)) → (qX12_takes 41 M14 (fun (x16 : Int) (M16 : Mem) => iR x16 → (x16 = 0 ∨ x16 = 1) → (
(((¬ x16 = 0) → (∀ x18 : Int, x18 = M16 1 17 → iR x18 → (
iR (x18 - 1) ∧ (
∀ M20 : Mem, M20 = up2 M16 1 17 (x18 - 1) → (
Q 1 M20))))) ∧
((x16 = 0) → (Q 0 M16))))))))))))))) ∧
((x9 = 0) → (Q 0 M9))))))))))) ∧
((¬ (x5 < 0)) → (iR (1000 + x5) ∧ (
qX12_codes (1000 + x5) M5 (fun (M22 : Mem) =>  (
Q 1 M22)))))))))) ∧
((¬ (x3 = 0)) → (qX12_number 3 M3 (fun (x23 : Int) (M23 : Mem) => iR x23 → (
qX12_codes x23 M23 (fun (M24 : Mem) =>  (
Q 1 M24))))))))))) ∧
((¬ (x1 = 0)) → (rc 0 0  M1 (fun (x25 : Int) (M25 : Mem) => iR x25 → (x25 = 0 ∨ x25 = 1) → (
qX12_codes 3000 M25 (fun (M26 : Mem) =>  (
(x25 = 0 ∨ x25 = 1) ∧ (
Q x25 M26))))))))))
def qX12_readsRank_J96 (rc : Nat → Int → Mem → (Int → Mem → Prop) → Prop) (p1 : Int) (R : Int → Mem → Prop)  (Q : Int → Mem → Prop) (t0 : Int) (t1 : Int) (M : Mem) : Prop := iR (t1 + t0) ∧ (
qX12_codes (t1 + t0) M (fun (M18 : Mem) =>  (
(((p1 ≤ 0) → (R 0 M18)) ∧
((¬ (p1 ≤ 0)) → (R 1 M18))))))
def qX12_readsRank_J50 (rc : Nat → Int → Mem → (Int → Mem → Prop) → Prop) (p1 : Int) (R : Int → Mem → Prop)  (Q : Int → Mem → Prop) (t0 : Nat) (M : Mem) : Prop := (t0 < 9) ∧ (
qX12_takesOf (bS t0) M (fun (x9 : Int) (M9 : Mem) => iR x9 → (
(((0 ≤ x9) → (iR (p1 + 1) ∧ (
rc 1 (p1 + 1) M9 (fun (x13 : Int) (M13 : Mem) => iR x13 → (x13 = 0 ∨ x13 = 1) → (
(((¬ x13 = 0) → ((((¬ p1 = 0) → ((((¬ p1 = 1) → (qX12_readsRank_J96 rc p1 (R)  Q 5 (2000 + x9) M13)) ∧
((p1 = 1) → (qX12_readsRank_J96 rc p1 (R)  Q 3 (2000 + x9) M13))))) ∧
((p1 = 0) → (qX12_readsRank_J96 rc p1 (R)  Q 0 (2000 + x9) M13))))) ∧
((x13 = 0) → (Q 0 M13)))))))) ∧
((¬ (0 ≤ x9)) → (Q 1 M9))))))
def qX12_readsRank_L24 (rc : Nat → Int → Mem → (Int → Mem → Prop) → Prop) (p1 : Int)  (Q : Int → Mem → Prop) : Nat → Int → Mem → Prop
  | 0, _, _ => False
  | n + 1, v2, M => iR v2 ∧ (
(((v2 = 0) → (Q 1 M)) ∧
((¬ (v2 = 0)) → ((((¬ p1 = 0) → ((((¬ p1 = 1) → (qX12_readsRank_J50 rc p1 (qX12_readsRank_L24 rc p1  Q n)  Q 7 M)) ∧
((p1 = 1) → (qX12_readsRank_J50 rc p1 (qX12_readsRank_L24 rc p1  Q n)  Q 6 M))))) ∧
((p1 = 0) → (qX12_readsRank_J50 rc p1 (qX12_readsRank_L24 rc p1  Q n)  Q 5 M)))))))
def bX12_readsRank (rc : Nat → Int → Mem → (Int → Mem → Prop) → Prop) (p1 : Int) (M : Mem) (Q : Int → Mem → Prop) : Prop := (((¬ p1 = 3) → (iR (p1 + 1) ∧ (
rc 1 (p1 + 1) M (fun (x3 : Int) (M3 : Mem) => iR x3 → (x3 = 0 ∨ x3 = 1) → (
(((¬ x3 = 0) → (∃ n20 : Nat, qX12_readsRank_L24 rc p1  Q n20 1 M3)) ∧
((x3 = 0) → (Q 0 M3)))))))) ∧
((p1 = 3) → (rc 0 0  M (fun (x21 : Int) (M21 : Mem) => iR x21 → (x21 = 0 ∨ x21 = 1) → (
(x21 = 0 ∨ x21 = 1) ∧ (
Q x21 M21))))))
def qX12_reads : Nat → Nat → Int → Mem → (Int → Mem → Prop) → Prop
  | 0, _, _, _, _ => False
  | d + 1, 0, _, M, Q => bX12_readsThing (qX12_reads d) M Q
  | d + 1, _ + 1, p1, M, Q => bX12_readsRank (qX12_reads d) p1 M Q
def qX12_readsRank (d : Nat) (p1 : Int) (M : Mem) (Q : Int → Mem → Prop) : Prop := qX12_reads d 1 p1 M Q
def qX12_readsRule_J29  (Q : Int → Mem → Prop) (v1 : Int) (t0 : Int) (M : Mem) : Prop := iR v1 ∧ (
iR t0 ∧ (
qX12_faultOf v1 40 t0 M (fun (x6 : Int) (M6 : Mem) => iR x6 → (
Q x6 M6))))
def qX12_readsRule_J24  (Q : Int → Mem → Prop) (v1 : Int) (M : Mem) : Prop := qX12_readsRule_J29  Q v1 1 M
def qX12_readsRule  (M : Mem) (Q : Int → Mem → Prop) : Prop := qX12_begins 40 M (fun (x1 : Int) (M1 : Mem) => iR x1 → (
∀ M2 : Mem, M2 = up2 M1 1 25 0 → (
(((x1 = 0) → (qX12_readsRule_J24  Q x1 M2)) ∧
((¬ (x1 = 0)) → (∃ d8 : Nat, d8 ≤ 140 ∧ (
qX12_readsRank d8 0 M2 (fun (x7 : Int) (M7 : Mem) => iR x7 → (x7 = 0 ∨ x7 = 1) → (
(((x7 = 0) → (qX12_readsRule_J29  Q x1 0 M7)) ∧
((¬ (x7 = 0)) → (qX12_readsRule_J24  Q x1 M7))))))))))))
def qX12_rule  (M : Mem) (Q : Int → Mem → Prop) : Prop := ∀ M1 : Mem, M1 = up2 M 1 0 0 → (
qX12_readsRule  M1 (fun (x2 : Int) (M2 : Mem) => iR x2 → (
(((¬ x2 = 0) → (Q x2 M2)) ∧
((x2 = 0) → (∀ x4 : Int, x4 = M2 1 25 → iR x4 → (
qX12_laysCode 12 x4 M2 (fun (M5 : Mem) =>  (
Q x2 M5)))))))))
def qX12_bitsBy_L6 (k1 : Nat) (p2 : Int) (p3 : Int)  (Q : Int → Mem → Prop) : Nat → Int → Int → Mem → Prop
  | 0, _, _, _ => False
  | n + 1, v4, v5, M => ∀ x1 : Int, x1 = M 1 5 → iR x1 → (
iR v5 ∧ (
(((x1 ≤ v5) → (iR v4 ∧ (
Q v4 M))) ∧
((¬ (x1 ≤ v5)) → ((0 ≤ (p2 + v5)) ∧ (
((p2 + v5) < 38) ∧ (
∀ x7 : Int, x7 = M k1 (p2 + v5) → iR x7 → (
(((¬ x7 = p3) → (∀ x9 : Int, x9 = oI v4 0 → iR x9 → (
qX12_bitsBy_L6 k1 p2 p3  Q n x9 (v5 + 1) M))) ∧
((x7 = p3) → (∀ x10 : Int, x10 = slI 1 v5 → iR x10 → (
∀ x11 : Int, x11 = oI v4 x10 → iR x11 → (
qX12_bitsBy_L6 k1 p2 p3  Q n x11 (v5 + 1) M)))))))))))))
def qX12_bitsBy (k1 : Nat) (p2 : Int) (p3 : Int) (M : Mem) (Q : Int → Mem → Prop) : Prop := ∃ n12 : Nat, qX12_bitsBy_L6 k1 p2 p3  Q n12 0 0 M
def qX12_isHearse (p1 : Int) (M : Mem) (Q : Int → Mem → Prop) : Prop := ∀ x1 : Int, x1 = M 1 4 → iR x1 → (
iR (x1 - 1) ∧ (
qX12_in p1 0 (x1 - 1) M (fun (x3 : Int) (M3 : Mem) => iR x3 → (x3 = 0 ∨ x3 = 1) → (
(x3 = 0 ∨ x3 = 1) ∧ (
Q x3 M3)))))
def qX12_owners_L4 (p1 : Int)  (Q : Int → Mem → Prop) : Nat → Int → Int → Mem → Prop
  | 0, _, _, _ => False
  | n + 1, v2, v3, M => ∀ x1 : Int, x1 = M 1 5 → iR x1 → (
iR v3 ∧ (
(((x1 ≤ v3) → (iR v2 ∧ (
Q v2 M))) ∧
((¬ (x1 ≤ v3)) → ((0 ≤ v3) ∧ (
(v3 < 8) ∧ (
∀ x7 : Int, x7 = M 3 v3 → iR x7 → (
(((¬ x7 = p1) → (∀ x9 : Int, x9 = oI v2 0 → iR x9 → (
qX12_owners_L4 p1  Q n x9 (v3 + 1) M))) ∧
((x7 = p1) → (∀ x10 : Int, x10 = slI 1 v3 → iR x10 → (
∀ x11 : Int, x11 = oI v2 x10 → iR x11 → (
qX12_owners_L4 p1  Q n x11 (v3 + 1) M)))))))))))))
def qX12_owners (p1 : Int) (M : Mem) (Q : Int → Mem → Prop) : Prop := ∃ n12 : Nat, qX12_owners_L4 p1  Q n12 0 0 M
def qX12_freeAhead_L2 (k1 : Nat) (p2 : Int)  (Q : Int → Mem → Prop) : Nat → Int → Mem → Prop
  | 0, _, _ => False
  | n + 1, v3, M => qX12_gate  M (fun (x1 : Int) (M1 : Mem) => iR x1 → (
iR (p2 + v3) ∧ (
(((x1 ≤ (p2 + v3)) → (iR v3 ∧ (
Q v3 M1))) ∧
((¬ (x1 ≤ (p2 + v3))) → (qX12_gate  M1 (fun (x5 : Int) (M5 : Mem) => iR x5 → (
iR ((p2 + v3) + 1) ∧ (
(((((p2 + v3) + 1) = x5) → (qX12_freeAhead_L2 k1 p2  Q n (v3 + 1) M5)) ∧
((¬ (((p2 + v3) + 1) = x5)) → (qX12_onCell k1 ((p2 + v3) + 1) M5 (fun (x8 : Int) (M8 : Mem) => iR x8 → (
(((0 ≤ x8) → (iR v3 ∧ (
Q v3 M8))) ∧
((¬ (0 ≤ x8)) → (qX12_freeAhead_L2 k1 p2  Q n (v3 + 1) M8)))))))))))))))))
def qX12_freeAhead (k1 : Nat) (p2 : Int) (M : Mem) (Q : Int → Mem → Prop) : Prop := ∃ n11 : Nat, qX12_freeAhead_L2 k1 p2  Q n11 0 M
def qX12_isOn (k0 : Nat) (p1 : Int) (M : Mem) (Q : Int → Mem → Prop) : Prop := (0 ≤ p1) ∧ (
(p1 < 38) ∧ (
∀ x3 : Int, x3 = M k0 p1 → iR x3 → (
(((x3 < 0) → (Q 0 M)) ∧
((¬ (x3 < 0)) → (Q 1 M))))))
def qX12_worked_J50 (p0 : Int) (p1 : Int) (p2 : Int) (Q : Int → Mem → Prop) (t0 : Int) (M : Mem) : Prop := iR t0 ∧ (
qX12_flag t0 M (fun (x4 : Int) (M4 : Mem) => iR x4 → (
Q x4 M4)))
def qX12_worked_J64 (p0 : Int) (p1 : Int) (p2 : Int) (Q : Int → Mem → Prop) (t0 : Int) (M : Mem) : Prop := iR t0 ∧ (
qX12_flag t0 M (fun (x7 : Int) (M7 : Mem) => iR x7 → (
Q x7 M7)))
def qX12_worked_J78 (p0 : Int) (p1 : Int) (p2 : Int) (Q : Int → Mem → Prop) (t0 : Int) (M : Mem) : Prop := iR t0 ∧ (
qX12_flag t0 M (fun (x10 : Int) (M10 : Mem) => iR x10 → (
Q x10 M10)))
def qX12_worked (p0 : Int) (p1 : Int) (p2 : Int) (M : Mem) (Q : Int → Mem → Prop) : Prop := ((p0 = 0 → ((((p2 ≤ p1) → (qX12_worked_J50 p0 p1 p2 Q 0 M)) ∧
((¬ (p2 ≤ p1)) → (qX12_worked_J50 p0 p1 p2 Q 1 M))))) ∧
(p0 = 1 → ((((p1 ≤ p2) → (qX12_worked_J64 p0 p1 p2 Q 0 M)) ∧
((¬ (p1 ≤ p2)) → (qX12_worked_J64 p0 p1 p2 Q 1 M))))) ∧
(p0 = 2 → ((((¬ p1 = p2) → (qX12_worked_J78 p0 p1 p2 Q 0 M)) ∧
((p1 = p2) → (qX12_worked_J78 p0 p1 p2 Q 1 M))))) ∧
(p0 = 3 → (∀ x11 : Int, x11 = w32 (p1 + p2) → iR x11 → (
Q x11 M))) ∧
(p0 = 4 → (∀ x12 : Int, x12 = w32 (p1 - p2) → iR x12 → (
Q x12 M))) ∧
(p0 = 5 → (∀ x13 : Int, x13 = w32 (p1 * p2) → iR x13 → (
Q x13 M))) ∧
((p0 < 0 ∨ 5 < p0) → ((((¬ p2 = 0) → ((¬ p2 = 0) ∧ (
∀ x16 : Int, x16 = dvI p1 p2 → iR x16 → (
Q x16 M)))) ∧
((p2 = 0) → (Q 0 M))))))
def qX12_ruled_J115  (R : Int → Int → Mem → Prop) (X125 : Mem → Prop) (Q : Int → Mem → Prop) (v1 : Int) (v2 : Int) (t0 : Int) (t1 : Int) (M : Mem) : Prop := (0 ≤ t1) ∧ (
(t1 < 80) ∧ (
iR t0 ∧ (
∀ M13 : Mem, M13 = up2 M 13 t1 t0 → (
R (v1 + 1) (v2 + 1) M13))))
def qX12_ruled_L4  (X125 : Mem → Prop) (Q : Int → Mem → Prop) : Nat → Int → Int → Mem → Prop
  | 0, _, _, _ => False
  | n + 1, v1, v2, M => ∀ x1 : Int, x1 = M 1 24 → iR x1 → (
iR v2 ∧ (
(((x1 ≤ v2) → (X125  M)) ∧
((¬ (x1 ≤ v2)) → ((0 ≤ v2) ∧ (
(v2 < 80) ∧ (
∀ x6 : Int, x6 = M 11 v2 → iR x6 → (
(((¬ x6 = 3000) → ((((x6 < 2000) → ((((x6 < 1000) → (qX12_ruled_J115  (qX12_ruled_L4  X125 Q n) X125 Q v1 v2 x6 v1 M)) ∧
((¬ (x6 < 1000)) → (∀ x14 : Int, x14 = w32 (x6 - 1000) → iR x14 → (
(0 ≤ x14) ∧ (
(x14 < 7) ∧ (
∀ x17 : Int, x17 = M 14 x14 → iR x17 → (
qX12_ruled_J115  (qX12_ruled_L4  X125 Q n) X125 Q v1 v2 x17 v1 M))))))))) ∧
((¬ (x6 < 2000)) → (∀ x18 : Int, x18 = w32 ((v1 + (-1)) - 1) → iR x18 → (
∀ x19 : Int, x19 = w32 (x6 - 2000) → iR x19 → (
∀ x20 : Int, x20 = w32 ((v1 + (-1)) - 1) → iR x20 → (
(0 ≤ x20) ∧ (
(x20 < 80) ∧ (
∀ x23 : Int, x23 = M 13 x20 → iR x23 → (
(0 ≤ (v1 + (-1))) ∧ (
((v1 + (-1)) < 80) ∧ (
∀ x26 : Int, x26 = M 13 (v1 + (-1)) → iR x26 → (
qX12_worked x19 x23 x26 M (fun (x27 : Int) (M27 : Mem) => iR x27 → (
(0 ≤ x18) ∧ (
(x18 < 80) ∧ (
∀ M30 : Mem, M30 = up2 M27 13 x18 x27 → (
qX12_ruled_L4  X125 Q n (v1 + (-1)) (v2 + 1) M30))))))))))))))))))) ∧
((x6 = 3000) → (∀ x31 : Int, x31 = w32 (v1 - 1) → iR x31 → (
∀ x32 : Int, x32 = w32 (v1 - 1) → iR x32 → (
(0 ≤ x32) ∧ (
(x32 < 80) ∧ (
∀ x35 : Int, x35 = M 13 x32 → iR x35 → (
∀ x36 : Int, x36 = w32 (-x35) → iR x36 → (
(0 ≤ x31) ∧ (
(x31 < 80) ∧ (
∀ M39 : Mem, M39 = up2 M 13 x31 x36 → (
qX12_ruled_L4  X125 Q n v1 (v2 + 1) M39))))))))))))))))))))
def qX12_ruled_J148  (Q : Int → Mem → Prop) (t0 : Int) (t1 : Int) (M : Mem) : Prop := iR t0 ∧ (
qX12_flag t0 M (fun (x47 : Int) (M47 : Mem) => iR x47 → (
∀ x48 : Int, x48 = w32 (t1 + x47) → iR x48 → (
Q x48 M47))))
def qX12_ruled  (M : Mem) (Q : Int → Mem → Prop) : Prop := ∃ n40 : Nat, qX12_ruled_L4  (fun  (M : Mem) => ∀ x41 : Int, x41 = M 1 24 → iR x41 → (
(((¬ x41 = 0) → (∀ x43 : Int, x43 = M 13 0 → iR x43 → (
Q x43 M))) ∧
((x41 = 0) → (∀ x44 : Int, x44 = M 14 1 → iR x44 → (
(((x44 ≤ 2) → (qX12_ruled_J148  Q 0 1 M)) ∧
((¬ (x44 ≤ 2)) → (qX12_ruled_J148  Q 1 1 M))))))))) Q n40 0 0 M
def qX12_weatherOn (p1 : Int) (M : Mem) (Q : Int → Mem → Prop) : Prop := ∀ x1 : Int, x1 = M 1 7 → iR x1 → (
(¬ x1 = 0) ∧ (
∀ x3 : Int, x3 = rmI p1 x1 → iR x3 → (
(0 ≤ x3) ∧ (
(x3 < 20) ∧ (
∀ x6 : Int, x6 = M 4 x3 → iR x6 → (
Q x6 M))))))
def qX12_paceOf (k1 : Nat) (p2 : Int) (M : Mem) (Q : Int → Mem → Prop) : Prop := qX12_isOn k1 p2 M (fun (x1 : Int) (M1 : Mem) => iR x1 → (x1 = 0 ∨ x1 = 1) → (
(((¬ x1 = 0) → ((0 ≤ p2) ∧ (
(p2 < 38) ∧ (
∀ x5 : Int, x5 = M1 k1 p2 → iR x5 → (
∀ M6 : Mem, M6 = up2 M1 14 0 x5 → (
∀ x7 : Int, x7 = M6 k1 p2 → iR x7 → (
qX12_freeAhead k1 x7 M6 (fun (x8 : Int) (M8 : Mem) => iR x8 → (
∀ M9 : Mem, M9 = up2 M8 14 1 x8 → (
∀ x10 : Int, x10 = M9 k1 p2 → iR x10 → (
(0 ≤ x10) ∧ (
(x10 < 30) ∧ (
∀ x13 : Int, x13 = M9 2 x10 → iR x13 → (
qX12_flag x13 M9 (fun (x14 : Int) (M14 : Mem) => iR x14 → (
∀ M15 : Mem, M15 = up2 M14 14 2 x14 → (
∀ x16 : Int, x16 = M15 k1 37 → iR x16 → (
qX12_weatherOn x16 M15 (fun (x17 : Int) (M17 : Mem) => iR x17 → (
∀ M18 : Mem, M18 = up2 M17 14 3 x17 → (
∀ x19 : Int, x19 = M18 k1 37 → iR x19 → (
∀ x20 : Int, x20 = rmI x19 10 → iR x20 → (
∀ M21 : Mem, M21 = up2 M18 14 4 x20 → (
∀ M22 : Mem, M22 = up2 M21 14 5 p2 → (
qX12_bitsBy k1 21 p2 M22 (fun (x23 : Int) (M23 : Mem) => iR x23 → (
qJ6_bitCount_0f7a4 x23 M23 (fun (x24 : Int) (M24 : Mem) => iR x24 → (
∀ M25 : Mem, M25 = up2 M24 14 6 x24 → (
qX12_ruled  M25 (fun (x26 : Int) (M26 : Mem) => iR x26 → (
∀ x27 : Int, x27 = min 3 x26 → iR x27 → (
∀ x28 : Int, x28 = max 0 x27 → iR x28 → (
Q x28 M26)))))))))))))))))))))))))))))))))) ∧
((x1 = 0) → (Q 0 M1)))))
def qX12_refuse  (M : Mem) (Q : Int → Mem → Prop) : Prop := ∀ M1 : Mem, M1 = up2 M 1 0 1 → (
Q 0 M1)
def qX12_hearse_J25 (p1 : Int) (p2 : Int) (Q : Int → Mem → Prop)  (M : Mem) : Prop := qX12_refuse  M (fun (x4 : Int) (M4 : Mem) => iR x4 → (
Q x4 M4))
def qX12_hearse (p1 : Int) (p2 : Int) (M : Mem) (Q : Int → Mem → Prop) : Prop := ∀ M1 : Mem, M1 = up2 M 1 0 0 → (
qX12_isHearse p1 M1 (fun (x2 : Int) (M2 : Mem) => iR x2 → (x2 = 0 ∨ x2 = 1) → (
(((x2 = 0) → (qX12_hearse_J25 p1 p2 Q  M2)) ∧
((¬ (x2 = 0)) → (qX12_in p2 0 5 M2 (fun (x5 : Int) (M5 : Mem) => iR x5 → (x5 = 0 ∨ x5 = 1) → (
(((¬ x5 = 0) → (((p2 = 0 → ((0 ≤ p1) ∧ (
(p1 < 38) ∧ (
∀ x10 : Int, x10 = M5 5 p1 → iR x10 → (
Q x10 M5))))) ∧
(p2 = 1 → ((0 ≤ (6 + p1)) ∧ (
((6 + p1) < 38) ∧ (
∀ x13 : Int, x13 = M5 5 (6 + p1) → iR x13 → (
Q x13 M5))))) ∧
(p2 = 2 → (qX12_paceOf 5 p1 M5 (fun (x14 : Int) (M14 : Mem) => iR x14 → (
Q x14 M14)))) ∧
(p2 = 3 → (qX12_bitsBy 5 21 p1 M5 (fun (x15 : Int) (M15 : Mem) => iR x15 → (
Q x15 M15)))) ∧
(p2 = 4 → (qX12_bitsBy 5 29 p1 M5 (fun (x16 : Int) (M16 : Mem) => iR x16 → (
Q x16 M16)))) ∧
((p2 < 0 ∨ 4 < p2) → (qX12_owners p1 M5 (fun (x17 : Int) (M17 : Mem) => iR x17 → (
Q x17 M17))))))) ∧
((x5 = 0) → (qX12_hearse_J25 p1 p2 Q  M5)))))))))))
def qX12_isMourner (p1 : Int) (M : Mem) (Q : Int → Mem → Prop) : Prop := ∀ x1 : Int, x1 = M 1 5 → iR x1 → (
iR (x1 - 1) ∧ (
qX12_in p1 0 (x1 - 1) M (fun (x3 : Int) (M3 : Mem) => iR x3 → (x3 = 0 ∨ x3 = 1) → (
(x3 = 0 ∨ x3 = 1) ∧ (
Q x3 M3)))))
def qX12_nearest_J52 (k1 : Nat) (p2 : Int) (R : Int → Int → Mem → Prop)  (Q : Int → Mem → Prop) (v3 : Int) (v4 : Int) (v5 : Int) (t0 : Int) (M : Mem) : Prop := iR v5 ∧ (
iR t0 ∧ (
(((v5 < t0) → (R v4 (v4 + 1) M)) ∧
((¬ (v5 < t0)) → ((((¬ v5 = t0) → (R v3 (v4 + 1) M)) ∧
((v5 = t0) → ((0 ≤ v4) ∧ (
(v4 < 38) ∧ (
∀ x25 : Int, x25 = M k1 v4 → iR x25 → (
(0 ≤ v3) ∧ (
(v3 < 38) ∧ (
∀ x28 : Int, x28 = M k1 v3 → iR x28 → (
(((x25 ≤ x28) → (R v3 (v4 + 1) M)) ∧
((¬ (x25 ≤ x28)) → (R v4 (v4 + 1) M)))))))))))))))))
def qX12_nearest_L5 (k1 : Nat) (p2 : Int)  (Q : Int → Mem → Prop) : Nat → Int → Int → Mem → Prop
  | 0, _, _, _ => False
  | n + 1, v3, v4, M => ∀ x1 : Int, x1 = M 1 4 → iR x1 → (
iR v4 ∧ (
(((x1 ≤ v4) → (iR v3 ∧ (
Q v3 M))) ∧
((¬ (x1 ≤ v4)) → (qX12_isOn k1 v4 M (fun (x5 : Int) (M5 : Mem) => iR x5 → (x5 = 0 ∨ x5 = 1) → (
(((x5 = 0) → (qX12_nearest_L5 k1 p2  Q n v3 (v4 + 1) M5)) ∧
((¬ (x5 = 0)) → ((0 ≤ v4) ∧ (
(v4 < 38) ∧ (
∀ x9 : Int, x9 = M5 k1 v4 → iR x9 → (
iR (x9 - p2) ∧ (
∀ x11 : Int, (0 ≤ (x9 - p2) → x11 = (x9 - p2)) → ((x9 - p2) < 0 → x11 = -(x9 - p2)) → (
iR v3 ∧ (
(((0 ≤ v3) → ((0 ≤ v3) ∧ (
(v3 < 38) ∧ (
∀ x16 : Int, x16 = M5 k1 v3 → iR x16 → (
iR (x16 - p2) ∧ (
∀ x18 : Int, (0 ≤ (x16 - p2) → x18 = (x16 - p2)) → ((x16 - p2) < 0 → x18 = -(x16 - p2)) → (
qX12_nearest_J52 k1 p2 (qX12_nearest_L5 k1 p2  Q n)  Q v3 v4 x11 x18 M5))))))) ∧
((¬ (0 ≤ v3)) → (qX12_nearest_J52 k1 p2 (qX12_nearest_L5 k1 p2  Q n)  Q v3 v4 x11 1000000 M5)))))))))))))))))))
def qX12_nearest (k1 : Nat) (p2 : Int) (M : Mem) (Q : Int → Mem → Prop) : Prop := ∃ n30 : Nat, qX12_nearest_L5 k1 p2  Q n30 (-1) 0 M
def qX12_mourner_J25 (p1 : Int) (p2 : Int) (Q : Int → Mem → Prop)  (M : Mem) : Prop := qX12_refuse  M (fun (x4 : Int) (M4 : Mem) => iR x4 → (
Q x4 M4))
def qX12_mourner (p1 : Int) (p2 : Int) (M : Mem) (Q : Int → Mem → Prop) : Prop := ∀ M1 : Mem, M1 = up2 M 1 0 0 → (
qX12_isMourner p1 M1 (fun (x2 : Int) (M2 : Mem) => iR x2 → (x2 = 0 ∨ x2 = 1) → (
(((x2 = 0) → (qX12_mourner_J25 p1 p2 Q  M2)) ∧
((¬ (x2 = 0)) → (qX12_in p2 0 4 M2 (fun (x5 : Int) (M5 : Mem) => iR x5 → (x5 = 0 ∨ x5 = 1) → (
(((¬ x5 = 0) → (((p2 = 0 → ((0 ≤ (13 + p1)) ∧ (
((13 + p1) < 38) ∧ (
∀ x10 : Int, x10 = M5 5 (13 + p1) → iR x10 → (
Q x10 M5))))) ∧
(p2 = 1 → ((0 ≤ p1) ∧ (
(p1 < 8) ∧ (
∀ x13 : Int, x13 = M5 3 p1 → iR x13 → (
Q x13 M5))))) ∧
(p2 = 2 → ((0 ≤ (21 + p1)) ∧ (
((21 + p1) < 38) ∧ (
∀ x16 : Int, x16 = M5 5 (21 + p1) → iR x16 → (
Q x16 M5))))) ∧
(p2 = 3 → ((0 ≤ (29 + p1)) ∧ (
((29 + p1) < 38) ∧ (
∀ x19 : Int, x19 = M5 5 (29 + p1) → iR x19 → (
Q x19 M5))))) ∧
((p2 < 0 ∨ 3 < p2) → ((0 ≤ (13 + p1)) ∧ (
((13 + p1) < 38) ∧ (
∀ x22 : Int, x22 = M5 5 (13 + p1) → iR x22 → (
qX12_nearest 5 x22 M5 (fun (x23 : Int) (M23 : Mem) => iR x23 → (
Q x23 M23)))))))))) ∧
((x5 = 0) → (qX12_mourner_J25 p1 p2 Q  M5)))))))))))
def qX12_isEnded (k0 : Nat) (p1 : Int) (M : Mem) (Q : Int → Mem → Prop) : Prop := (0 ≤ (29 + p1)) ∧ (
((29 + p1) < 38) ∧ (
∀ x3 : Int, x3 = M k0 (29 + p1) → iR x3 → (
(((x3 < 0) → (Q 0 M)) ∧
((¬ (x3 < 0)) → (Q 1 M))))))
def qX12_sheet_J148 (p1 : Int) (p2 : Int) (p3 : Int) (p4 : Int) (R : Int → Int → Int → Mem → Prop) (X177 : Int → Mem → Prop) (Q : Int → Mem → Prop) (v5 : Int) (v6 : Int) (v7 : Int) (t0 : Int) (t1 : Int) (M : Mem) : Prop := (0 ≤ t1) ∧ (
(t1 < 38) ∧ (
iR t0 ∧ (
∀ M19 : Mem, M19 = up2 M 5 t1 t0 → (
∀ x20 : Int, x20 = w32 (13 + v7) → iR x20 → (
(0 ≤ x20) ∧ (
(x20 < 38) ∧ (
∀ x23 : Int, x23 = M19 5 x20 → iR x23 → (
∀ x24 : Int, x24 = w32 (v5 + x23) → iR x24 → (
∀ x25 : Int, x25 = w32 (v6 + p4) → iR x25 → (
R x24 x25 (v7 + 1) M19))))))))))
def qX12_sheet_J110 (p1 : Int) (p2 : Int) (p3 : Int) (p4 : Int) (R : Int → Int → Int → Mem → Prop) (X177 : Int → Mem → Prop) (Q : Int → Mem → Prop) (v5 : Int) (v6 : Int) (v7 : Int) (t0 : Int) (M : Mem) : Prop := ∀ x12 : Int, x12 = w32 (13 + v7) → iR x12 → (
iR v7 ∧ (
qX12_isEnded 5 v7 M (fun (x14 : Int) (M14 : Mem) => iR x14 → (x14 = 0 ∨ x14 = 1) → (
(((x14 = 0) → (qX12_sheet_J148 p1 p2 p3 p4 (R) X177 Q v5 v6 v7 t0 x12 M14)) ∧
((¬ (x14 = 0)) → (∀ x26 : Int, x26 = w32 (13 + v7) → iR x26 → (
(0 ≤ x26) ∧ (
(x26 < 38) ∧ (
∀ x29 : Int, x29 = M14 5 x26 → iR x29 → (
qX12_sheet_J148 p1 p2 p3 p4 (R) X177 Q v5 v6 v7 x29 x12 M14)))))))))))
def qX12_sheet_J91 (p1 : Int) (p2 : Int) (p3 : Int) (p4 : Int) (R : Int → Int → Int → Mem → Prop) (X177 : Int → Mem → Prop) (Q : Int → Mem → Prop) (v5 : Int) (v6 : Int) (v7 : Int) (M : Mem) : Prop := qX12_sheet_J110 p1 p2 p3 p4 (R) X177 Q v5 v6 v7 0 M
def qX12_sheet_J78 (p1 : Int) (p2 : Int) (p3 : Int) (p4 : Int) (R : Int → Int → Int → Mem → Prop) (X177 : Int → Mem → Prop) (Q : Int → Mem → Prop) (v5 : Int) (v6 : Int) (v7 : Int) (t0 : Int) (M : Mem) : Prop := (((p1 = 3) → (qX12_sheet_J91 p1 p2 p3 p4 (R) X177 Q v5 v6 v7 M)) ∧
((¬ (p1 = 3)) → (iR v7 ∧ (
(((v7 < p2) → (qX12_gate  M (fun (x32 : Int) (M32 : Mem) => iR x32 → (
∀ x33 : Int, x33 = w32 (x32 - 1) → iR x33 → (
iR t0 ∧ (
∀ x35 : Int, x35 = min x33 t0 → iR x35 → (
∀ x36 : Int, x36 = max 0 x35 → iR x36 → (
qX12_sheet_J110 p1 p2 p3 p4 (R) X177 Q v5 v6 v7 x36 M32)))))))) ∧
((¬ (v7 < p2)) → (qX12_sheet_J91 p1 p2 p3 p4 (R) X177 Q v5 v6 v7 M)))))))
def qX12_sheet_L46 (p1 : Int) (p2 : Int) (p3 : Int) (p4 : Int) (X177 : Int → Mem → Prop) (Q : Int → Mem → Prop) : Nat → Int → Int → Int → Mem → Prop
  | 0, _, _, _, _ => False
  | n + 1, v5, v6, v7, M => ∀ x6 : Int, x6 = M 1 5 → iR x6 → (
iR v7 ∧ (
(((x6 ≤ v7) → (X177 v5 M)) ∧
((¬ (x6 ≤ v7)) → ((((¬ p1 = 0) → ((((¬ p1 = 1) → (qX12_sheet_J78 p1 p2 p3 p4 (qX12_sheet_L46 p1 p2 p3 p4 X177 Q n) X177 Q v5 v6 v7 v6 M)) ∧
((p1 = 1) → (∀ x37 : Int, x37 = s16I v6 → iR x37 → (
qX12_sheet_J78 p1 p2 p3 p4 (qX12_sheet_L46 p1 p2 p3 p4 X177 Q n) X177 Q v5 v6 v7 x37 M)))))) ∧
((p1 = 0) → (∀ x38 : Int, x38 = b8I v6 → iR x38 → (
qX12_sheet_J78 p1 p2 p3 p4 (qX12_sheet_L46 p1 p2 p3 p4 X177 Q n) X177 Q v5 v6 v7 x38 M)))))))))
def qX12_sheet_J37 (p1 : Int) (p2 : Int) (p3 : Int) (p4 : Int) (Q : Int → Mem → Prop)  (M : Mem) : Prop := ∃ n39 : Nat, qX12_sheet_L46 p1 p2 p3 p4 (fun (v5 : Int) (M : Mem) => (((¬ p1 = 3) → (iR v5 ∧ (
Q v5 M))) ∧
((p1 = 3) → (Q (-3) M)))) Q n39 0 p3 0 M
def qX12_sheet (p1 : Int) (p2 : Int) (p3 : Int) (p4 : Int) (M : Mem) (Q : Int → Mem → Prop) : Prop := ∀ M1 : Mem, M1 = up2 M 1 0 0 → (
qX12_in p1 0 3 M1 (fun (x2 : Int) (M2 : Mem) => iR x2 → (x2 = 0 ∨ x2 = 1) → (
(((x2 = 0) → (Q (-1) M2)) ∧
((¬ (x2 = 0)) → ((((p2 ≤ 8) → ((((p1 = 3) → (qX12_sheet_J37 p1 p2 p3 p4 Q  M2)) ∧
((¬ (p1 = 3)) → ((((0 ≤ p2) → (qX12_sheet_J37 p1 p2 p3 p4 Q  M2)) ∧
((¬ (0 ≤ p2)) → (Q (-2) M2)))))))) ∧
((¬ (p2 ≤ 8)) → (Q (-1) M2)))))))))
def qX12_undo_L26   (Q : Int → Mem → Prop) : Nat → Int → Mem → Prop
  | 0, _, _ => False
  | n + 1, v1, M => iR v1 ∧ (
(((38 ≤ v1) → (∀ x9 : Int, x9 = M 1 28 → iR x9 → (
Q x9 M))) ∧
((¬ (38 ≤ v1)) → (∀ x10 : Int, x10 = M 1 28 → iR x10 → (
(0 ≤ ((38 * x10) + v1)) ∧ (
(((38 * x10) + v1) < 608) ∧ (
∀ x13 : Int, x13 = M 15 ((38 * x10) + v1) → iR x13 → (
(0 ≤ v1) ∧ (
(v1 < 38) ∧ (
∀ M16 : Mem, M16 = up2 M 5 v1 x13 → (
qX12_undo_L26   Q n (v1 + 1) M16)))))))))))
def qX12_undo  (M : Mem) (Q : Int → Mem → Prop) : Prop := ∀ M1 : Mem, M1 = up2 M 1 0 0 → (
∀ x2 : Int, x2 = M1 1 28 → iR x2 → (
(((¬ x2 = 0) → (∀ x4 : Int, x4 = M1 1 28 → iR x4 → (
iR (x4 - 1) ∧ (
∀ M6 : Mem, M6 = up2 M1 1 28 (x4 - 1) → (
∃ n17 : Nat, qX12_undo_L26   Q n17 0 M6))))) ∧
((x2 = 0) → (Q (-1) M1)))))
def qX12_adds_L21 (p1 : Int) (X49 : Mem → Prop) (Q : Int → Mem → Prop) : Nat → Int → Mem → Prop
  | 0, _, _ => False
  | n + 1, v2, M => iR v2 ∧ (
(((570 ≤ v2) → (X49  M)) ∧
((¬ (570 ≤ v2)) → ((0 ≤ (v2 + 38)) ∧ (
((v2 + 38) < 608) ∧ (
∀ x10 : Int, x10 = M 15 (v2 + 38) → iR x10 → (
(0 ≤ v2) ∧ (
(v2 < 608) ∧ (
∀ M13 : Mem, M13 = up2 M 15 v2 x10 → (
qX12_adds_L21 p1 X49 Q n (v2 + 1) M13))))))))))
def qX12_adds (p1 : Int) (M : Mem) (Q : Int → Mem → Prop) : Prop := ∀ x1 : Int, x1 = M 1 28 → iR x1 → (
iR (x1 + 1) ∧ (
∀ M3 : Mem, M3 = up2 M 1 28 (x1 + 1) → (
∀ x4 : Int, x4 = M3 1 28 → iR x4 → (
(((x4 ≤ 15) → (Q p1 M3)) ∧
((¬ (x4 ≤ 15)) → (∃ n14 : Nat, qX12_adds_L21 p1 (fun  (M : Mem) => ∀ x15 : Int, x15 = M 1 28 → iR x15 → (
iR (x15 - 1) ∧ (
∀ M17 : Mem, M17 = up2 M 1 28 (x15 - 1) → (
Q p1 M17)))) Q n14 0 M3)))))))
def qX12_enters (p1 : Int) (M : Mem) (Q : Mem → Prop) : Prop := ∀ x1 : Int, x1 = M 1 1 → iR x1 → (
(0 ≤ x1) ∧ (
(x1 < 24) ∧ (
∀ M4 : Mem, M4 = up2 M 0 x1 p1 → (
∀ x5 : Int, x5 = M4 1 1 → iR x5 → (
iR (x5 + 1) ∧ (
∀ M7 : Mem, M7 = up2 M4 1 1 (x5 + 1) → (
Q M7)))))))
def qX12_goal_J113 (k1 : Nat) (p2 : Int) (p3 : Int) (R : Int → Int → Int → Int → Int → Mem → Prop)  (Q : Int → Mem → Prop) (v4 : Int) (v6 : Int) (v7 : Int) (v8 : Int) (v9 : Int) (t0 : Int) (M : Mem) : Prop := iR v6 ∧ (
(((¬ v6 = 0) → (R v4 t0 1 v7 (v8 + 1) M)) ∧
((v6 = 0) → (iR v9 ∧ (
(((¬ v9 = 0) → (R v4 t0 0 v7 (v8 + 1) M)) ∧
((v9 = 0) → (R v4 t0 1 v7 (v8 + 1) M))))))))
def qX12_goal_J111 (k1 : Nat) (p2 : Int) (p3 : Int) (R : Int → Int → Int → Int → Int → Mem → Prop)  (Q : Int → Mem → Prop) (v4 : Int) (v5 : Int) (v6 : Int) (v7 : Int) (v8 : Int) (v9 : Int) (M : Mem) : Prop := qX12_goal_J113 k1 p2 p3 (R)  Q v4 v6 v7 v8 v9 v5 M
def qX12_goal_J106 (k1 : Nat) (p2 : Int) (p3 : Int) (R : Int → Int → Int → Int → Int → Mem → Prop)  (Q : Int → Mem → Prop) (v4 : Int) (v6 : Int) (v7 : Int) (v8 : Int) (v9 : Int) (M : Mem) : Prop := qX12_goal_J113 k1 p2 p3 (R)  Q v4 v6 v7 v8 v9 v8 M
def qX12_goal_J89 (k1 : Nat) (p2 : Int) (p3 : Int) (R : Int → Int → Int → Int → Int → Mem → Prop)  (Q : Int → Mem → Prop) (v4 : Int) (v5 : Int) (v6 : Int) (v7 : Int) (v8 : Int) (t0 : Int) (M : Mem) : Prop := iR t0 ∧ (
(((t0 = 0) → (qX12_goal_J111 k1 p2 p3 (R)  Q v4 v5 v6 v7 v8 t0 M)) ∧
((¬ (t0 = 0)) → (iR v6 ∧ (
(((v6 = 0) → (qX12_goal_J106 k1 p2 p3 (R)  Q v4 v6 v7 v8 t0 M)) ∧
((¬ (v6 = 0)) → (iR v7 ∧ (
(((¬ v7 = 0) → (qX12_goal_J111 k1 p2 p3 (R)  Q v4 v5 v6 v7 v8 t0 M)) ∧
((v7 = 0) → (qX12_goal_J106 k1 p2 p3 (R)  Q v4 v6 v7 v8 t0 M))))))))))))
def qX12_goal_J84 (k1 : Nat) (p2 : Int) (p3 : Int) (R : Int → Int → Int → Int → Int → Mem → Prop)  (Q : Int → Mem → Prop) (v4 : Int) (v5 : Int) (v6 : Int) (v7 : Int) (v8 : Int) (M : Mem) : Prop := qX12_goal_J89 k1 p2 p3 (R)  Q v4 v5 v6 v7 v8 1 M
def qX12_goal_J63 (k1 : Nat) (p2 : Int) (p3 : Int) (R : Int → Int → Int → Int → Int → Mem → Prop)  (Q : Int → Mem → Prop) (v4 : Int) (v5 : Int) (v6 : Int) (v8 : Int) (t0 : Int) (M : Mem) : Prop := qX12_gate  M (fun (x15 : Int) (M15 : Mem) => iR x15 → (
iR v8 ∧ (
(((v8 = x15) → (qX12_goal_J84 k1 p2 p3 (R)  Q v4 v5 v6 t0 v8 M15)) ∧
((¬ (v8 = x15)) → (qX12_onCell k1 v8 M15 (fun (x28 : Int) (M28 : Mem) => iR x28 → (
(((0 ≤ x28) → (qX12_goal_J89 k1 p2 p3 (R)  Q v4 v5 v6 t0 v8 0 M28)) ∧
((¬ (0 ≤ x28)) → (qX12_goal_J84 k1 p2 p3 (R)  Q v4 v5 v6 t0 v8 M28)))))))))))
def qX12_goal_J58 (k1 : Nat) (p2 : Int) (p3 : Int) (R : Int → Int → Int → Int → Int → Mem → Prop)  (Q : Int → Mem → Prop) (v4 : Int) (v5 : Int) (v6 : Int) (v8 : Int) (M : Mem) : Prop := qX12_goal_J63 k1 p2 p3 (R)  Q v4 v5 v6 v8 1 M
def qX12_goal_L27 (k1 : Nat) (p2 : Int) (p3 : Int)  (Q : Int → Mem → Prop) : Nat → Int → Int → Int → Int → Int → Mem → Prop
  | 0, _, _, _, _, _, _ => False
  | n + 1, v4, v5, v6, v7, v8, M => qX12_gate  M (fun (x7 : Int) (M7 : Mem) => iR x7 → (
iR (v4 + p3) ∧ (
∀ x9 : Int, x9 = min x7 (v4 + p3) → iR x9 → (
iR v8 ∧ (
(((x9 < v8) → (iR v5 ∧ (
Q v5 M7))) ∧
((¬ (x9 < v8)) → (iR v7 ∧ (
(((¬ v7 = 0) → (qX12_goal_J58 k1 p2 p3 (qX12_goal_L27 k1 p2 p3  Q n)  Q v4 v5 v6 v8 M7)) ∧
((v7 = 0) → ((0 ≤ v8) ∧ (
(v8 < 30) ∧ (
∀ x32 : Int, x32 = M7 2 v8 → iR x32 → (
(((x32 = 0) → (qX12_goal_J63 k1 p2 p3 (qX12_goal_L27 k1 p2 p3  Q n)  Q v4 v5 v6 v8 0 M7)) ∧
((¬ (x32 = 0)) → (qX12_goal_J58 k1 p2 p3 (qX12_goal_L27 k1 p2 p3  Q n)  Q v4 v5 v6 v8 M7))))))))))))))))))
def qX12_goal (k1 : Nat) (p2 : Int) (p3 : Int) (M : Mem) (Q : Int → Mem → Prop) : Prop := (0 ≤ p2) ∧ (
(p2 < 38) ∧ (
∀ x3 : Int, x3 = M k1 p2 → iR x3 → (
(0 ≤ x3) ∧ (
(x3 < 30) ∧ (
∀ x6 : Int, x6 = M 2 x3 → iR x6 → (
∃ n34 : Nat, qX12_goal_L27 k1 p2 p3  Q n34 x3 x3 0 x6 (x3 + 1) M))))))
def qX12_hearseGoes (k1 : Nat) (p2 : Int) (M : Mem) (Q : Mem → Prop) : Prop := qX12_paceOf k1 p2 M (fun (x1 : Int) (M1 : Mem) => iR x1 → (
qX12_goal k1 p2 x1 M1 (fun (x2 : Int) (M2 : Mem) => iR x2 → (
(0 ≤ p2) ∧ (
(p2 < 38) ∧ (
∀ x5 : Int, x5 = M2 k1 p2 → iR x5 → (
(((¬ x2 = x5) → (qX12_gate  M2 (fun (x7 : Int) (M7 : Mem) => iR x7 → (
(((¬ x2 = x7) → (∀ M9 : Mem, M9 = up2 M7 k1 p2 x2 → (
Q M9))) ∧
((x2 = x7) → (∀ x10 : Int, x10 = M7 k1 12 → iR x10 → (
∀ x11 : Int, x11 = w32 (x10 + 1) → iR x11 → (
∀ M12 : Mem, M12 = up2 M7 k1 12 x11 → (
∀ x13 : Int, x13 = M12 k1 12 → iR x13 → (
(0 ≤ (6 + p2)) ∧ (
((6 + p2) < 38) ∧ (
∀ M16 : Mem, M16 = up2 M12 k1 (6 + p2) x13 → (
∀ M17 : Mem, M17 = up2 M16 k1 p2 (-1) → (
Q M17))))))))))))))) ∧
((x2 = x5) → (∀ x18 : Int, x18 = M2 1 30 → iR x18 → (
∀ x19 : Int, x19 = w32 (x18 + 1) → iR x19 → (
∀ M20 : Mem, M20 = up2 M2 1 30 x19 → (
(0 ≤ x2) ∧ (
(x2 < 30) ∧ (
∀ x23 : Int, x23 = M20 16 x2 → iR x23 → (
∀ x24 : Int, x24 = w32 (x23 + 1) → iR x24 → (
∀ M25 : Mem, M25 = up2 M20 16 x2 x24 → (
Q M25))))))))))))))))))
def qX12_laysLine_L12 (k1 : Nat)  (Q : Mem → Prop) : Nat → Int → Mem → Prop
  | 0, _, _ => False
  | n + 1, v2, M => iR v2 ∧ (
(((v2 < 0) → (Q M)) ∧
((¬ (v2 < 0)) → (qX12_onCell k1 v2 M (fun (x5 : Int) (M5 : Mem) => iR x5 → (
(((x5 < 0) → (qX12_laysLine_L12 k1  Q n (v2 + (-1)) M5)) ∧
((¬ (x5 < 0)) → (∀ x7 : Int, x7 = M5 1 35 → iR x7 → (
(0 ≤ x7) ∧ (
(x7 < 6) ∧ (
∀ M10 : Mem, M10 = up2 M5 18 x7 x5 → (
∀ x11 : Int, x11 = M10 1 35 → iR x11 → (
iR (x11 + 1) ∧ (
∀ M13 : Mem, M13 = up2 M10 1 35 (x11 + 1) → (
qX12_laysLine_L12 k1  Q n (v2 + (-1)) M13))))))))))))))))
def qX12_laysLine (k1 : Nat) (M : Mem) (Q : Mem → Prop) : Prop := ∀ M1 : Mem, M1 = up2 M 1 35 0 → (
qX12_gate  M1 (fun (x2 : Int) (M2 : Mem) => iR x2 → (
∃ n14 : Nat, qX12_laysLine_L12 k1  Q n14 (x2 - 1) M2)))
def qX12_mournerGoes_J145 (k1 : Nat) (p2 : Int) (Q : Mem → Prop) (t0 : Int) (t1 : Int) (M : Mem) : Prop := (0 ≤ t1) ∧ (
(t1 < 38) ∧ (
iR t0 ∧ (
∀ M23 : Mem, M23 = up2 M k1 t1 t0 → (
Q M23))))
def qX12_mournerGoes_J105 (k1 : Nat) (p2 : Int) (Q : Mem → Prop) (v3 : Int) (v4 : Int) (M : Mem) : Prop := iR v3 ∧ (
(((v3 < 0) → (Q M)) ∧
((¬ (v3 < 0)) → ((0 ≤ v3) ∧ (
(v3 < 38) ∧ (
∀ x14 : Int, x14 = M k1 v3 → iR x14 → (
iR v4 ∧ (
(((x14 ≤ v4) → (∀ x17 : Int, x17 = M k1 v3 → iR x17 → (
iR (v4 - 2) ∧ (
∀ x19 : Int, x19 = max x17 (v4 - 2) → iR x19 → (
qX12_mournerGoes_J145 k1 p2 Q x19 (13 + p2) M))))) ∧
((¬ (x14 ≤ v4)) → (∀ x24 : Int, x24 = M k1 v3 → iR x24 → (
iR (v4 + 2) ∧ (
∀ x26 : Int, x26 = min x24 (v4 + 2) → iR x26 → (
qX12_mournerGoes_J145 k1 p2 Q x26 (13 + p2) M))))))))))))))
def qX12_mournerGoes_J75 (k1 : Nat) (p2 : Int) (Q : Mem → Prop) (v4 : Int) (v5 : Int) (M : Mem) : Prop := (0 ≤ (21 + p2)) ∧ (
((21 + p2) < 38) ∧ (
iR v5 ∧ (
∀ M32 : Mem, M32 = up2 M k1 (21 + p2) v5 → (
∀ x33 : Int, x33 = M32 1 31 → iR x33 → (
∀ x34 : Int, x34 = w32 (x33 + 1) → iR x34 → (
∀ M35 : Mem, M35 = up2 M32 1 31 x34 → (
(0 ≤ p2) ∧ (
(p2 < 8) ∧ (
∀ x38 : Int, x38 = M35 17 p2 → iR x38 → (
∀ x39 : Int, x39 = w32 (x38 + 1) → iR x39 → (
∀ M40 : Mem, M40 = up2 M35 17 p2 x39 → (
qX12_mournerGoes_J105 k1 p2 Q v5 v4 M40))))))))))))
def qX12_mournerGoes_J27 (k1 : Nat) (p2 : Int) (Q : Mem → Prop) (v3 : Int) (M : Mem) : Prop := (0 ≤ (13 + p2)) ∧ (
((13 + p2) < 38) ∧ (
∀ x7 : Int, x7 = M k1 (13 + p2) → iR x7 → (
qX12_nearest k1 x7 M (fun (x8 : Int) (M8 : Mem) => iR x8 → (
(((x8 < 0) → (qX12_mournerGoes_J105 k1 p2 Q v3 x7 M8)) ∧
((¬ (x8 < 0)) → (iR v3 ∧ (
(((v3 < 0) → (qX12_mournerGoes_J75 k1 p2 Q x7 x8 M8)) ∧
((¬ (v3 < 0)) → ((0 ≤ x8) ∧ (
(x8 < 38) ∧ (
∀ x43 : Int, x43 = M8 k1 x8 → iR x43 → (
iR (x43 - x7) ∧ (
∀ x45 : Int, (0 ≤ (x43 - x7) → x45 = (x43 - x7)) → ((x43 - x7) < 0 → x45 = -(x43 - x7)) → (
(0 ≤ v3) ∧ (
(v3 < 38) ∧ (
∀ x48 : Int, x48 = M8 k1 v3 → iR x48 → (
iR (x48 - x7) ∧ (
∀ x50 : Int, (0 ≤ (x48 - x7) → x50 = (x48 - x7)) → ((x48 - x7) < 0 → x50 = -(x48 - x7)) → (
iR x45 ∧ (
iR x50 ∧ (
(((x50 ≤ x45) → (qX12_mournerGoes_J105 k1 p2 Q v3 x7 M8)) ∧
((¬ (x50 ≤ x45)) → (qX12_mournerGoes_J75 k1 p2 Q x7 x8 M8)))))))))))))))))))))))))))
def qX12_mournerGoes (k1 : Nat) (p2 : Int) (M : Mem) (Q : Mem → Prop) : Prop := (0 ≤ (21 + p2)) ∧ (
((21 + p2) < 38) ∧ (
∀ x3 : Int, x3 = M k1 (21 + p2) → iR x3 → (
(((x3 < 0) → (qX12_mournerGoes_J27 k1 p2 Q x3 M)) ∧
((¬ (x3 < 0)) → (qX12_isOn k1 x3 M (fun (x54 : Int) (M54 : Mem) => iR x54 → (x54 = 0 ∨ x54 = 1) → (
(((¬ x54 = 0) → (qX12_mournerGoes_J27 k1 p2 Q x3 M54)) ∧
((x54 = 0) → ((0 ≤ (29 + p2)) ∧ (
((29 + p2) < 38) ∧ (
∀ M58 : Mem, M58 = up2 M54 k1 (29 + p2) x3 → (
Q M58))))))))))))))
def qX12_stepGoes_L7 (k1 : Nat) (X32 : Mem → Prop) (Q : Mem → Prop) : Nat → Int → Mem → Prop
  | 0, _, _ => False
  | n + 1, v2, M => ∀ x2 : Int, x2 = M 1 35 → iR x2 → (
iR v2 ∧ (
(((x2 ≤ v2) → (X32  M)) ∧
((¬ (x2 ≤ v2)) → ((0 ≤ v2) ∧ (
(v2 < 6) ∧ (
∀ x7 : Int, x7 = M 18 v2 → iR x7 → (
qX12_hearseGoes k1 x7 M (fun (M8 : Mem) =>  (
qX12_stepGoes_L7 k1 X32 Q n (v2 + 1) M8))))))))))
def qX12_stepGoes_L34 (k1 : Nat) (X62 : Mem → Prop) (Q : Mem → Prop) : Nat → Int → Mem → Prop
  | 0, _, _ => False
  | n + 1, v2, M => ∀ x10 : Int, x10 = M 1 5 → iR x10 → (
iR v2 ∧ (
(((x10 ≤ v2) → (X62  M)) ∧
((¬ (x10 ≤ v2)) → (qX12_isEnded k1 v2 M (fun (x13 : Int) (M13 : Mem) => iR x13 → (x13 = 0 ∨ x13 = 1) → (
(((¬ x13 = 0) → (qX12_stepGoes_L34 k1 X62 Q n (v2 + 1) M13)) ∧
((x13 = 0) → (qX12_mournerGoes k1 v2 M13 (fun (M15 : Mem) =>  (
qX12_stepGoes_L34 k1 X62 Q n (v2 + 1) M15))))))))))))
def qX12_stepGoes (k1 : Nat) (M : Mem) (Q : Mem → Prop) : Prop := qX12_laysLine k1 M (fun (M1 : Mem) =>  (
∃ n9 : Nat, qX12_stepGoes_L7 k1 (fun  (M : Mem) => ∃ n16 : Nat, qX12_stepGoes_L34 k1 (fun  (M : Mem) => ∀ x17 : Int, x17 = M k1 37 → iR x17 → (
iR (x17 + 1) ∧ (
∀ M19 : Mem, M19 = up2 M k1 37 (x17 + 1) → (
Q M19)))) Q n16 0 M) Q n9 0 M1))
def qX12_goesOn_L12 (k1 : Nat) (p2 : Int) (X31 : Mem → Prop) (Q : Mem → Prop) : Nat → Int → Mem → Prop
  | 0, _, _ => False
  | n + 1, v3, M => iR v3 ∧ (
(((30 ≤ v3) → (X31  M)) ∧
((¬ (30 ≤ v3)) → ((0 ≤ v3) ∧ (
(v3 < 30) ∧ (
∀ M7 : Mem, M7 = up2 M 16 v3 0 → (
qX12_goesOn_L12 k1 p2 X31 Q n (v3 + 1) M7)))))))
def qX12_goesOn_L33 (k1 : Nat) (p2 : Int) (X52 : Mem → Prop) (Q : Mem → Prop) : Nat → Int → Mem → Prop
  | 0, _, _ => False
  | n + 1, v3, M => iR v3 ∧ (
(((8 ≤ v3) → (X52  M)) ∧
((¬ (8 ≤ v3)) → ((0 ≤ v3) ∧ (
(v3 < 8) ∧ (
∀ M13 : Mem, M13 = up2 M 17 v3 0 → (
qX12_goesOn_L33 k1 p2 X52 Q n (v3 + 1) M13)))))))
def qX12_goesOn_L54 (k1 : Nat) (p2 : Int)  (Q : Mem → Prop) : Nat → Int → Mem → Prop
  | 0, _, _ => False
  | n + 1, v3, M => iR v3 ∧ (
(((p2 ≤ v3) → (Q M)) ∧
((¬ (p2 ≤ v3)) → (qX12_stepGoes k1 M (fun (M17 : Mem) =>  (
qX12_goesOn_L54 k1 p2  Q n (v3 + 1) M17))))))
def qX12_goesOn (k1 : Nat) (p2 : Int) (M : Mem) (Q : Mem → Prop) : Prop := ∀ M1 : Mem, M1 = up2 M 1 30 0 → (
∀ M2 : Mem, M2 = up2 M1 1 31 0 → (
∃ n8 : Nat, qX12_goesOn_L12 k1 p2 (fun  (M : Mem) => ∃ n14 : Nat, qX12_goesOn_L33 k1 p2 (fun  (M : Mem) => ∃ n18 : Nat, qX12_goesOn_L54 k1 p2  Q n18 0 M) Q n14 0 M) Q n8 0 M2))
def qX12_putsBy_L2   (Q : Mem → Prop) : Nat → Int → Mem → Prop
  | 0, _, _ => False
  | n + 1, v1, M => iR v1 ∧ (
(((38 ≤ v1) → (Q M)) ∧
((¬ (38 ≤ v1)) → (∀ x3 : Int, x3 = M 1 28 → iR x3 → (
(0 ≤ v1) ∧ (
(v1 < 38) ∧ (
∀ x6 : Int, x6 = M 5 v1 → iR x6 → (
(0 ≤ ((38 * x3) + v1)) ∧ (
(((38 * x3) + v1) < 608) ∧ (
∀ M9 : Mem, M9 = up2 M 15 ((38 * x3) + v1) x6 → (
qX12_putsBy_L2   Q n (v1 + 1) M9)))))))))))
def qX12_putsBy  (M : Mem) (Q : Mem → Prop) : Prop := ∃ n10 : Nat, qX12_putsBy_L2   Q n10 0 M
def qX12_steps (p1 : Int) (M : Mem) (Q : Int → Mem → Prop) : Prop := ∀ M1 : Mem, M1 = up2 M 1 0 0 → (
qX12_in p1 0 60 M1 (fun (x2 : Int) (M2 : Mem) => iR x2 → (x2 = 0 ∨ x2 = 1) → (
(((¬ x2 = 0) → (qX12_putsBy  M2 (fun (M4 : Mem) =>  (
qX12_goesOn 5 p1 M4 (fun (M5 : Mem) =>  (
∀ M6 : Mem, M6 = up2 M5 1 1 0 → (
∀ x7 : Int, x7 = M6 1 30 → iR x7 → (
qX12_enters x7 M6 (fun (M8 : Mem) =>  (
∀ x9 : Int, x9 = M8 1 31 → iR x9 → (
qX12_enters x9 M8 (fun (M10 : Mem) =>  (
∀ x11 : Int, x11 = M10 5 12 → iR x11 → (
qX12_adds x11 M10 (fun (x12 : Int) (M12 : Mem) => iR x12 → (
Q x12 M12)))))))))))))))) ∧
((x2 = 0) → (Q (-1) M2))))))
def qX12_counted_J14 (p1 : Int) (Q : Int → Mem → Prop)  (M : Mem) : Prop := qX12_adds p1 M (fun (x2 : Int) (M2 : Mem) => iR x2 → (
Q x2 M2))
def qX12_counted (p1 : Int) (M : Mem) (Q : Int → Mem → Prop) : Prop := (((0 ≤ p1) → (qX12_counted_J14 p1 Q  M)) ∧
((¬ (0 ≤ p1)) → ((((p1 = (-4)) → (qX12_counted_J14 p1 Q  M)) ∧
((¬ (p1 = (-4))) → (Q p1 M))))))
def qX12_turnsOne (k1 : Nat) (p2 : Int) (M : Mem) (Q : Int → Mem → Prop) : Prop := qX12_isMourner p2 M (fun (x1 : Int) (M1 : Mem) => iR x1 → (x1 = 0 ∨ x1 = 1) → (
(((¬ x1 = 0) → (qX12_isEnded k1 p2 M1 (fun (x3 : Int) (M3 : Mem) => iR x3 → (x3 = 0 ∨ x3 = 1) → (
(((x3 = 0) → ((0 ≤ (21 + p2)) ∧ (
((21 + p2) < 38) ∧ (
∀ x7 : Int, x7 = M3 k1 (21 + p2) → iR x7 → (
(0 ≤ p2) ∧ (
(p2 < 8) ∧ (
∀ x10 : Int, x10 = M3 3 p2 → iR x10 → (
qX12_isOn k1 x10 M3 (fun (x11 : Int) (M11 : Mem) => iR x11 → (x11 = 0 ∨ x11 = 1) → (
(((x11 = 0) → (Q (-3) M11)) ∧
((¬ (x11 = 0)) → (∀ x13 : Int, x13 = M11 3 p2 → iR x13 → (
(((¬ x7 = x13) → (∀ x15 : Int, x15 = M11 3 p2 → iR x15 → (
∀ M16 : Mem, M16 = up2 M11 k1 (21 + p2) x15 → (
(((0 ≤ x7) → (Q x7 M16)) ∧
((¬ (0 ≤ x7)) → (Q (-4) M16))))))) ∧
((x7 = x13) → (Q (-3) M11))))))))))))))))) ∧
((¬ (x3 = 0)) → (Q (-2) M3))))))) ∧
((x1 = 0) → (Q (-1) M1)))))
def qX12_turnsTo (p1 : Int) (M : Mem) (Q : Int → Mem → Prop) : Prop := ∀ M1 : Mem, M1 = up2 M 1 0 0 → (
qX12_putsBy  M1 (fun (M2 : Mem) =>  (
qX12_turnsOne 5 p1 M2 (fun (x3 : Int) (M3 : Mem) => iR x3 → (
qX12_counted x3 M3 (fun (x4 : Int) (M4 : Mem) => iR x4 → (
Q x4 M4)))))))
def qX12_pushesOne (k1 : Nat) (p2 : Int) (p3 : Int) (M : Mem) (Q : Int → Mem → Prop) : Prop := qX12_isMourner p2 M (fun (x1 : Int) (M1 : Mem) => iR x1 → (x1 = 0 ∨ x1 = 1) → (
(((x1 = 0) → (Q (-1) M1)) ∧
((¬ (x1 = 0)) → (qX12_in p3 (-9) 9 M1 (fun (x3 : Int) (M3 : Mem) => iR x3 → (x3 = 0 ∨ x3 = 1) → (
(((x3 = 0) → (Q (-1) M3)) ∧
((¬ (x3 = 0)) → ((((¬ p3 = 0) → (qX12_isEnded k1 p2 M3 (fun (x6 : Int) (M6 : Mem) => iR x6 → (x6 = 0 ∨ x6 = 1) → (
(((x6 = 0) → (qX12_gate  M6 (fun (x8 : Int) (M8 : Mem) => iR x8 → (
(0 ≤ (13 + p2)) ∧ (
((13 + p2) < 38) ∧ (
∀ x11 : Int, x11 = M8 k1 (13 + p2) → iR x11 → (
iR (x8 - 1) ∧ (
iR (x11 + p3) ∧ (
∀ x14 : Int, x14 = min (x8 - 1) (x11 + p3) → iR x14 → (
∀ x15 : Int, x15 = max 0 x14 → iR x15 → (
∀ M16 : Mem, M16 = up2 M8 k1 (13 + p2) x15 → (
∀ x17 : Int, x17 = M16 k1 (13 + p2) → iR x17 → (
Q x17 M16))))))))))))) ∧
((¬ (x6 = 0)) → (Q (-2) M6))))))) ∧
((p3 = 0) → (Q (-1) M3)))))))))))))
def qX12_pushes (p1 : Int) (p2 : Int) (M : Mem) (Q : Int → Mem → Prop) : Prop := ∀ M1 : Mem, M1 = up2 M 1 0 0 → (
qX12_putsBy  M1 (fun (M2 : Mem) =>  (
qX12_pushesOne 5 p1 p2 M2 (fun (x3 : Int) (M3 : Mem) => iR x3 → (
qX12_counted x3 M3 (fun (x4 : Int) (M4 : Mem) => iR x4 → (
Q x4 M4)))))))
def qX12_swapsTwo (p1 : Int) (p2 : Int) (M : Mem) (Q : Int → Mem → Prop) : Prop := qX12_isHearse p1 M (fun (x1 : Int) (M1 : Mem) => iR x1 → (x1 = 0 ∨ x1 = 1) → (
(((x1 = 0) → (Q (-1) M1)) ∧
((¬ (x1 = 0)) → (qX12_isHearse p2 M1 (fun (x3 : Int) (M3 : Mem) => iR x3 → (x3 = 0 ∨ x3 = 1) → (
(((x3 = 0) → (Q (-1) M3)) ∧
((¬ (x3 = 0)) → ((((¬ p1 = p2) → (qX12_isOn 5 p1 M3 (fun (x6 : Int) (M6 : Mem) => iR x6 → (x6 = 0 ∨ x6 = 1) → (
(((x6 = 0) → (Q (-2) M6)) ∧
((¬ (x6 = 0)) → (qX12_isOn 5 p2 M6 (fun (x8 : Int) (M8 : Mem) => iR x8 → (x8 = 0 ∨ x8 = 1) → (
(((¬ x8 = 0) → ((0 ≤ p1) ∧ (
(p1 < 38) ∧ (
∀ x12 : Int, x12 = M8 5 p1 → iR x12 → (
(0 ≤ p2) ∧ (
(p2 < 38) ∧ (
∀ x15 : Int, x15 = M8 5 p2 → iR x15 → (
∀ M16 : Mem, M16 = up2 M8 5 p1 x15 → (
∀ M17 : Mem, M17 = up2 M16 5 p2 x12 → (
∀ x18 : Int, x18 = M17 5 p1 → iR x18 → (
∀ x19 : Int, x19 = M17 5 p2 → iR x19 → (
iR (x18 - x19) ∧ (
∀ x21 : Int, (0 ≤ (x18 - x19) → x21 = (x18 - x19)) → ((x18 - x19) < 0 → x21 = -(x18 - x19)) → (
iR x21 ∧ (
Q x21 M17))))))))))))))) ∧
((x8 = 0) → (Q (-2) M8)))))))))))) ∧
((p1 = p2) → (Q (-1) M3)))))))))))))
def qX12_swaps (p1 : Int) (p2 : Int) (M : Mem) (Q : Int → Mem → Prop) : Prop := ∀ M1 : Mem, M1 = up2 M 1 0 0 → (
qX12_putsBy  M1 (fun (M2 : Mem) =>  (
qX12_swapsTwo p1 p2 M2 (fun (x3 : Int) (M3 : Mem) => iR x3 → (
qX12_counted x3 M3 (fun (x4 : Int) (M4 : Mem) => iR x4 → (
Q x4 M4)))))))
def qX12_does_L46 (p1 : Int)  (Q : Int → Mem → Prop) : Nat → Int → Int → Mem → Prop
  | 0, _, _, _ => False
  | n + 1, v2, v3, M => iR v3 ∧ (
iR v2 ∧ (
(((v2 ≤ v3) → (Q 1 M)) ∧
((¬ (v2 ≤ v3)) → (qX12_stepGoes 5 M (fun (M9 : Mem) =>  (
qX12_does_L46 p1  Q n v2 (v3 + 1) M9)))))))
def qX12_does (p1 : Int) (M : Mem) (Q : Int → Mem → Prop) : Prop := (0 ≤ p1) ∧ (
(p1 < 60) ∧ (
∀ x3 : Int, x3 = M 20 p1 → iR x3 → (
∀ x4 : Int, x4 = M 19 p1 → iR x4 → (
((x4 = 0 → (∃ n10 : Nat, qX12_does_L46 p1  Q n10 x3 0 M)) ∧
(x4 = 1 → (qX12_turnsOne 5 x3 M (fun (x11 : Int) (M11 : Mem) => iR x11 → (
(((0 ≤ x11) → (Q 1 M11)) ∧
((¬ (0 ≤ x11)) → ((((¬ x11 = (-4)) → (Q 0 M11)) ∧
((x11 = (-4)) → (Q 1 M11)))))))))) ∧
(x4 = 2 → (∀ x14 : Int, x14 = M 21 p1 → iR x14 → (
qX12_pushesOne 5 x3 x14 M (fun (x15 : Int) (M15 : Mem) => iR x15 → (
(((x15 < 0) → (Q 0 M15)) ∧
((¬ (x15 < 0)) → (Q 1 M15)))))))) ∧
(x4 = 3 → (∀ x17 : Int, x17 = M 21 p1 → iR x17 → (
iR (-x17) ∧ (
qX12_pushesOne 5 x3 (-x17) M (fun (x19 : Int) (M19 : Mem) => iR x19 → (
(((x19 < 0) → (Q 0 M19)) ∧
((¬ (x19 < 0)) → (Q 1 M19))))))))) ∧
((x4 < 0 ∨ 3 < x4) → (∀ x21 : Int, x21 = M 21 p1 → iR x21 → (
qX12_swapsTwo x3 x21 M (fun (x22 : Int) (M22 : Mem) => iR x22 → (
(((x22 < 0) → (Q 0 M22)) ∧
((¬ (x22 < 0)) → (Q 1 M22)))))))))))))
def qX12_digitIn (p1 : Int) (p2 : Int) (M : Mem) (Q : Int → Mem → Prop) : Prop := ∀ x1 : Int, x1 = M 1 15 → iR x1 → (
∀ x2 : Int, x2 = M 1 16 → iR x2 → (
(((x2 ≤ x1) → (Q (-1) M)) ∧
((¬ (x2 ≤ x1)) → (∀ x4 : Int, x4 = M 1 15 → iR x4 → (
(0 ≤ x4) ∧ (
(x4 < 80) ∧ (
∀ x7 : Int, x7 = M 7 x4 → iR x7 → (
iR (x7 - 48) ∧ (
qX12_in (x7 - 48) p1 p2 M (fun (x9 : Int) (M9 : Mem) => iR x9 → (x9 = 0 ∨ x9 = 1) → (
(((¬ x9 = 0) → (∀ x11 : Int, x11 = M9 1 15 → iR x11 → (
iR (x11 + 1) ∧ (
∀ M13 : Mem, M13 = up2 M9 1 15 (x11 + 1) → (
∀ x14 : Int, x14 = M13 1 15 → iR x14 → (
(0 ≤ (x14 - 1)) ∧ (
((x14 - 1) < 80) ∧ (
∀ x17 : Int, x17 = M13 7 (x14 - 1) → iR x17 → (
iR (x17 - 48) ∧ (
Q (x17 - 48) M13)))))))))) ∧
((x9 = 0) → (Q (-1) M9)))))))))))))))
def qX12_readsAct_J69  (Q : Int → Mem → Prop) (v1 : Int) (M : Mem) : Prop := (0 ≤ v1) ∧ (
(v1 < 60) ∧ (
∀ x17 : Int, x17 = M 20 v1 → iR x17 → (
(((x17 < 0) → (Q 0 M)) ∧
((¬ (x17 < 0)) → (Q 1 M))))))
def qX12_readsAct_J105  (Q : Int → Mem → Prop) (v1 : Int) (t0 : Int) (t2 : Int) (M : Mem) : Prop := iR t0 ∧ (
qX12_digitIn t0 9 M (fun (x24 : Int) (M24 : Mem) => iR x24 → (
(0 ≤ t2) ∧ (
(t2 < 60) ∧ (
∀ M27 : Mem, M27 = up2 M24 21 t2 x24 → (
(0 ≤ v1) ∧ (
(v1 < 60) ∧ (
∀ x30 : Int, x30 = M27 21 v1 → iR x30 → (
(((x30 < 0) → (Q 0 M27)) ∧
((¬ (x30 < 0)) → (Q 1 M27))))))))))))
def qX12_readsAct  (M : Mem) (Q : Int → Mem → Prop) : Prop := ∀ x1 : Int, x1 = M 1 39 → iR x1 → (
qX12_takesOf (bS 8) M (fun (x2 : Int) (M2 : Mem) => iR x2 → (
(0 ≤ x1) ∧ (
(x1 < 60) ∧ (
∀ M5 : Mem, M5 = up2 M2 19 x1 x2 → (
∀ x6 : Int, x6 = M5 1 39 → iR x6 → (
iR (x6 + 1) ∧ (
∀ M8 : Mem, M8 = up2 M5 1 39 (x6 + 1) → (
∀ x9 : Int, x9 = M8 19 x1 → iR x9 → (
(((0 ≤ x9) → (qX12_number 1 M8 (fun (x11 : Int) (M11 : Mem) => iR x11 → (
∀ M12 : Mem, M12 = up2 M11 20 x1 x11 → (
∀ x13 : Int, x13 = M12 20 x1 → iR x13 → (
(((x13 < 0) → (qX12_readsAct_J69  Q x1 M12)) ∧
((¬ (x13 < 0)) → (∀ x19 : Int, x19 = M12 19 x1 → iR x19 → (
(((2 ≤ x19) → (∀ x21 : Int, x21 = M12 19 x1 → iR x21 → (
(((¬ x21 = 4) → (qX12_readsAct_J105  Q x1 1 x1 M12)) ∧
((x21 = 4) → (qX12_readsAct_J105  Q x1 0 x1 M12)))))) ∧
((¬ (2 ≤ x19)) → (qX12_readsAct_J69  Q x1 M12))))))))))))) ∧
((¬ (0 ≤ x9)) → (Q 0 M8)))))))))))))
def qX12_hour_L19  (X42 : Int → Int → Mem → Prop) (Q : Int → Mem → Prop) : Nat → Int → Int → Mem → Prop
  | 0, _, _, _ => False
  | n + 1, v1, v2, M => iR v2 ∧ (
(((v2 = 0) → (X42 v1 v2 M)) ∧
((¬ (v2 = 0)) → (∀ x6 : Int, x6 = M 1 15 → iR x6 → (
∀ x7 : Int, x7 = M 1 16 → iR x7 → (
(((x7 ≤ x6) → (X42 v1 v2 M)) ∧
((¬ (x7 ≤ x6)) → (qX12_readsAct  M (fun (x9 : Int) (M9 : Mem) => iR x9 → (x9 = 0 ∨ x9 = 1) → (
qX12_hour_L19  X42 Q n v1 x9 M9)))))))))))
def qX12_hour_L64  (X88 : Int → Mem → Prop) (Q : Int → Mem → Prop) : Nat → Int → Mem → Prop
  | 0, _, _ => False
  | n + 1, v4, M => ∀ x16 : Int, x16 = M 1 39 → iR x16 → (
iR v4 ∧ (
(((x16 ≤ v4) → (X88 v4 M)) ∧
((¬ (x16 ≤ v4)) → (qX12_does v4 M (fun (x19 : Int) (M19 : Mem) => iR x19 → (x19 = 0 ∨ x19 = 1) → (
(((x19 = 0) → (X88 v4 M19)) ∧
((¬ (x19 = 0)) → (qX12_hour_L64  X88 Q n (v4 + 1) M19))))))))))
def qX12_hour_J108  (Q : Int → Mem → Prop) (v4 : Int) (t0 : Int) (M : Mem) : Prop := iR t0 ∧ (
qX12_flag t0 M (fun (x27 : Int) (M27 : Mem) => iR x27 → (
qX12_enters x27 M27 (fun (M28 : Mem) =>  (
∀ x29 : Int, x29 = M28 5 37 → iR x29 → (
qX12_enters x29 M28 (fun (M30 : Mem) =>  (
iR v4 ∧ (
(((v4 ≤ 0) → (Q 0 M30)) ∧
((¬ (v4 ≤ 0)) → (qX12_adds v4 M30 (fun (x33 : Int) (M33 : Mem) => iR x33 → (
Q x33 M33))))))))))))))
def qX12_hour_J88  (Q : Int → Mem → Prop) (v4 : Int) (M : Mem) : Prop := ∀ M22 : Mem, M22 = up2 M 1 1 0 → (
∀ x23 : Int, x23 = M22 1 39 → iR x23 → (
iR v4 ∧ (
(((x23 ≤ v4) → (qX12_hour_J108  Q v4 0 M22)) ∧
((¬ (x23 ≤ v4)) → (qX12_hour_J108  Q v4 1 M22))))))
def qX12_hour_J42  (Q : Int → Mem → Prop) (v1 : Int) (v2 : Int) (M : Mem) : Prop := iR v1 ∧ (
iR v2 ∧ (
qX12_faultOf v1 60 v2 M (fun (x13 : Int) (M13 : Mem) => iR x13 → (
(((0 ≤ x13) → (qX12_putsBy  M13 (fun (M15 : Mem) =>  (
∃ n21 : Nat, qX12_hour_L64  (fun (v4 : Int) (M : Mem) => qX12_hour_J88  Q v4 M) Q n21 0 M15)))) ∧
((¬ (0 ≤ x13)) → (Q x13 M13)))))))
def qX12_hour  (M : Mem) (Q : Int → Mem → Prop) : Prop := ∀ M1 : Mem, M1 = up2 M 1 0 0 → (
qX12_begins 60 M1 (fun (x2 : Int) (M2 : Mem) => iR x2 → (
∀ M3 : Mem, M3 = up2 M2 1 39 0 → (
∃ n10 : Nat, qX12_hour_L19  (fun (v1 : Int) (v2 : Int) (M : Mem) => qX12_hour_J42  Q v1 v2 M) Q n10 x2 1 M3))))
def qX12_line_L20   (Q : Int → Mem → Prop) : Nat → Int → Mem → Prop
  | 0, _, _ => False
  | n + 1, v1, M => ∀ x4 : Int, x4 = M 1 35 → iR x4 → (
iR v1 ∧ (
(((x4 ≤ v1) → (∀ x7 : Int, x7 = M 1 35 → iR x7 → (
Q x7 M))) ∧
((¬ (x4 ≤ v1)) → ((0 ≤ v1) ∧ (
(v1 < 6) ∧ (
∀ x10 : Int, x10 = M 18 v1 → iR x10 → (
qX12_enters x10 M (fun (M11 : Mem) =>  (
qX12_line_L20   Q n (v1 + 1) M11))))))))))
def qX12_line  (M : Mem) (Q : Int → Mem → Prop) : Prop := ∀ M1 : Mem, M1 = up2 M 1 0 0 → (
qX12_laysLine 5 M1 (fun (M2 : Mem) =>  (
∀ M3 : Mem, M3 = up2 M2 1 1 0 → (
∃ n12 : Nat, qX12_line_L20   Q n12 0 M3))))
def qX12_copies_L2   (Q : Mem → Prop) : Nat → Int → Mem → Prop
  | 0, _, _ => False
  | n + 1, v1, M => iR v1 ∧ (
(((38 ≤ v1) → (Q M)) ∧
((¬ (38 ≤ v1)) → ((0 ≤ v1) ∧ (
(v1 < 38) ∧ (
∀ x5 : Int, x5 = M 5 v1 → iR x5 → (
∀ M6 : Mem, M6 = up2 M 6 v1 x5 → (
qX12_copies_L2   Q n (v1 + 1) M6))))))))
def qX12_copies  (M : Mem) (Q : Mem → Prop) : Prop := ∃ n7 : Nat, qX12_copies_L2   Q n7 0 M
def qX12_ahead_L39 (p1 : Int)  (Q : Int → Mem → Prop) : Nat → Int → Mem → Prop
  | 0, _, _ => False
  | n + 1, v2, M => ∀ x7 : Int, x7 = M 1 4 → iR x7 → (
iR v2 ∧ (
(((x7 ≤ v2) → (∀ x10 : Int, x10 = M 6 12 → iR x10 → (
Q x10 M))) ∧
((¬ (x7 ≤ v2)) → ((0 ≤ v2) ∧ (
(v2 < 38) ∧ (
∀ x13 : Int, x13 = M 6 v2 → iR x13 → (
qX12_enters x13 M (fun (M14 : Mem) =>  (
qX12_ahead_L39 p1  Q n (v2 + 1) M14))))))))))
def qX12_ahead (p1 : Int) (M : Mem) (Q : Int → Mem → Prop) : Prop := ∀ M1 : Mem, M1 = up2 M 1 0 0 → (
qX12_in p1 0 99 M1 (fun (x2 : Int) (M2 : Mem) => iR x2 → (x2 = 0 ∨ x2 = 1) → (
(((¬ x2 = 0) → (qX12_copies  M2 (fun (M4 : Mem) =>  (
qX12_goesOn 6 p1 M4 (fun (M5 : Mem) =>  (
∀ M6 : Mem, M6 = up2 M5 1 1 0 → (
∃ n15 : Nat, qX12_ahead_L39 p1  Q n15 0 M6))))))) ∧
((x2 = 0) → (Q (-1) M2))))))
def qX12_arrives_L21 (p1 : Int) (X39 : Int → Mem → Prop) (Q : Int → Mem → Prop) : Nat → Int → Mem → Prop
  | 0, _, _ => False
  | n + 1, v2, M => iR v2 ∧ (
(((200 < v2) → (Q (-2) M)) ∧
((¬ (200 < v2)) → (qX12_isOn 6 p1 M (fun (x7 : Int) (M7 : Mem) => iR x7 → (x7 = 0 ∨ x7 = 1) → (
(((¬ x7 = 0) → (qX12_stepGoes 6 M7 (fun (M9 : Mem) =>  (
qX12_arrives_L21 p1 X39 Q n (v2 + 1) M9)))) ∧
((x7 = 0) → (X39 v2 M7)))))))))
def qX12_arrives (p1 : Int) (M : Mem) (Q : Int → Mem → Prop) : Prop := ∀ M1 : Mem, M1 = up2 M 1 0 0 → (
qX12_isHearse p1 M1 (fun (x2 : Int) (M2 : Mem) => iR x2 → (x2 = 0 ∨ x2 = 1) → (
(((¬ x2 = 0) → (qX12_copies  M2 (fun (M4 : Mem) =>  (
∃ n10 : Nat, qX12_arrives_L21 p1 (fun (v2 : Int) (M : Mem) => ∀ M11 : Mem, M11 = up2 M 1 1 0 → (
(0 ≤ (6 + p1)) ∧ (
((6 + p1) < 38) ∧ (
∀ x14 : Int, x14 = M11 6 (6 + p1) → iR x14 → (
qX12_enters x14 M11 (fun (M15 : Mem) =>  (
iR v2 ∧ (
Q v2 M15)))))))) Q n10 0 M4)))) ∧
((x2 = 0) → (Q (-1) M2))))))
def qX12_jam_L36 (p1 : Int) (X71 : Int → Mem → Prop) (Q : Int → Mem → Prop) : Nat → Int → Int → Mem → Prop
  | 0, _, _, _ => False
  | n + 1, v2, v3, M => ∀ x6 : Int, x6 = M 1 3 → iR x6 → (
iR v3 ∧ (
(((x6 ≤ v3) → (X71 v2 M)) ∧
((¬ (x6 ≤ v3)) → ((0 ≤ v3) ∧ (
(v3 < 30) ∧ (
∀ x11 : Int, x11 = M 16 v3 → iR x11 → (
(0 ≤ v2) ∧ (
(v2 < 30) ∧ (
∀ x14 : Int, x14 = M 16 v2 → iR x14 → (
(((x11 ≤ x14) → (qX12_jam_L36 p1 X71 Q n v2 (v3 + 1) M)) ∧
((¬ (x11 ≤ x14)) → (qX12_jam_L36 p1 X71 Q n v3 (v3 + 1) M))))))))))))))
def qX12_jam (p1 : Int) (M : Mem) (Q : Int → Mem → Prop) : Prop := ∀ M1 : Mem, M1 = up2 M 1 0 0 → (
qX12_in p1 1 60 M1 (fun (x2 : Int) (M2 : Mem) => iR x2 → (x2 = 0 ∨ x2 = 1) → (
(((¬ x2 = 0) → (qX12_copies  M2 (fun (M4 : Mem) =>  (
qX12_goesOn 6 p1 M4 (fun (M5 : Mem) =>  (
∃ n16 : Nat, qX12_jam_L36 p1 (fun (v2 : Int) (M : Mem) => ∀ M17 : Mem, M17 = up2 M 1 1 0 → (
(0 ≤ v2) ∧ (
(v2 < 30) ∧ (
∀ x20 : Int, x20 = M17 16 v2 → iR x20 → (
qX12_enters x20 M17 (fun (M21 : Mem) =>  (
∀ x22 : Int, x22 = M21 1 30 → iR x22 → (
qX12_enters x22 M21 (fun (M23 : Mem) =>  (
iR v2 ∧ (
Q v2 M23))))))))))) Q n16 0 0 M5)))))) ∧
((x2 = 0) → (Q (-1) M2))))))
def qX12_isAhead (k0 : Nat) (p1 : Int) (p2 : Int) (M : Mem) (Q : Int → Mem → Prop) : Prop := qX12_isOn k0 p1 M (fun (x1 : Int) (M1 : Mem) => iR x1 → (x1 = 0 ∨ x1 = 1) → (
(((x1 = 0) → (qX12_isOn k0 p2 M1 (fun (x3 : Int) (M3 : Mem) => iR x3 → (x3 = 0 ∨ x3 = 1) → (
(((¬ x3 = 0) → (Q 1 M3)) ∧
((x3 = 0) → ((0 ≤ (6 + p1)) ∧ (
((6 + p1) < 38) ∧ (
∀ x7 : Int, x7 = M3 k0 (6 + p1) → iR x7 → (
(0 ≤ (6 + p2)) ∧ (
((6 + p2) < 38) ∧ (
∀ x10 : Int, x10 = M3 k0 (6 + p2) → iR x10 → (
(((x10 ≤ x7) → (Q 0 M3)) ∧
((¬ (x10 ≤ x7)) → (Q 1 M3)))))))))))))))) ∧
((¬ (x1 = 0)) → (qX12_isOn k0 p2 M1 (fun (x12 : Int) (M12 : Mem) => iR x12 → (x12 = 0 ∨ x12 = 1) → (
(((x12 = 0) → (Q 0 M12)) ∧
((¬ (x12 = 0)) → ((0 ≤ p1) ∧ (
(p1 < 38) ∧ (
∀ x16 : Int, x16 = M12 k0 p1 → iR x16 → (
(0 ≤ p2) ∧ (
(p2 < 38) ∧ (
∀ x19 : Int, x19 = M12 k0 p2 → iR x19 → (
(((x16 ≤ x19) → (Q 0 M12)) ∧
((¬ (x16 ≤ x19)) → (Q 1 M12)))))))))))))))))))
def qX12_passes_L71 (p1 : Int) (p2 : Int) (X97 : Int → Mem → Prop) (Q : Int → Mem → Prop) : Nat → Int → Mem → Prop
  | 0, _, _ => False
  | n + 1, v3, M => iR v3 ∧ (
(((60 < v3) → (Q (-2) M)) ∧
((¬ (60 < v3)) → (qX12_stepGoes 6 M (fun (M16 : Mem) =>  (
qX12_isAhead 6 p1 p2 M16 (fun (x17 : Int) (M17 : Mem) => iR x17 → (x17 = 0 ∨ x17 = 1) → (
(((x17 = 0) → (qX12_passes_L71 p1 p2 X97 Q n (v3 + 1) M17)) ∧
((¬ (x17 = 0)) → (X97 v3 M17)))))))))))
def qX12_passes (p1 : Int) (p2 : Int) (M : Mem) (Q : Int → Mem → Prop) : Prop := ∀ M1 : Mem, M1 = up2 M 1 0 0 → (
qX12_isHearse p1 M1 (fun (x2 : Int) (M2 : Mem) => iR x2 → (x2 = 0 ∨ x2 = 1) → (
(((x2 = 0) → (Q (-1) M2)) ∧
((¬ (x2 = 0)) → (qX12_isHearse p2 M2 (fun (x4 : Int) (M4 : Mem) => iR x4 → (x4 = 0 ∨ x4 = 1) → (
(((x4 = 0) → (Q (-1) M4)) ∧
((¬ (x4 = 0)) → ((((¬ p1 = p2) → (qX12_isOn 5 p1 M4 (fun (x7 : Int) (M7 : Mem) => iR x7 → (x7 = 0 ∨ x7 = 1) → (
(((x7 = 0) → (Q (-2) M7)) ∧
((¬ (x7 = 0)) → (qX12_isOn 5 p2 M7 (fun (x9 : Int) (M9 : Mem) => iR x9 → (x9 = 0 ∨ x9 = 1) → (
(((x9 = 0) → (Q (-2) M9)) ∧
((¬ (x9 = 0)) → (qX12_isAhead 5 p1 p2 M9 (fun (x11 : Int) (M11 : Mem) => iR x11 → (x11 = 0 ∨ x11 = 1) → (
(((x11 = 0) → (qX12_copies  M11 (fun (M13 : Mem) =>  (
∃ n19 : Nat, qX12_passes_L71 p1 p2 (fun (v3 : Int) (M : Mem) => ∀ M20 : Mem, M20 = up2 M 1 1 0 → (
(0 ≤ p1) ∧ (
(p1 < 38) ∧ (
∀ x23 : Int, x23 = M20 6 p1 → iR x23 → (
qX12_enters x23 M20 (fun (M24 : Mem) =>  (
iR v3 ∧ (
Q v3 M24)))))))) Q n19 1 M13)))) ∧
((¬ (x11 = 0)) → (Q (-2) M11))))))))))))))))) ∧
((p1 = p2) → (Q (-1) M4))))))))))))))
def qX12_ends_L30 (p1 : Int) (X48 : Int → Mem → Prop) (Q : Int → Mem → Prop) : Nat → Int → Mem → Prop
  | 0, _, _ => False
  | n + 1, v2, M => iR v2 ∧ (
(((200 < v2) → (Q (-2) M)) ∧
((¬ (200 < v2)) → (qX12_isEnded 6 p1 M (fun (x8 : Int) (M8 : Mem) => iR x8 → (x8 = 0 ∨ x8 = 1) → (
(((x8 = 0) → (qX12_stepGoes 6 M8 (fun (M10 : Mem) =>  (
qX12_ends_L30 p1 X48 Q n (v2 + 1) M10)))) ∧
((¬ (x8 = 0)) → (X48 v2 M8)))))))))
def qX12_ends (p1 : Int) (M : Mem) (Q : Int → Mem → Prop) : Prop := ∀ M1 : Mem, M1 = up2 M 1 0 0 → (
qX12_isMourner p1 M1 (fun (x2 : Int) (M2 : Mem) => iR x2 → (x2 = 0 ∨ x2 = 1) → (
(((¬ x2 = 0) → (qX12_copies  M2 (fun (M4 : Mem) =>  (
qX12_goesOn 6 0 M4 (fun (M5 : Mem) =>  (
∃ n11 : Nat, qX12_ends_L30 p1 (fun (v2 : Int) (M : Mem) => ∀ M12 : Mem, M12 = up2 M 1 1 0 → (
iR v2 ∧ (
qX12_enters v2 M12 (fun (M14 : Mem) =>  (
(0 ≤ p1) ∧ (
(p1 < 8) ∧ (
∀ x17 : Int, x17 = M14 17 p1 → iR x17 → (
qX12_enters x17 M14 (fun (M18 : Mem) =>  (
(0 ≤ (29 + p1)) ∧ (
((29 + p1) < 38) ∧ (
∀ x21 : Int, x21 = M18 6 (29 + p1) → iR x21 → (
Q x21 M18))))))))))))) Q n11 0 M5)))))) ∧
((x2 = 0) → (Q (-1) M2))))))
def qX12_endedBy_J46 (k1 : Nat) (p2 : Int) (R : Int → Int → Mem → Prop)  (Q : Int → Mem → Prop) (v4 : Int) (t0 : Int) (t1 : Int) (M : Mem) : Prop := iR t0 ∧ (
(((¬ t0 = p2) → (∀ x17 : Int, x17 = oI t1 0 → iR x17 → (
R x17 (v4 + 1) M))) ∧
((t0 = p2) → (∀ x18 : Int, x18 = slI 1 v4 → iR x18 → (
∀ x19 : Int, x19 = oI t1 x18 → iR x19 → (
R x19 (v4 + 1) M))))))
def qX12_endedBy_L5 (k1 : Nat) (p2 : Int)  (Q : Int → Mem → Prop) : Nat → Int → Int → Mem → Prop
  | 0, _, _, _ => False
  | n + 1, v3, v4, M => ∀ x1 : Int, x1 = M 1 5 → iR x1 → (
iR v4 ∧ (
(((x1 ≤ v4) → (iR v3 ∧ (
Q v3 M))) ∧
((¬ (x1 ≤ v4)) → (qX12_isEnded k1 v4 M (fun (x5 : Int) (M5 : Mem) => iR x5 → (x5 = 0 ∨ x5 = 1) → (
(((x5 = 0) → (∀ x7 : Int, x7 = oI v3 0 → iR x7 → (
qX12_endedBy_L5 k1 p2  Q n x7 (v4 + 1) M5))) ∧
((¬ (x5 = 0)) → ((0 ≤ (29 + v4)) ∧ (
((29 + v4) < 38) ∧ (
∀ x10 : Int, x10 = M5 k1 (29 + v4) → iR x10 → (
(0 ≤ v4) ∧ (
(v4 < 8) ∧ (
∀ x13 : Int, x13 = M5 3 v4 → iR x13 → (
(((¬ x10 = x13) → (qX12_endedBy_J46 k1 p2 (qX12_endedBy_L5 k1 p2  Q n)  Q v4 0 v3 M5)) ∧
((x10 = x13) → (qX12_endedBy_J46 k1 p2 (qX12_endedBy_L5 k1 p2  Q n)  Q v4 1 v3 M5)))))))))))))))))))
def qX12_endedBy (k1 : Nat) (p2 : Int) (M : Mem) (Q : Int → Mem → Prop) : Prop := ∃ n20 : Nat, qX12_endedBy_L5 k1 p2  Q n20 0 0 M
def qX12_rightThen_J35  (R : Int → Int → Mem → Prop) (X50 : Mem → Prop) (Q : Int → Mem → Prop) (v2 : Int) (t0 : Int) (M : Mem) : Prop := qX12_stepGoes 6 M (fun (M8 : Mem) =>  (
R t0 (v2 + 1) M8))
def qX12_rightThen_L4  (X50 : Mem → Prop) (Q : Int → Mem → Prop) : Nat → Int → Int → Mem → Prop
  | 0, _, _, _ => False
  | n + 1, v1, v2, M => iR v2 ∧ (
(((200 ≤ v2) → (X50  M)) ∧
((¬ (200 ≤ v2)) → (iR v1 ∧ (
(((v1 = 0) → (X50  M)) ∧
((¬ (v1 = 0)) → (qX12_laysLine 6 M (fun (M5 : Mem) =>  (
∀ x6 : Int, x6 = M5 1 35 → iR x6 → (
(((x6 ≤ 0) → (qX12_rightThen_J35  (qX12_rightThen_L4  X50 Q n) X50 Q v2 0 M5)) ∧
((¬ (x6 ≤ 0)) → (qX12_rightThen_J35  (qX12_rightThen_L4  X50 Q n) X50 Q v2 1 M5))))))))))))))
def qX12_rightThen_J50  (Q : Int → Mem → Prop)  (M : Mem) : Prop := qX12_endedBy 6 1 M (fun (x10 : Int) (M10 : Mem) => iR x10 → (
Q x10 M10))
def qX12_rightThen  (M : Mem) (Q : Int → Mem → Prop) : Prop := ∃ n9 : Nat, qX12_rightThen_L4  (fun  (M : Mem) => qX12_rightThen_J50  Q  M) Q n9 1 0 M
def qX12_right  (M : Mem) (Q : Int → Mem → Prop) : Prop := ∀ M1 : Mem, M1 = up2 M 1 0 0 → (
qX12_copies  M1 (fun (M2 : Mem) =>  (
qX12_rightThen  M2 (fun (x3 : Int) (M3 : Mem) => iR x3 → (
∀ M4 : Mem, M4 = up2 M3 1 1 0 → (
qX12_enters x3 M4 (fun (M5 : Mem) =>  (
qX12_endedBy 6 0 M5 (fun (x6 : Int) (M6 : Mem) => iR x6 → (
qX12_enters x6 M6 (fun (M7 : Mem) =>  (
qJ6_bitCount_0f7a4 x3 M7 (fun (x8 : Int) (M8 : Mem) => iR x8 → (
Q x8 M8))))))))))))))
def qX12_has (p0 : Int) (p1 : Int) (M : Mem) (Q : Int → Mem → Prop) : Prop := ∀ x1 : Int, x1 = srI p0 p1 → iR x1 → (
∀ x2 : Int, x2 = aI x1 1 → iR x2 → (
(((¬ x2 = 1) → (Q 0 M)) ∧
((x2 = 1) → (Q 1 M)))))
def qX12_places_L123 (rc : Int → Int → Mem → (Mem → Prop) → Prop) (p1 : Int) (p2 : Int)  (Q : Mem → Prop) : Nat → Int → Mem → Prop
  | 0, _, _ => False
  | n + 1, v3, M => qX12_gate  M (fun (x8 : Int) (M8 : Mem) => iR x8 → (
iR v3 ∧ (
(((x8 ≤ v3) → (Q M8)) ∧
((¬ (x8 ≤ v3)) → (qX12_onCell 5 v3 M8 (fun (x11 : Int) (M11 : Mem) => iR x11 → (
(((x11 < 0) → (qX12_places_L123 rc p1 p2  Q n (v3 + 1) M11)) ∧
((¬ (x11 < 0)) → (qX12_has p2 x11 M11 (fun (x13 : Int) (M13 : Mem) => iR x13 → (x13 = 0 ∨ x13 = 1) → (
(((¬ x13 = 0) → (qX12_places_L123 rc p1 p2  Q n (v3 + 1) M13)) ∧
((x13 = 0) → ((0 ≤ p1) ∧ (
(p1 < 6) ∧ (
∀ M17 : Mem, M17 = up2 M13 22 p1 v3 → (
∀ x18 : Int, x18 = slI 1 x11 → iR x18 → (
∀ x19 : Int, x19 = oI p2 x18 → iR x19 → (
iR (p1 + 1) ∧ (
rc  (p1 + 1) x19 M17 (fun (M21 : Mem) =>  (
qX12_places_L123 rc p1 p2  Q n (v3 + 1) M21))))))))))))))))))))))))
def qX12_places_L14 (rc : Int → Int → Mem → (Mem → Prop) → Prop) (p1 : Int) (p2 : Int) (X40 : Mem → Prop) (Q : Mem → Prop) : Nat → Int → Mem → Prop
  | 0, _, _ => False
  | n + 1, v3, M => ∀ x26 : Int, x26 = M 1 4 → iR x26 → (
iR v3 ∧ (
(((x26 ≤ v3) → (X40  M)) ∧
((¬ (x26 ≤ v3)) → ((0 ≤ v3) ∧ (
(v3 < 6) ∧ (
∀ x31 : Int, x31 = M 22 v3 → iR x31 → (
(0 ≤ v3) ∧ (
(v3 < 38) ∧ (
∀ M34 : Mem, M34 = up2 M 6 v3 x31 → (
qX12_places_L14 rc p1 p2 X40 Q n (v3 + 1) M34)))))))))))
def qX12_places_L64 (rc : Int → Int → Mem → (Mem → Prop) → Prop) (p1 : Int) (p2 : Int)  (Q : Mem → Prop) : Nat → Int → Mem → Prop
  | 0, _, _ => False
  | n + 1, v4, M => ∀ x41 : Int, x41 = M 1 4 → iR x41 → (
iR v4 ∧ (
(((x41 ≤ v4) → (Q M)) ∧
((¬ (x41 ≤ v4)) → ((0 ≤ v4) ∧ (
(v4 < 6) ∧ (
∀ x46 : Int, x46 = M 22 v4 → iR x46 → (
∀ M47 : Mem, M47 = up2 M 23 v4 x46 → (
qX12_places_L64 rc p1 p2  Q n (v4 + 1) M47)))))))))
def bX12_places (rc : Int → Int → Mem → (Mem → Prop) → Prop) (p1 : Int) (p2 : Int) (M : Mem) (Q : Mem → Prop) : Prop := ∀ x1 : Int, x1 = M 1 4 → iR x1 → (
(((¬ p1 = x1) → ((0 ≤ p1) ∧ (
(p1 < 6) ∧ (
∀ M5 : Mem, M5 = up2 M 22 p1 (-1) → (
qX12_isOn 5 p1 M5 (fun (x6 : Int) (M6 : Mem) => iR x6 → (x6 = 0 ∨ x6 = 1) → (
(((¬ x6 = 0) → (∃ n22 : Nat, qX12_places_L123 rc p1 p2  Q n22 0 M6)) ∧
((x6 = 0) → (iR (p1 + 1) ∧ (
rc  (p1 + 1) p2 M6 (fun (M24 : Mem) =>  (
Q M24))))))))))))) ∧
((p1 = x1) → (qX12_copies  M (fun (M25 : Mem) =>  (
∃ n35 : Nat, qX12_places_L14 rc p1 p2 (fun  (M : Mem) => qX12_rightThen  M (fun (x36 : Int) (M36 : Mem) => iR x36 → (
qJ6_bitCount_0f7a4 x36 M36 (fun (x37 : Int) (M37 : Mem) => iR x37 → (
∀ x38 : Int, x38 = M37 1 42 → iR x38 → (
(((x37 ≤ x38) → (Q M37)) ∧
((¬ (x37 ≤ x38)) → (∀ M40 : Mem, M40 = up2 M37 1 42 x37 → (
∃ n48 : Nat, qX12_places_L64 rc p1 p2  Q n48 0 M40)))))))))) Q n35 0 M25))))))
def qX12_places : Nat → Int → Int → Mem → (Mem → Prop) → Prop
  | 0, _, _, _, _ => False
  | d + 1, p1, p2, M, Q => bX12_places (qX12_places d) p1 p2 M Q
def qX12_order_L23   (Q : Int → Mem → Prop) : Nat → Int → Mem → Prop
  | 0, _, _ => False
  | n + 1, v1, M => ∀ x6 : Int, x6 = M 1 4 → iR x6 → (
iR v1 ∧ (
(((x6 ≤ v1) → (∀ x9 : Int, x9 = M 1 42 → iR x9 → (
Q x9 M))) ∧
((¬ (x6 ≤ v1)) → (qX12_isOn 5 v1 M (fun (x10 : Int) (M10 : Mem) => iR x10 → (x10 = 0 ∨ x10 = 1) → (
(((x10 = 0) → (qX12_order_L23   Q n (v1 + 1) M10)) ∧
((¬ (x10 = 0)) → ((0 ≤ v1) ∧ (
(v1 < 6) ∧ (
∀ x14 : Int, x14 = M10 23 v1 → iR x14 → (
qX12_enters x14 M10 (fun (M15 : Mem) =>  (
qX12_order_L23   Q n (v1 + 1) M15)))))))))))))))
def qX12_order  (M : Mem) (Q : Int → Mem → Prop) : Prop := ∀ M1 : Mem, M1 = up2 M 1 0 0 → (
∀ M2 : Mem, M2 = up2 M1 1 42 (-1) → (
∃ d4 : Nat, d4 ≤ 8 ∧ (
qX12_places d4 0 0 M2 (fun (M3 : Mem) =>  (
∀ M5 : Mem, M5 = up2 M3 1 1 0 → (
∃ n16 : Nat, qX12_order_L23   Q n16 0 M5))))))
def qX12_stands_L42 (p1 : Int) (X95 : Int → Int → Mem → Prop) (Q : Int → Mem → Prop) : Nat → Int → Int → Int → Mem → Prop
  | 0, _, _, _, _ => False
  | n + 1, v2, v3, v4, M => iR v4 ∧ (
(((v4 < 0) → (X95 v2 v3 M)) ∧
((¬ (v4 < 0)) → (qX12_copies  M (fun (M9 : Mem) =>  (
(0 ≤ (13 + p1)) ∧ (
((13 + p1) < 38) ∧ (
∀ M12 : Mem, M12 = up2 M9 6 (13 + p1) v4 → (
(0 ≤ (21 + p1)) ∧ (
((21 + p1) < 38) ∧ (
∀ M15 : Mem, M15 = up2 M12 6 (21 + p1) (-1) → (
qX12_rightThen  M15 (fun (x16 : Int) (M16 : Mem) => iR x16 → (
qX12_has x16 p1 M16 (fun (x17 : Int) (M17 : Mem) => iR x17 → (x17 = 0 ∨ x17 = 1) → (
(((x17 = 0) → (qX12_stands_L42 p1 X95 Q n v2 v3 (v4 + (-1)) M17)) ∧
((¬ (x17 = 0)) → (qX12_stands_L42 p1 X95 Q n v4 (v3 + 1) (v4 + (-1)) M17)))))))))))))))))))
def qX12_stands (p1 : Int) (M : Mem) (Q : Int → Mem → Prop) : Prop := ∀ M1 : Mem, M1 = up2 M 1 0 0 → (
qX12_isMourner p1 M1 (fun (x2 : Int) (M2 : Mem) => iR x2 → (x2 = 0 ∨ x2 = 1) → (
(((¬ x2 = 0) → (qX12_isEnded 5 p1 M2 (fun (x4 : Int) (M4 : Mem) => iR x4 → (x4 = 0 ∨ x4 = 1) → (
(((x4 = 0) → (qX12_gate  M4 (fun (x6 : Int) (M6 : Mem) => iR x6 → (
∃ n19 : Nat, qX12_stands_L42 p1 (fun (v2 : Int) (v3 : Int) (M : Mem) => iR v2 ∧ (
(((v2 < 0) → (Q v2 M)) ∧
((¬ (v2 < 0)) → (∀ M22 : Mem, M22 = up2 M 1 1 0 → (
iR v3 ∧ (
qX12_enters v3 M22 (fun (M24 : Mem) =>  (
Q v2 M24))))))))) Q n19 (-2) 0 (x6 - 1) M6)))) ∧
((¬ (x4 = 0)) → (Q (-2) M4))))))) ∧
((x2 = 0) → (Q (-1) M2))))))
def qX12_when_J111 (p1 : Int) (R : Int → Int → Int → Mem → Prop) (X142 : Int → Int → Mem → Prop) (Q : Int → Mem → Prop) (v2 : Int) (v3 : Int) (v4 : Int) (M : Mem) : Prop := qX12_rightThen  M (fun (x15 : Int) (M15 : Mem) => iR x15 → (
qX12_has x15 p1 M15 (fun (x16 : Int) (M16 : Mem) => iR x16 → (x16 = 0 ∨ x16 = 1) → (
(((x16 = 0) → (R v2 v3 (v4 + (-1)) M16)) ∧
((¬ (x16 = 0)) → (iR v2 ∧ (
(((0 ≤ v2) → (R v4 v3 (v4 + (-1)) M16)) ∧
((¬ (0 ≤ v2)) → (R v4 v4 (v4 + (-1)) M16)))))))))))
def qX12_when_J97 (p1 : Int) (R : Int → Int → Int → Mem → Prop) (X142 : Int → Int → Mem → Prop) (Q : Int → Mem → Prop) (v2 : Int) (v3 : Int) (v4 : Int) (t0 : Int) (M : Mem) : Prop := iR t0 ∧ (
(((0 ≤ t0) → (qX12_when_J111 p1 (R) X142 Q v2 v3 v4 M)) ∧
((¬ (0 ≤ t0)) → ((((¬ t0 = (-4)) → (R v2 v3 (v4 + (-1)) M)) ∧
((t0 = (-4)) → (qX12_when_J111 p1 (R) X142 Q v2 v3 v4 M)))))))
def qX12_when_J77 (p1 : Int) (R : Int → Int → Int → Mem → Prop) (X142 : Int → Int → Mem → Prop) (Q : Int → Mem → Prop) (v2 : Int) (v3 : Int) (v4 : Int) (t0 : Int) (M : Mem) : Prop := iR t0 ∧ (
(((t0 = 0) → (qX12_turnsOne 6 p1 M (fun (x12 : Int) (M12 : Mem) => iR x12 → (
qX12_when_J97 p1 (R) X142 Q v2 v3 v4 x12 M12)))) ∧
((¬ (t0 = 0)) → (qX12_when_J97 p1 (R) X142 Q v2 v3 v4 0 M))))
def qX12_when_J76 (p1 : Int) (R : Int → Int → Int → Mem → Prop) (X142 : Int → Int → Mem → Prop) (Q : Int → Mem → Prop) (v2 : Int) (v3 : Int) (v4 : Int) (M : Mem) : Prop := qX12_when_J77 p1 (R) X142 Q v2 v3 v4 0 M
def qX12_when_L24 (p1 : Int) (X142 : Int → Int → Mem → Prop) (Q : Int → Mem → Prop) : Nat → Int → Int → Int → Mem → Prop
  | 0, _, _, _, _ => False
  | n + 1, v2, v3, v4, M => iR v4 ∧ (
(((v4 < 0) → (X142 v2 v3 M)) ∧
((¬ (v4 < 0)) → (qX12_copies  M (fun (M6 : Mem) =>  (
qX12_goesOn 6 v4 M6 (fun (M7 : Mem) =>  (
qX12_isEnded 6 p1 M7 (fun (x8 : Int) (M8 : Mem) => iR x8 → (x8 = 0 ∨ x8 = 1) → (
(((¬ x8 = 0) → (qX12_when_J76 p1 (qX12_when_L24 p1 X142 Q n) X142 Q v2 v3 v4 M8)) ∧
((x8 = 0) → ((0 ≤ (21 + p1)) ∧ (
((21 + p1) < 38) ∧ (
∀ x23 : Int, x23 = M8 6 (21 + p1) → iR x23 → (
(0 ≤ p1) ∧ (
(p1 < 8) ∧ (
∀ x26 : Int, x26 = M8 3 p1 → iR x26 → (
(((¬ x23 = x26) → (qX12_when_J76 p1 (qX12_when_L24 p1 X142 Q n) X142 Q v2 v3 v4 M8)) ∧
((x23 = x26) → (qX12_when_J77 p1 (qX12_when_L24 p1 X142 Q n) X142 Q v2 v3 v4 1 M8))))))))))))))))))))))
def qX12_when (p1 : Int) (M : Mem) (Q : Int → Mem → Prop) : Prop := ∀ M1 : Mem, M1 = up2 M 1 0 0 → (
qX12_isMourner p1 M1 (fun (x2 : Int) (M2 : Mem) => iR x2 → (x2 = 0 ∨ x2 = 1) → (
(((¬ x2 = 0) → (∃ n28 : Nat, qX12_when_L24 p1 (fun (v2 : Int) (v3 : Int) (M : Mem) => iR v2 ∧ (
(((v2 < 0) → (Q v2 M)) ∧
((¬ (v2 < 0)) → (∀ M31 : Mem, M31 = up2 M 1 1 0 → (
iR v3 ∧ (
qX12_enters v3 M31 (fun (M33 : Mem) =>  (
Q v2 M33))))))))) Q n28 (-2) 0 60 M2)) ∧
((x2 = 0) → (Q (-1) M2))))))
def qX12_mends_J90 (p1 : Int) (R : Int → Int → Int → Int → Mem → Prop) (X122 : Int → Int → Int → Mem → Prop) (Q : Int → Mem → Prop) (v2 : Int) (v3 : Int) (v4 : Int) (v5 : Int) (t0 : Int) (M : Mem) : Prop := iR v4 ∧ (
(((v4 = 0) → (R v2 v3 0 (v5 + 1) M)) ∧
((¬ (v4 = 0)) → (iR t0 ∧ (
(((0 ≤ t0) → (R v2 v3 1 (v5 + 1) M)) ∧
((¬ (0 ≤ t0)) → ((((¬ t0 = (-4)) → (R v2 v3 0 (v5 + 1) M)) ∧
((t0 = (-4)) → (R v2 v3 1 (v5 + 1) M)))))))))))
def qX12_mends_L58 (p1 : Int) (X122 : Int → Int → Int → Mem → Prop) (Q : Int → Mem → Prop) : Nat → Int → Int → Int → Int → Mem → Prop
  | 0, _, _, _, _, _ => False
  | n + 1, v2, v3, v4, v5, M => ∀ x11 : Int, x11 = M 1 5 → iR x11 → (
iR v5 ∧ (
(((x11 ≤ v5) → (X122 v2 v3 v4 M)) ∧
((¬ (x11 ≤ v5)) → (iR v3 ∧ (
qX12_has v3 v5 M (fun (x15 : Int) (M15 : Mem) => iR x15 → (x15 = 0 ∨ x15 = 1) → (
(((x15 = 0) → (qX12_mends_J90 p1 (qX12_mends_L58 p1 X122 Q n) X122 Q v2 v3 v4 v5 0 M15)) ∧
((¬ (x15 = 0)) → (qX12_turnsOne 6 v5 M15 (fun (x22 : Int) (M22 : Mem) => iR x22 → (
qX12_mends_J90 p1 (qX12_mends_L58 p1 X122 Q n) X122 Q v2 v3 v4 v5 x22 M22)))))))))))))
def qX12_mends_J48 (p1 : Int) (R : Int → Int → Mem → Prop) (X150 : Int → Mem → Prop) (Q : Int → Mem → Prop) (v2 : Int) (v3 : Int) (M : Mem) : Prop := qX12_copies  M (fun (M10 : Mem) =>  (
∃ n23 : Nat, qX12_mends_L58 p1 (fun (v2 : Int) (v3 : Int) (v4 : Int) (M : Mem) => iR v4 ∧ (
(((v4 = 0) → (R v2 (v3 + 1) M)) ∧
((¬ (v4 = 0)) → (qX12_rightThen  M (fun (x26 : Int) (M26 : Mem) => iR x26 → (
qJ6_bitCount_0f7a4 x26 M26 (fun (x27 : Int) (M27 : Mem) => iR x27 → (
(((x27 < p1) → (R v2 (v3 + 1) M27)) ∧
((¬ (x27 < p1)) → (R v3 (v3 + 1) M27)))))))))))) Q n23 v2 v3 1 0 M10))
def qX12_mends_L23 (p1 : Int) (X150 : Int → Mem → Prop) (Q : Int → Mem → Prop) : Nat → Int → Int → Mem → Prop
  | 0, _, _, _ => False
  | n + 1, v2, v3, M => ∀ x4 : Int, x4 = M 1 5 → iR x4 → (
∀ x5 : Int, x5 = slI 1 x4 → iR x5 → (
iR v3 ∧ (
(((x5 ≤ v3) → (X150 v2 M)) ∧
((¬ (x5 ≤ v3)) → (iR v2 ∧ (
(((v2 < 0) → (qX12_mends_J48 p1 (qX12_mends_L23 p1 X150 Q n) X150 Q v2 v3 M)) ∧
((¬ (v2 < 0)) → (qJ6_bitCount_0f7a4 v3 M (fun (x29 : Int) (M29 : Mem) => iR x29 → (
qJ6_bitCount_0f7a4 v2 M29 (fun (x30 : Int) (M30 : Mem) => iR x30 → (
(((x30 ≤ x29) → (qX12_mends_L23 p1 X150 Q n v2 (v3 + 1) M30)) ∧
((¬ (x30 ≤ x29)) → (qX12_mends_J48 p1 (qX12_mends_L23 p1 X150 Q n) X150 Q v2 v3 M30)))))))))))))))))
def qX12_mends (p1 : Int) (M : Mem) (Q : Int → Mem → Prop) : Prop := ∀ M1 : Mem, M1 = up2 M 1 0 0 → (
qX12_in p1 0 8 M1 (fun (x2 : Int) (M2 : Mem) => iR x2 → (x2 = 0 ∨ x2 = 1) → (
(((¬ x2 = 0) → (∃ n32 : Nat, qX12_mends_L23 p1 (fun (v2 : Int) (M : Mem) => iR v2 ∧ (
(((0 ≤ v2) → (∀ M35 : Mem, M35 = up2 M 1 1 0 → (
qX12_enters v2 M35 (fun (M36 : Mem) =>  (
qJ6_bitCount_0f7a4 v2 M36 (fun (x37 : Int) (M37 : Mem) => iR x37 → (
Q x37 M37))))))) ∧
((¬ (0 ≤ v2)) → (Q (-2) M))))) Q n32 (-1) 0 M2)) ∧
((x2 = 0) → (Q (-1) M2))))))
def qX12_misleads_J117  (R : Int → Int → Int → Int → Int → Mem → Prop) (X124 : Int → Int → Int → Int → Mem → Prop) (Q : Int → Mem → Prop) (v1 : Int) (v2 : Int) (v3 : Int) (v4 : Int) (v5 : Int) (t0 : Int) (t1 : Int) (M : Mem) : Prop := (0 ≤ t1) ∧ (
(t1 < 38) ∧ (
iR t0 ∧ (
∀ M24 : Mem, M24 = up2 M 6 t1 t0 → (
R v1 v2 v3 v4 (v5 + 1) M24))))
def qX12_misleads_J107  (R : Int → Int → Int → Int → Int → Mem → Prop) (X124 : Int → Int → Int → Int → Mem → Prop) (Q : Int → Mem → Prop) (v1 : Int) (v2 : Int) (v3 : Int) (v4 : Int) (v5 : Int) (t0 : Int) (M : Mem) : Prop := (0 ≤ (21 + v5)) ∧ (
((21 + v5) < 38) ∧ (
∀ x20 : Int, x20 = M 6 (21 + v5) → iR x20 → (
qX12_misleads_J117  (R) X124 Q v1 v2 v3 v4 v5 x20 t0 M)))
def qX12_misleads_L58  (X124 : Int → Int → Int → Int → Mem → Prop) (Q : Int → Mem → Prop) : Nat → Int → Int → Int → Int → Int → Mem → Prop
  | 0, _, _, _, _, _, _ => False
  | n + 1, v1, v2, v3, v4, v5, M => ∀ x13 : Int, x13 = M 1 5 → iR x13 → (
iR v5 ∧ (
(((x13 ≤ v5) → (X124 v1 v2 v3 v4 M)) ∧
((¬ (x13 ≤ v5)) → (qX12_isEnded 6 v5 M (fun (x16 : Int) (M16 : Mem) => iR x16 → (x16 = 0 ∨ x16 = 1) → (
(((¬ x16 = 0) → (qX12_misleads_J107  (qX12_misleads_L58  X124 Q n) X124 Q v1 v2 v3 v4 v5 (21 + v5) M16)) ∧
((x16 = 0) → ((0 ≤ (21 + v5)) ∧ (
((21 + v5) < 38) ∧ (
∀ x27 : Int, x27 = M16 6 (21 + v5) → iR x27 → (
iR v4 ∧ (
(((¬ x27 = v4) → (qX12_misleads_J107  (qX12_misleads_L58  X124 Q n) X124 Q v1 v2 v3 v4 v5 (21 + v5) M16)) ∧
((x27 = v4) → (qX12_misleads_J117  (qX12_misleads_L58  X124 Q n) X124 Q v1 v2 v3 v4 v5 (-1) (21 + v5) M16)))))))))))))))))
def qX12_misleads_J154  (R : Int → Int → Int → Int → Mem → Prop) (X168 : Int → Int → Int → Mem → Prop) (Q : Int → Mem → Prop) (v1 : Int) (v3 : Int) (v4 : Int) (v5 : Int) (t0 : Int) (M : Mem) : Prop := iR v3 ∧ (
iR v5 ∧ (
∀ x41 : Int, x41 = max v3 v5 → iR x41 → (
R v1 t0 x41 (v4 + 1) M)))
def qX12_misleads_L22  (X168 : Int → Int → Int → Mem → Prop) (Q : Int → Mem → Prop) : Nat → Int → Int → Int → Int → Mem → Prop
  | 0, _, _, _, _, _ => False
  | n + 1, v1, v2, v3, v4, M => ∀ x4 : Int, x4 = M 1 4 → iR x4 → (
iR v4 ∧ (
(((x4 ≤ v4) → (X168 v1 v2 v3 M)) ∧
((¬ (x4 ≤ v4)) → (qX12_isOn 5 v4 M (fun (x7 : Int) (M7 : Mem) => iR x7 → (x7 = 0 ∨ x7 = 1) → (
(((x7 = 0) → (qX12_misleads_L22  X168 Q n v1 v2 v3 (v4 + 1) M7)) ∧
((¬ (x7 = 0)) → (qX12_copies  M7 (fun (M9 : Mem) =>  (
(0 ≤ v4) ∧ (
(v4 < 38) ∧ (
∀ M12 : Mem, M12 = up2 M9 6 v4 (-1) → (
∃ n30 : Nat, qX12_misleads_L58  (fun (v1 : Int) (v2 : Int) (v3 : Int) (v4 : Int) (M : Mem) => qX12_rightThen  M (fun (x31 : Int) (M31 : Mem) => iR x31 → (
iR v4 ∧ (
qX12_owners v4 M31 (fun (x33 : Int) (M33 : Mem) => iR x33 → (
∀ x34 : Int, x34 = xI x33 (-1) → iR x34 → (
∀ x35 : Int, x35 = aI x31 x34 → iR x35 → (
qJ6_bitCount_0f7a4 x35 M33 (fun (x36 : Int) (M36 : Mem) => iR x36 → (
iR v3 ∧ (
(((x36 ≤ v3) → (qX12_misleads_J154  (qX12_misleads_L22  X168 Q n) X168 Q v1 v3 v4 x36 v2 M36)) ∧
((¬ (x36 ≤ v3)) → (qX12_misleads_J154  (qX12_misleads_L22  X168 Q n) X168 Q v1 v3 v4 x36 v4 M36)))))))))))))) Q n30 v1 v2 v3 v4 0 M12)))))))))))))))
def qX12_misleads  (M : Mem) (Q : Int → Mem → Prop) : Prop := ∀ M1 : Mem, M1 = up2 M 1 0 0 → (
qX12_copies  M1 (fun (M2 : Mem) =>  (
qX12_rightThen  M2 (fun (x3 : Int) (M3 : Mem) => iR x3 → (
∃ n42 : Nat, qX12_misleads_L22  (fun (v1 : Int) (v2 : Int) (v3 : Int) (M : Mem) => iR v2 ∧ (
(((v2 < 0) → (Q v2 M)) ∧
((¬ (v2 < 0)) → (∀ M45 : Mem, M45 = up2 M 1 1 0 → (
iR v3 ∧ (
qX12_enters v3 M45 (fun (M47 : Mem) =>  (
qX12_owners v2 M47 (fun (x48 : Int) (M48 : Mem) => iR x48 → (
∀ x49 : Int, x49 = xI x48 (-1) → iR x49 → (
∀ x50 : Int, x50 = aI v1 x49 → iR x50 → (
qJ6_bitCount_0f7a4 x50 M48 (fun (x51 : Int) (M51 : Mem) => iR x51 → (
qX12_enters x51 M51 (fun (M52 : Mem) =>  (
Q v2 M52))))))))))))))))) Q n42 x3 (-2) (-1) 0 M3)))))
def qX12_crowd_L34  (X85 : Int → Mem → Prop) (Q : Int → Mem → Prop) : Nat → Int → Int → Mem → Prop
  | 0, _, _, _ => False
  | n + 1, v1, v2, M => ∀ x6 : Int, x6 = M 1 4 → iR x6 → (
iR v2 ∧ (
(((x6 ≤ v2) → (X85 v1 M)) ∧
((¬ (x6 ≤ v2)) → (qX12_bitsBy 6 29 v2 M (fun (x9 : Int) (M9 : Mem) => iR x9 → (
qJ6_bitCount_0f7a4 x9 M9 (fun (x10 : Int) (M10 : Mem) => iR x10 → (
iR v1 ∧ (
qX12_bitsBy 6 29 v1 M10 (fun (x12 : Int) (M12 : Mem) => iR x12 → (
qJ6_bitCount_0f7a4 x12 M12 (fun (x13 : Int) (M13 : Mem) => iR x13 → (
(((x10 ≤ x13) → (qX12_crowd_L34  X85 Q n v1 (v2 + 1) M13)) ∧
((¬ (x10 ≤ x13)) → (qX12_crowd_L34  X85 Q n v2 (v2 + 1) M13)))))))))))))))))
def qX12_crowd  (M : Mem) (Q : Int → Mem → Prop) : Prop := ∀ M1 : Mem, M1 = up2 M 1 0 0 → (
∀ x2 : Int, x2 = M1 1 4 → iR x2 → (
(((¬ x2 = 0) → (qX12_copies  M1 (fun (M4 : Mem) =>  (
qX12_goesOn 6 200 M4 (fun (M5 : Mem) =>  (
∃ n15 : Nat, qX12_crowd_L34  (fun (v1 : Int) (M : Mem) => iR v1 ∧ (
qX12_bitsBy 6 29 v1 M (fun (x17 : Int) (M17 : Mem) => iR x17 → (
∀ M18 : Mem, M18 = up2 M17 1 1 0 → (
qJ6_bitCount_0f7a4 x17 M18 (fun (x19 : Int) (M19 : Mem) => iR x19 → (
qX12_enters x19 M19 (fun (M20 : Mem) =>  (
qX12_owners v1 M20 (fun (x21 : Int) (M21 : Mem) => iR x21 → (
∀ x22 : Int, x22 = aI x17 x21 → iR x22 → (
qJ6_bitCount_0f7a4 x22 M21 (fun (x23 : Int) (M23 : Mem) => iR x23 → (
qX12_enters x23 M23 (fun (M24 : Mem) =>  (
Q v1 M24)))))))))))))))) Q n15 0 1 M5)))))) ∧
((x2 = 0) → (Q (-2) M1)))))
def qX12_sharesFrom_L91 (rc : Int → Int → Int → Int → Mem → (Mem → Prop) → Prop) (p1 : Int) (p2 : Int) (p3 : Int) (p4 : Int)  (Q : Mem → Prop) : Nat → Int → Mem → Prop
  | 0, _, _ => False
  | n + 1, v5, M => ∀ x12 : Int, x12 = M 1 4 → iR x12 → (
iR v5 ∧ (
(((x12 ≤ v5) → (Q M)) ∧
((¬ (x12 ≤ v5)) → (qX12_isEnded 5 p1 M (fun (x15 : Int) (M15 : Mem) => iR x15 → (x15 = 0 ∨ x15 = 1) → (
(((¬ x15 = 0) → (Q M15)) ∧
((x15 = 0) → (qX12_has p2 v5 M15 (fun (x17 : Int) (M17 : Mem) => iR x17 → (x17 = 0 ∨ x17 = 1) → (
(((¬ x17 = 0) → (qX12_sharesFrom_L91 rc p1 p2 p3 p4  Q n (v5 + 1) M17)) ∧
((x17 = 0) → (qX12_isOn 5 v5 M17 (fun (x19 : Int) (M19 : Mem) => iR x19 → (x19 = 0 ∨ x19 = 1) → (
(((x19 = 0) → (qX12_sharesFrom_L91 rc p1 p2 p3 p4  Q n (v5 + 1) M19)) ∧
((¬ (x19 = 0)) → ((0 ≤ v5) ∧ (
(v5 < 38) ∧ (
∀ x23 : Int, x23 = M19 5 v5 → iR x23 → (
(0 ≤ (13 + p1)) ∧ (
((13 + p1) < 38) ∧ (
∀ x26 : Int, x26 = M19 5 (13 + p1) → iR x26 → (
iR (x23 - x26) ∧ (
∀ x28 : Int, (0 ≤ (x23 - x26) → x28 = (x23 - x26)) → ((x23 - x26) < 0 → x28 = -(x23 - x26)) → (
iR x28 ∧ (
(((p4 < x28) → (qX12_sharesFrom_L91 rc p1 p2 p3 p4  Q n (v5 + 1) M19)) ∧
((¬ (p4 < x28)) → ((0 ≤ p1) ∧ (
(p1 < 8) ∧ (
∀ M33 : Mem, M33 = up2 M19 24 p1 v5 → (
∀ x34 : Int, x34 = slI 1 v5 → iR x34 → (
∀ x35 : Int, x35 = oI p2 x34 → iR x35 → (
iR (p1 + 1) ∧ (
iR (p3 + 1) ∧ (
rc  (p1 + 1) x35 (p3 + 1) p4 M33 (fun (M38 : Mem) =>  (
qX12_sharesFrom_L91 rc p1 p2 p3 p4  Q n (v5 + 1) M38)))))))))))))))))))))))))))))))))))))))))
def qX12_sharesFrom_L24 (rc : Int → Int → Int → Int → Mem → (Mem → Prop) → Prop) (p1 : Int) (p2 : Int) (p3 : Int) (p4 : Int)  (Q : Mem → Prop) : Nat → Int → Mem → Prop
  | 0, _, _ => False
  | n + 1, v5, M => ∀ x43 : Int, x43 = M 1 5 → iR x43 → (
iR v5 ∧ (
(((x43 ≤ v5) → (Q M)) ∧
((¬ (x43 ≤ v5)) → ((0 ≤ v5) ∧ (
(v5 < 8) ∧ (
∀ x48 : Int, x48 = M 24 v5 → iR x48 → (
∀ M49 : Mem, M49 = up2 M 25 v5 x48 → (
qX12_sharesFrom_L24 rc p1 p2 p3 p4  Q n (v5 + 1) M49)))))))))
def bX12_sharesFrom (rc : Int → Int → Int → Int → Mem → (Mem → Prop) → Prop) (p1 : Int) (p2 : Int) (p3 : Int) (p4 : Int) (M : Mem) (Q : Mem → Prop) : Prop := ∀ x1 : Int, x1 = M 1 5 → iR x1 → (
(((¬ p1 = x1) → (∀ x3 : Int, x3 = M 1 5 → iR x3 → (
∀ x4 : Int, x4 = M 1 42 → iR x4 → (
iR ((p3 + x3) - p1) ∧ (
(((x4 < ((p3 + x3) - p1)) → ((0 ≤ p1) ∧ (
(p1 < 8) ∧ (
∀ M9 : Mem, M9 = up2 M 24 p1 (-1) → (
iR (p1 + 1) ∧ (
rc  (p1 + 1) p2 p3 p4 M9 (fun (M11 : Mem) =>  (
∃ n39 : Nat, qX12_sharesFrom_L91 rc p1 p2 p3 p4  Q n39 0 M11)))))))) ∧
((¬ (x4 < ((p3 + x3) - p1))) → (Q M)))))))) ∧
((p1 = x1) → (∀ x40 : Int, x40 = M 1 42 → iR x40 → (
(((p3 ≤ x40) → (Q M)) ∧
((¬ (p3 ≤ x40)) → (∀ M42 : Mem, M42 = up2 M 1 42 p3 → (
∃ n50 : Nat, qX12_sharesFrom_L24 rc p1 p2 p3 p4  Q n50 0 M42)))))))))
def qX12_sharesFrom : Nat → Int → Int → Int → Int → Mem → (Mem → Prop) → Prop
  | 0, _, _, _, _, _, _ => False
  | d + 1, p1, p2, p3, p4, M, Q => bX12_sharesFrom (qX12_sharesFrom d) p1 p2 p3 p4 M Q
def qX12_shares_L39 (p1 : Int)  (Q : Int → Mem → Prop) : Nat → Int → Mem → Prop
  | 0, _, _ => False
  | n + 1, v2, M => ∀ x8 : Int, x8 = M 1 5 → iR x8 → (
iR v2 ∧ (
(((x8 ≤ v2) → (∀ x11 : Int, x11 = M 1 42 → iR x11 → (
Q x11 M))) ∧
((¬ (x8 ≤ v2)) → ((0 ≤ v2) ∧ (
(v2 < 8) ∧ (
∀ x14 : Int, x14 = M 25 v2 → iR x14 → (
qX12_enters x14 M (fun (M15 : Mem) =>  (
qX12_shares_L39 p1  Q n (v2 + 1) M15))))))))))
def qX12_shares (p1 : Int) (M : Mem) (Q : Int → Mem → Prop) : Prop := ∀ M1 : Mem, M1 = up2 M 1 0 0 → (
qX12_in p1 0 30 M1 (fun (x2 : Int) (M2 : Mem) => iR x2 → (x2 = 0 ∨ x2 = 1) → (
(((¬ x2 = 0) → (∀ M4 : Mem, M4 = up2 M2 1 42 (-1) → (
∃ d6 : Nat, d6 ≤ 10 ∧ (
qX12_sharesFrom d6 0 0 0 p1 M4 (fun (M5 : Mem) =>  (
∀ M7 : Mem, M7 = up2 M5 1 1 0 → (
∃ n16 : Nat, qX12_shares_L39 p1  Q n16 0 M7))))))) ∧
((x2 = 0) → (Q (-1) M2))))))
def qX12_strangers_L31  (X128 : Int → Int → Int → Int → Mem → Prop) (Q : Int → Mem → Prop) : Nat → Int → Int → Int → Int → Int → Mem → Prop
  | 0, _, _, _, _, _, _ => False
  | n + 1, v1, v2, v3, v4, v5, M => ∀ x5 : Int, x5 = M 1 5 → iR x5 → (
iR v5 ∧ (
(((x5 ≤ v5) → (X128 v1 v2 v3 v4 M)) ∧
((¬ (x5 ≤ v5)) → ((0 ≤ (13 + v4)) ∧ (
((13 + v4) < 38) ∧ (
∀ x10 : Int, x10 = M 5 (13 + v4) → iR x10 → (
(0 ≤ (13 + v5)) ∧ (
((13 + v5) < 38) ∧ (
∀ x13 : Int, x13 = M 5 (13 + v5) → iR x13 → (
iR (x10 - x13) ∧ (
∀ x15 : Int, (0 ≤ (x10 - x13) → x15 = (x10 - x13)) → ((x10 - x13) < 0 → x15 = -(x10 - x13)) → (
(0 ≤ v4) ∧ (
(v4 < 8) ∧ (
∀ x18 : Int, x18 = M 3 v4 → iR x18 → (
(0 ≤ v5) ∧ (
(v5 < 8) ∧ (
∀ x21 : Int, x21 = M 3 v5 → iR x21 → (
(((x18 = x21) → (qX12_strangers_L31  X128 Q n v1 v2 v3 v4 (v5 + 1) M)) ∧
((¬ (x18 = x21)) → (iR v4 ∧ (
qX12_isEnded 5 v4 M (fun (x24 : Int) (M24 : Mem) => iR x24 → (x24 = 0 ∨ x24 = 1) → (
(((¬ x24 = 0) → (qX12_strangers_L31  X128 Q n v1 v2 v3 v4 (v5 + 1) M24)) ∧
((x24 = 0) → (qX12_isEnded 5 v5 M24 (fun (x26 : Int) (M26 : Mem) => iR x26 → (x26 = 0 ∨ x26 = 1) → (
(((¬ x26 = 0) → (qX12_strangers_L31  X128 Q n v1 v2 v3 v4 (v5 + 1) M26)) ∧
((x26 = 0) → (iR x15 ∧ (
iR v1 ∧ (
(((v1 ≤ x15) → (qX12_strangers_L31  X128 Q n v1 v2 v3 v4 (v5 + 1) M26)) ∧
((¬ (v1 ≤ x15)) → (qX12_strangers_L31  X128 Q n x15 v4 v5 v4 (v5 + 1) M26))))))))))))))))))))))))))))))))))))))
def qX12_strangers_L16  (X134 : Int → Int → Int → Mem → Prop) (Q : Int → Mem → Prop) : Nat → Int → Int → Int → Int → Mem → Prop
  | 0, _, _, _, _, _ => False
  | n + 1, v1, v2, v3, v4, M => ∀ x2 : Int, x2 = M 1 5 → iR x2 → (
iR v4 ∧ (
(((x2 ≤ v4) → (X134 v1 v2 v3 M)) ∧
((¬ (x2 ≤ v4)) → (∃ n31 : Nat, qX12_strangers_L31  (fun (v1 : Int) (v2 : Int) (v3 : Int) (v4 : Int) (M : Mem) => qX12_strangers_L16  X134 Q n v1 v2 v3 (v4 + 1) M) Q n31 v1 v2 v3 v4 (v4 + 1) M)))))
def qX12_strangers  (M : Mem) (Q : Int → Mem → Prop) : Prop := ∀ M1 : Mem, M1 = up2 M 1 0 0 → (
∃ n32 : Nat, qX12_strangers_L16  (fun (v1 : Int) (v2 : Int) (v3 : Int) (M : Mem) => iR v2 ∧ (
(((0 ≤ v2) → (∀ M35 : Mem, M35 = up2 M 1 1 0 → (
qX12_enters v2 M35 (fun (M36 : Mem) =>  (
iR v3 ∧ (
qX12_enters v3 M36 (fun (M38 : Mem) =>  (
iR v1 ∧ (
Q v1 M38))))))))) ∧
((¬ (0 ≤ v2)) → (Q (-2) M))))) Q n32 1000000 (-1) (-1) 0 M1)
def qX12_doubts_J115  (R : Int → Int → Int → Int → Int → Mem → Prop) (X127 : Int → Int → Int → Mem → Prop) (Q : Int → Mem → Prop) (v1 : Int) (v2 : Int) (v3 : Int) (v5 : Int) (t0 : Int) (t1 : Int) (M : Mem) : Prop := iR t0 ∧ (
qX12_flag t0 M (fun (x17 : Int) (M17 : Mem) => iR x17 → (
R v1 v2 v3 (t1 + x17) (v5 + 1) M17)))
def qX12_doubts_J114  (R : Int → Int → Int → Int → Int → Mem → Prop) (X127 : Int → Int → Int → Mem → Prop) (Q : Int → Mem → Prop) (v1 : Int) (v2 : Int) (v3 : Int) (v5 : Int) (t0 : Int) (M : Mem) : Prop := qX12_doubts_J115  (R) X127 Q v1 v2 v3 v5 0 t0 M
def qX12_doubts_L41  (X127 : Int → Int → Int → Mem → Prop) (Q : Int → Mem → Prop) : Nat → Int → Int → Int → Int → Int → Mem → Prop
  | 0, _, _, _, _, _, _ => False
  | n + 1, v1, v2, v3, v4, v5, M => ∀ x9 : Int, x9 = M 1 4 → iR x9 → (
iR v5 ∧ (
(((x9 ≤ v5) → (X127 v1 v2 v4 M)) ∧
((¬ (x9 ≤ v5)) → (iR v3 ∧ (
(((v3 < 0) → (X127 v1 v2 v4 M)) ∧
((¬ (v3 < 0)) → (qX12_isOn 5 v5 M (fun (x14 : Int) (M14 : Mem) => iR x14 → (x14 = 0 ∨ x14 = 1) → (
(((x14 = 0) → (qX12_doubts_J114  (qX12_doubts_L41  X127 Q n) X127 Q v1 v2 v3 v5 v4 M14)) ∧
((¬ (x14 = 0)) → ((0 ≤ v5) ∧ (
(v5 < 38) ∧ (
∀ x20 : Int, x20 = M14 5 v5 → iR x20 → (
(0 ≤ (13 + v2)) ∧ (
((13 + v2) < 38) ∧ (
∀ x23 : Int, x23 = M14 5 (13 + v2) → iR x23 → (
iR (x20 - x23) ∧ (
∀ x25 : Int, (0 ≤ (x20 - x23) → x25 = (x20 - x23)) → ((x20 - x23) < 0 → x25 = -(x20 - x23)) → (
(0 ≤ v3) ∧ (
(v3 < 38) ∧ (
∀ x28 : Int, x28 = M14 5 v3 → iR x28 → (
∀ x29 : Int, x29 = M14 5 (13 + v2) → iR x29 → (
iR (x28 - x29) ∧ (
∀ x31 : Int, (0 ≤ (x28 - x29) → x31 = (x28 - x29)) → ((x28 - x29) < 0 → x31 = -(x28 - x29)) → (
iR x25 ∧ (
iR x31 ∧ (
(((¬ x25 = x31) → (qX12_doubts_J114  (qX12_doubts_L41  X127 Q n) X127 Q v1 v2 v3 v5 v4 M14)) ∧
((x25 = x31) → (qX12_doubts_J115  (qX12_doubts_L41  X127 Q n) X127 Q v1 v2 v3 v5 1 v4 M14)))))))))))))))))))))))))))))))))
def qX12_doubts_J127  (R : Int → Int → Mem → Prop) (X160 : Int → Mem → Prop) (Q : Int → Mem → Prop) (v1 : Int) (v2 : Int) (v4 : Int) (M : Mem) : Prop := iR v4 ∧ (
(((v4 ≤ 1) → (∀ x38 : Int, x38 = oI v1 0 → iR x38 → (
R x38 (v2 + 1) M))) ∧
((¬ (v4 ≤ 1)) → (iR v2 ∧ (
qX12_isEnded 5 v2 M (fun (x40 : Int) (M40 : Mem) => iR x40 → (x40 = 0 ∨ x40 = 1) → (
(((¬ x40 = 0) → (∀ x42 : Int, x42 = oI v1 0 → iR x42 → (
R x42 (v2 + 1) M40))) ∧
((x40 = 0) → (∀ x43 : Int, x43 = slI 1 v2 → iR x43 → (
∀ x44 : Int, x44 = oI v1 x43 → iR x44 → (
R x44 (v2 + 1) M40))))))))))))
def qX12_doubts_L9  (X160 : Int → Mem → Prop) (Q : Int → Mem → Prop) : Nat → Int → Int → Mem → Prop
  | 0, _, _, _ => False
  | n + 1, v1, v2, M => ∀ x2 : Int, x2 = M 1 5 → iR x2 → (
iR v2 ∧ (
(((x2 ≤ v2) → (X160 v1 M)) ∧
((¬ (x2 ≤ v2)) → ((0 ≤ (13 + v2)) ∧ (
((13 + v2) < 38) ∧ (
∀ x7 : Int, x7 = M 5 (13 + v2) → iR x7 → (
qX12_nearest 5 x7 M (fun (x8 : Int) (M8 : Mem) => iR x8 → (
∃ n35 : Nat, qX12_doubts_L41  (fun (v1 : Int) (v2 : Int) (v4 : Int) (M : Mem) => qX12_doubts_J127  (qX12_doubts_L9  X160 Q n) X160 Q v1 v2 v4 M) Q n35 v1 v2 x8 0 0 M8))))))))))
def qX12_doubts  (M : Mem) (Q : Int → Mem → Prop) : Prop := ∀ M1 : Mem, M1 = up2 M 1 0 0 → (
∃ n45 : Nat, qX12_doubts_L9  (fun (v1 : Int) (M : Mem) => ∀ M46 : Mem, M46 = up2 M 1 1 0 → (
iR v1 ∧ (
qJ6_bitCount_0f7a4 v1 M46 (fun (x48 : Int) (M48 : Mem) => iR x48 → (
qX12_enters x48 M48 (fun (M49 : Mem) =>  (
Q v1 M49))))))) Q n45 0 0 M1)
def qX12_heard_J51 (p1 : Int) (p2 : Int) (Q : Int → Mem → Prop) (v3 : Int) (t0 : Int) (t1 : Int) (M : Mem) : Prop := iR t0 ∧ (
qX12_flag t0 M (fun (x8 : Int) (M8 : Mem) => iR x8 → (
iR v3 ∧ (
lR t1 ∧ (
qX12_in t1 x8 v3 M8 (fun (x11 : Int) (M11 : Mem) => iR x11 → (x11 = 0 ∨ x11 = 1) → (
(((x11 = 0) → (Q (-1) M11)) ∧
((¬ (x11 = 0)) → (∀ x13 : Int, x13 = M11 1 45 → iR x13 → (
(((¬ x13 = 8) → (∀ x15 : Int, x15 = M11 1 45 → iR x15 → (
(0 ≤ x15) ∧ (
(x15 < 8) ∧ (
∀ M18 : Mem, M18 = up2 M11 26 x15 p1 → (
∀ x19 : Int, x19 = M18 1 45 → iR x19 → (
(0 ≤ x19) ∧ (
(x19 < 8) ∧ (
∀ M22 : Mem, M22 = up2 M18 27 x19 p2 → (
∀ x23 : Int, x23 = M22 1 45 → iR x23 → (
iR (x23 + 1) ∧ (
∀ M25 : Mem, M25 = up2 M22 1 45 (x23 + 1) → (
∀ x26 : Int, x26 = M25 1 45 → iR x26 → (
Q x26 M25)))))))))))))) ∧
((x13 = 8) → (Q (-1) M11))))))))))))))
def qX12_heard_J26 (p1 : Int) (p2 : Int) (Q : Int → Mem → Prop) (t0 : Int) (M : Mem) : Prop := qX12_in p1 0 3 M (fun (x4 : Int) (M4 : Mem) => iR x4 → (x4 = 0 ∨ x4 = 1) → (
(((x4 = 0) → (Q (-1) M4)) ∧
((¬ (x4 = 0)) → ((((¬ p1 = 1) → (qX12_heard_J51 p1 p2 Q t0 0 p2 M4)) ∧
((p1 = 1) → (qX12_heard_J51 p1 p2 Q t0 1 p2 M4))))))))
def qX12_heard (p1 : Int) (p2 : Int) (M : Mem) (Q : Int → Mem → Prop) : Prop := ∀ M1 : Mem, M1 = up2 M 1 0 0 → (
(((¬ p1 = 1) → ((((¬ p1 = 3) → (qX12_heard_J26 p1 p2 Q 8 M1)) ∧
((p1 = 3) → (qX12_heard_J26 p1 p2 Q 1 M1))))) ∧
((p1 = 1) → (qX12_heard_J26 p1 p2 Q 6 M1))))
def qX12_forget  (M : Mem) (Q : Int → Mem → Prop) : Prop := ∀ M1 : Mem, M1 = up2 M 1 0 0 → (
∀ x2 : Int, x2 = M1 1 45 → iR x2 → (
∀ M3 : Mem, M3 = up2 M1 1 45 0 → (
Q x2 M3)))
def qX12_isSo (p1 : Int) (p2 : Int) (p3 : Int) (M : Mem) (Q : Int → Mem → Prop) : Prop := ((p2 = 0 → (qX12_owners p1 M (fun (x2 : Int) (M2 : Mem) => iR x2 → (
qJ6_bitCount_0f7a4 x2 M2 (fun (x3 : Int) (M3 : Mem) => iR x3 → (
(((x3 < p3) → (Q 0 M3)) ∧
((¬ (x3 < p3)) → (Q 1 M3))))))))) ∧
(p2 = 1 → (qX12_isOn 6 p1 M (fun (x5 : Int) (M5 : Mem) => iR x5 → (x5 = 0 ∨ x5 = 1) → (
(((¬ x5 = 0) → (Q 0 M5)) ∧
((x5 = 0) → ((0 ≤ (6 + p1)) ∧ (
((6 + p1) < 38) ∧ (
∀ x9 : Int, x9 = M5 6 (6 + p1) → iR x9 → (
(((¬ x9 = p3) → (Q 0 M5)) ∧
((x9 = p3) → (Q 1 M5))))))))))))) ∧
(p2 = 2 → (qX12_bitsBy 6 29 p1 M (fun (x11 : Int) (M11 : Mem) => iR x11 → (
qJ6_bitCount_0f7a4 x11 M11 (fun (x12 : Int) (M12 : Mem) => iR x12 → (
(((x12 < p3) → (Q 0 M12)) ∧
((¬ (x12 < p3)) → (Q 1 M12))))))))) ∧
((p2 < 0 ∨ 2 < p2) → (∀ x14 : Int, x14 = rmI p1 2 → iR x14 → (
(((¬ x14 = p3) → (Q 0 M)) ∧
((x14 = p3) → (Q 1 M)))))))
def qX12_fits_L37  (X84 : Int → Int → Int → Mem → Prop) (Q : Int → Mem → Prop) : Nat → Int → Int → Int → Int → Mem → Prop
  | 0, _, _, _, _, _ => False
  | n + 1, v1, v2, v3, v4, M => ∀ x7 : Int, x7 = M 1 45 → iR x7 → (
iR v4 ∧ (
(((x7 ≤ v4) → (X84 v1 v2 v3 M)) ∧
((¬ (x7 ≤ v4)) → (iR v3 ∧ (
(((v3 = 0) → (qX12_fits_L37  X84 Q n v1 v2 0 (v4 + 1) M)) ∧
((¬ (v3 = 0)) → ((0 ≤ v4) ∧ (
(v4 < 8) ∧ (
∀ x14 : Int, x14 = M 26 v4 → iR x14 → (
∀ x15 : Int, x15 = M 27 v4 → iR x15 → (
iR v2 ∧ (
qX12_isSo v2 x14 x15 M (fun (x17 : Int) (M17 : Mem) => iR x17 → (x17 = 0 ∨ x17 = 1) → (
(((x17 = 0) → (qX12_fits_L37  X84 Q n v1 v2 0 (v4 + 1) M17)) ∧
((¬ (x17 = 0)) → (qX12_fits_L37  X84 Q n v1 v2 1 (v4 + 1) M17)))))))))))))))))))
def qX12_fits_L24  (X104 : Int → Mem → Prop) (Q : Int → Mem → Prop) : Nat → Int → Int → Mem → Prop
  | 0, _, _, _ => False
  | n + 1, v1, v2, M => ∀ x4 : Int, x4 = M 1 4 → iR x4 → (
iR v2 ∧ (
(((x4 ≤ v2) → (X104 v1 M)) ∧
((¬ (x4 ≤ v2)) → (∃ n19 : Nat, qX12_fits_L37  (fun (v1 : Int) (v2 : Int) (v3 : Int) (M : Mem) => iR v3 ∧ (
(((v3 = 0) → (∀ x22 : Int, x22 = oI v1 0 → iR x22 → (
qX12_fits_L24  X104 Q n x22 (v2 + 1) M))) ∧
((¬ (v3 = 0)) → (∀ x23 : Int, x23 = slI 1 v2 → iR x23 → (
∀ x24 : Int, x24 = oI v1 x23 → iR x24 → (
qX12_fits_L24  X104 Q n x24 (v2 + 1) M))))))) Q n19 v1 v2 1 0 M)))))
def qX12_fits  (M : Mem) (Q : Int → Mem → Prop) : Prop := ∀ M1 : Mem, M1 = up2 M 1 0 0 → (
qX12_copies  M1 (fun (M2 : Mem) =>  (
qX12_goesOn 6 200 M2 (fun (M3 : Mem) =>  (
∃ n25 : Nat, qX12_fits_L24  (fun (v1 : Int) (M : Mem) => ∀ M26 : Mem, M26 = up2 M 1 1 0 → (
iR v1 ∧ (
qJ6_bitCount_0f7a4 v1 M26 (fun (x28 : Int) (M28 : Mem) => iR x28 → (
qX12_enters x28 M28 (fun (M29 : Mem) =>  (
Q v1 M29))))))) Q n25 0 0 M3)))))
def bX12_common (rc : Int → Int → Mem → (Int → Mem → Prop) → Prop) (p0 : Int) (p2 : Int) (M : Mem) (Q : Int → Mem → Prop) : Prop := ∀ x1 : Int, iR x1 → ((x1 = -1 ∧ p2 < 0) ∨ (x1 = 0 ∧ p2 = 0) ∨ (x1 = 1 ∧ 0 < p2)) → (
(((¬ x1 = 0) → ((¬ p2 = 0) ∧ (
∀ x4 : Int, x4 = rmL p0 p2 → lR x4 → (
rc  p2 x4 M (fun (x5 : Int) (M5 : Mem) => lR x5 → (
Q x5 M5)))))) ∧
((x1 = 0) → (Q p0 M))))
def qX12_common : Nat → Int → Int → Mem → (Int → Mem → Prop) → Prop
  | 0, _, _, _, _ => False
  | d + 1, p0, p2, M, Q => bX12_common (qX12_common d) p0 p2 M Q
def qX12_rains_L52 (p1 : Int) (p2 : Int) (p3 : Int) (X72 : Int → Int → Mem → Prop) (Q : Int → Mem → Prop) : Nat → Int → Int → Int → Mem → Prop
  | 0, _, _, _, _ => False
  | n + 1, v4, v6, v8, M => iR v8 ∧ (
(((p1 ≤ v8) → (X72 v4 v6 M)) ∧
((¬ (p1 ≤ v8)) → (∀ x10 : Int, x10 = w64 (v6 * 10) → lR x10 → (
qX12_rains_L52 p1 p2 p3 X72 Q n v4 x10 (v8 + 1) M)))))
def qX12_rains_L89 (p1 : Int) (p2 : Int) (p3 : Int) (X126 : Int → Int → Int → Int → Mem → Prop) (Q : Int → Mem → Prop) : Nat → Int → Int → Int → Int → Int → Mem → Prop
  | 0, _, _, _, _, _, _ => False
  | n + 1, v4, v6, v8, v9, v11, M => iR v11 ∧ (
(((p1 ≤ v11) → (X126 v4 v6 v8 v9 M)) ∧
((¬ (p1 ≤ v11)) → (iR v8 ∧ (
qX12_has v8 v11 M (fun (x18 : Int) (M18 : Mem) => iR x18 → (x18 = 0 ∨ x18 = 1) → (
(((x18 = 0) → (∀ x20 : Int, x20 = w32 (10 - p3) → iR x20 → (
∀ x21 : Int, x21 = w64 (v9 * x20) → lR x21 → (
qX12_rains_L89 p1 p2 p3 X126 Q n v4 v6 v8 x21 (v11 + 1) M18)))) ∧
((¬ (x18 = 0)) → (∀ x22 : Int, x22 = w64 (v9 * p3) → lR x22 → (
qX12_rains_L89 p1 p2 p3 X126 Q n v4 v6 v8 x22 (v11 + 1) M18)))))))))))
def qX12_rains_L75 (p1 : Int) (p2 : Int) (p3 : Int) (X161 : Int → Int → Mem → Prop) (Q : Int → Mem → Prop) : Nat → Int → Int → Int → Mem → Prop
  | 0, _, _, _, _ => False
  | n + 1, v4, v6, v8, M => ∀ x12 : Int, x12 = slI 1 p1 → iR x12 → (
iR v8 ∧ (
(((x12 ≤ v8) → (X161 v4 v6 M)) ∧
((¬ (x12 ≤ v8)) → (∃ n23 : Nat, qX12_rains_L89 p1 p2 p3 (fun (v4 : Int) (v6 : Int) (v8 : Int) (v9 : Int) (M : Mem) => iR v8 ∧ (
qX12_has v8 0 M (fun (x25 : Int) (M25 : Mem) => iR x25 → (x25 = 0 ∨ x25 = 1) → (
(((x25 = 0) → (∀ x27 : Int, x27 = w64 (v4 + 0) → lR x27 → (
qX12_rains_L75 p1 p2 p3 X161 Q n x27 v6 (v8 + 1) M25))) ∧
((¬ (x25 = 0)) → (qJ6_bitCount_0f7a4 v8 M25 (fun (x28 : Int) (M28 : Mem) => iR x28 → (
(((x28 < p2) → (∀ x30 : Int, x30 = w64 (v4 + 0) → lR x30 → (
qX12_rains_L75 p1 p2 p3 X161 Q n x30 v6 (v8 + 1) M28))) ∧
((¬ (x28 < p2)) → (∀ x31 : Int, x31 = w64 (v4 + v9) → lR x31 → (
qX12_rains_L75 p1 p2 p3 X161 Q n x31 v6 (v8 + 1) M28))))))))))))) Q n23 v4 v6 v8 1 0 M)))))
def qX12_rains (p1 : Int) (p2 : Int) (p3 : Int) (M : Mem) (Q : Int → Mem → Prop) : Prop := ∀ M1 : Mem, M1 = up2 M 1 0 0 → (
qX12_in p1 1 12 M1 (fun (x2 : Int) (M2 : Mem) => iR x2 → (x2 = 0 ∨ x2 = 1) → (
(((x2 = 0) → (Q (-1) M2)) ∧
((¬ (x2 = 0)) → (qX12_in p2 0 12 M2 (fun (x4 : Int) (M4 : Mem) => iR x4 → (x4 = 0 ∨ x4 = 1) → (
(((x4 = 0) → (Q (-1) M4)) ∧
((¬ (x4 = 0)) → (qX12_in p3 0 10 M4 (fun (x6 : Int) (M6 : Mem) => iR x6 → (x6 = 0 ∨ x6 = 1) → (
(((¬ x6 = 0) → (∃ n11 : Nat, qX12_rains_L52 p1 p2 p3 (fun (v4 : Int) (v6 : Int) (M : Mem) => ∃ n32 : Nat, qX12_rains_L75 p1 p2 p3 (fun (v4 : Int) (v6 : Int) (M : Mem) => lR v4 ∧ (
lR v6 ∧ (
∃ d36 : Nat, d36 ≤ 110 ∧ (
qX12_common d36 v4 v6 M (fun (x35 : Int) (M35 : Mem) => lR x35 → (
∀ M37 : Mem, M37 = up2 M35 1 1 0 → (
(¬ x35 = 0) ∧ (
∀ x39 : Int, x39 = dvL v4 x35 → lR x39 → (
qX12_enters x39 M37 (fun (M40 : Mem) =>  (
(¬ x35 = 0) ∧ (
∀ x42 : Int, x42 = dvL v6 x35 → lR x42 → (
qX12_enters x42 M40 (fun (M43 : Mem) =>  (
Q 0 M43))))))))))))))) Q n32 v4 v6 0 M) Q n11 0 1 0 M6)) ∧
((x6 = 0) → (Q (-1) M6))))))))))))))))
def qX12_law_L42  (X71 : Int → Int → Mem → Prop) (Q : Int → Mem → Prop) : Nat → Int → Int → Int → Mem → Prop
  | 0, _, _, _, _ => False
  | n + 1, v2, v3, v4, M => ∀ x8 : Int, x8 = M 1 24 → iR x8 → (
iR v4 ∧ (
(((x8 ≤ v4) → (X71 v2 v3 M)) ∧
((¬ (x8 ≤ v4)) → ((0 ≤ v4) ∧ (
(v4 < 80) ∧ (
∀ x13 : Int, x13 = M 11 v4 → iR x13 → (
∀ M14 : Mem, M14 = up2 M 28 v4 x13 → (
qX12_law_L42  X71 Q n v2 v3 (v4 + 1) M14)))))))))
def qX12_law  (M : Mem) (Q : Int → Mem → Prop) : Prop := ∀ M1 : Mem, M1 = up2 M 1 0 0 → (
qX12_readsRule  M1 (fun (x2 : Int) (M2 : Mem) => iR x2 → (
(((0 ≤ x2) → (qX12_copies  M2 (fun (M4 : Mem) =>  (
qX12_rightThen  M4 (fun (x5 : Int) (M5 : Mem) => iR x5 → (
qJ6_bitCount_0f7a4 x5 M5 (fun (x6 : Int) (M6 : Mem) => iR x6 → (
∀ x7 : Int, x7 = M6 1 24 → iR x7 → (
∃ n15 : Nat, qX12_law_L42  (fun (v2 : Int) (v3 : Int) (M : Mem) => ∀ x16 : Int, x16 = M 1 25 → iR x16 → (
qX12_laysCode 12 x16 M (fun (M17 : Mem) =>  (
qX12_copies  M17 (fun (M18 : Mem) =>  (
qX12_rightThen  M18 (fun (x19 : Int) (M19 : Mem) => iR x19 → (
qJ6_bitCount_0f7a4 x19 M19 (fun (x20 : Int) (M20 : Mem) => iR x20 → (
iR v3 ∧ (
qX12_laysCode 28 v3 M20 (fun (M22 : Mem) =>  (
∀ M23 : Mem, M23 = up2 M22 1 1 0 → (
qX12_enters x20 M23 (fun (M24 : Mem) =>  (
iR v2 ∧ (
qX12_enters v2 M24 (fun (M26 : Mem) =>  (
iR (x20 - v2) ∧ (
Q (x20 - v2) M26)))))))))))))))))))) Q n15 x6 x7 0 M6))))))))) ∧
((¬ (0 ≤ x2)) → (iR ((x2 + 1) - 10000) ∧ (
Q ((x2 + 1) - 10000) M2)))))))
def qX12_gets_J36 (p0 : Int) (p1 : Int) (p2 : Int) (Q : Int → Mem → Prop) (t0 : Int) (t1 : Int) (t2 : Int) (M : Mem) : Prop := iR t0 ∧ (
qX12_flag t0 M (fun (x6 : Int) (M6 : Mem) => iR x6 → (
iR (t2 - (t1 * x6)) ∧ (
Q (t2 - (t1 * x6)) M6))))
def qX12_gets_J21 (p0 : Int) (p1 : Int) (p2 : Int) (Q : Int → Mem → Prop) (t0 : Int) (M : Mem) : Prop := iR (2 * p1) ∧ (
(((p0 ≤ (2 * p1)) → (qX12_gets_J36 p0 p1 p2 Q 0 3 (t0 - p0) M)) ∧
((¬ (p0 ≤ (2 * p1))) → (qX12_gets_J36 p0 p1 p2 Q 1 3 (t0 - p0) M))))
def qX12_gets (p0 : Int) (p1 : Int) (p2 : Int) (M : Mem) (Q : Int → Mem → Prop) : Prop := (((p0 ≤ p1) → ((((¬ p0 = p1) → (qX12_gets_J21 p0 p1 p2 Q 0 M)) ∧
((p0 = p1) → (∀ x8 : Int, x8 = dvI p2 2 → iR x8 → (
qX12_gets_J21 p0 p1 p2 Q x8 M)))))) ∧
((¬ (p0 ≤ p1)) → (qX12_gets_J21 p0 p1 p2 Q p2 M)))
def qX12_isRest_L5 (p0 : Int) (p1 : Int) (p2 : Int)  (Q : Int → Mem → Prop) : Nat → Int → Int → Mem → Prop
  | 0, _, _, _ => False
  | n + 1, v3, v4, M => iR v4 ∧ (
(((9 < v4) → (iR v3 ∧ (
(v3 = 0 ∨ v3 = 1) ∧ (
Q v3 M)))) ∧
((¬ (9 < v4)) → (iR v3 ∧ (
(((v3 = 0) → (qX12_isRest_L5 p0 p1 p2  Q n 0 (v4 + 1) M)) ∧
((¬ (v3 = 0)) → (qX12_gets v4 p1 p2 M (fun (x7 : Int) (M7 : Mem) => iR x7 → (
qX12_gets p0 p1 p2 M7 (fun (x8 : Int) (M8 : Mem) => iR x8 → (
(((x8 < x7) → (qX12_isRest_L5 p0 p1 p2  Q n 0 (v4 + 1) M8)) ∧
((¬ (x8 < x7)) → (qX12_isRest_L5 p0 p1 p2  Q n 1 (v4 + 1) M8)))))))))))))))
def qX12_isRest (p0 : Int) (p1 : Int) (p2 : Int) (M : Mem) (Q : Int → Mem → Prop) : Prop := ∃ n10 : Nat, qX12_isRest_L5 p0 p1 p2  Q n10 1 0 M
def qX12_rests_L37 (p1 : Int) (X90 : Int → Int → Mem → Prop) (Q : Int → Mem → Prop) : Nat → Int → Int → Int → Mem → Prop
  | 0, _, _, _, _ => False
  | n + 1, v2, v3, v4, M => iR v4 ∧ (
(((9 < v4) → (X90 v2 v3 M)) ∧
((¬ (9 < v4)) → (iR v3 ∧ (
qX12_isRest v3 v4 p1 M (fun (x11 : Int) (M11 : Mem) => iR x11 → (x11 = 0 ∨ x11 = 1) → (
(((x11 = 0) → (qX12_rests_L37 p1 X90 Q n v2 v3 (v4 + 1) M11)) ∧
((¬ (x11 = 0)) → (qX12_isRest v4 v3 p1 M11 (fun (x13 : Int) (M13 : Mem) => iR x13 → (x13 = 0 ∨ x13 = 1) → (
(((x13 = 0) → (qX12_rests_L37 p1 X90 Q n v2 v3 (v4 + 1) M13)) ∧
((¬ (x13 = 0)) → (iR v2 ∧ (
(((¬ v2 = 0) → (qX12_rests_L37 p1 X90 Q n (v2 + 1) v3 (v4 + 1) M13)) ∧
((v2 = 0) → (qX12_enters v3 M13 (fun (M17 : Mem) =>  (
qX12_enters v4 M17 (fun (M18 : Mem) =>  (
qX12_rests_L37 p1 X90 Q n (v2 + 1) v3 (v4 + 1) M18)))))))))))))))))))))))
def qX12_rests_L28 (p1 : Int)  (Q : Int → Mem → Prop) : Nat → Int → Int → Mem → Prop
  | 0, _, _, _ => False
  | n + 1, v2, v3, M => iR v3 ∧ (
(((9 < v3) → (iR v2 ∧ (
Q v2 M))) ∧
((¬ (9 < v3)) → (∃ n19 : Nat, qX12_rests_L37 p1 (fun (v2 : Int) (v3 : Int) (M : Mem) => qX12_rests_L28 p1  Q n v2 (v3 + 1) M) Q n19 v2 v3 0 M))))
def qX12_rests (p1 : Int) (M : Mem) (Q : Int → Mem → Prop) : Prop := ∀ M1 : Mem, M1 = up2 M 1 0 0 → (
qX12_in p1 0 20 M1 (fun (x2 : Int) (M2 : Mem) => iR x2 → (x2 = 0 ∨ x2 = 1) → (
(((¬ x2 = 0) → (∀ M4 : Mem, M4 = up2 M2 1 1 0 → (
∃ n20 : Nat, qX12_rests_L28 p1  Q n20 0 0 M4))) ∧
((x2 = 0) → (Q (-1) M2))))))
def qX12_draws (p1 : Int) (M : Mem) (Q : Int → Mem → Prop) : Prop := ∀ x1 : Int, x1 = M 1 49 → iR x1 → (
∀ x2 : Int, x2 = w32 (x1 * 1103515245) → iR x2 → (
∀ x3 : Int, x3 = w32 (x2 + 12345) → iR x3 → (
∀ M4 : Mem, M4 = up2 M 1 49 x3 → (
∀ x5 : Int, x5 = M4 1 49 → iR x5 → (
∀ x6 : Int, x6 = usI x5 16 → iR x6 → (
(¬ p1 = 0) ∧ (
∀ x8 : Int, x8 = rmI x6 p1 → iR x8 → (
Q x8 M4))))))))
def qX12_years_L30 (p1 : Int) (p2 : Int) (X120 : Mem → Prop) (Q : Int → Mem → Prop) : Nat → Int → Mem → Prop
  | 0, _, _ => False
  | n + 1, v3, M => iR v3 ∧ (
(((p2 ≤ v3) → (X120  M)) ∧
((¬ (p2 ≤ v3)) → (qX12_draws 4 M (fun (x8 : Int) (M8 : Mem) => iR x8 → (
(((2 ≤ x8) → (∀ x10 : Int, x10 = M8 1 5 → iR x10 → (
(((x10 ≤ 0) → (qX12_years_L30 p1 p2 X120 Q n (v3 + 1) M8)) ∧
((¬ (x10 ≤ 0)) → (∀ x12 : Int, x12 = M8 1 5 → iR x12 → (
qX12_draws x12 M8 (fun (x13 : Int) (M13 : Mem) => iR x13 → (
(((¬ x8 = 2) → (qX12_draws 5 M13 (fun (x15 : Int) (M15 : Mem) => iR x15 → (
iR (x15 - 2) ∧ (
qX12_pushesOne 6 x13 (x15 - 2) M15 (fun (x17 : Int) (M17 : Mem) => iR x17 → (
qX12_years_L30 p1 p2 X120 Q n (v3 + 1) M17))))))) ∧
((x8 = 2) → (qX12_turnsOne 6 x13 M13 (fun (x18 : Int) (M18 : Mem) => iR x18 → (
qX12_years_L30 p1 p2 X120 Q n (v3 + 1) M18)))))))))))))) ∧
((¬ (2 ≤ x8)) → (qX12_stepGoes 6 M8 (fun (M19 : Mem) =>  (
qX12_years_L30 p1 p2 X120 Q n (v3 + 1) M19)))))))))))
def qX12_years (p1 : Int) (p2 : Int) (M : Mem) (Q : Int → Mem → Prop) : Prop := ∀ M1 : Mem, M1 = up2 M 1 0 0 → (
qX12_in p2 1 60 M1 (fun (x2 : Int) (M2 : Mem) => iR x2 → (x2 = 0 ∨ x2 = 1) → (
(((¬ x2 = 0) → (∀ M4 : Mem, M4 = up2 M2 1 49 p1 → (
qX12_copies  M4 (fun (M5 : Mem) =>  (
∃ n20 : Nat, qX12_years_L30 p1 p2 (fun  (M : Mem) => qX12_endedBy 6 1 M (fun (x21 : Int) (M21 : Mem) => iR x21 → (
qX12_endedBy 6 0 M21 (fun (x22 : Int) (M22 : Mem) => iR x22 → (
∀ x23 : Int, x23 = oI x21 x22 → iR x23 → (
∀ M24 : Mem, M24 = up2 M22 1 1 0 → (
qJ6_bitCount_0f7a4 x23 M24 (fun (x25 : Int) (M25 : Mem) => iR x25 → (
qX12_enters x25 M25 (fun (M26 : Mem) =>  (
qX12_endedBy 6 1 M26 (fun (x27 : Int) (M27 : Mem) => iR x27 → (
qJ6_bitCount_0f7a4 x27 M27 (fun (x28 : Int) (M28 : Mem) => iR x28 → (
qX12_enters x28 M28 (fun (M29 : Mem) =>  (
∀ x30 : Int, x30 = M29 6 12 → iR x30 → (
Q x30 M29)))))))))))))))))) Q n20 0 M5))))) ∧
((x2 = 0) → (Q (-1) M2))))))
def qX12_keep_L38 (p1 : Int)  (Q : Int → Mem → Prop) : Nat → Int → Mem → Prop
  | 0, _, _ => False
  | n + 1, v2, M => iR v2 ∧ (
(((38 ≤ v2) → (Q 1 M)) ∧
((¬ (38 ≤ v2)) → ((0 ≤ v2) ∧ (
(v2 < 38) ∧ (
∀ x13 : Int, x13 = M 5 v2 → iR x13 → (
(0 ≤ ((38 * p1) + v2)) ∧ (
(((38 * p1) + v2) < 114) ∧ (
∀ M16 : Mem, M16 = up2 M 31 ((38 * p1) + v2) x13 → (
qX12_keep_L38 p1  Q n (v2 + 1) M16))))))))))
def qX12_keep (p1 : Int) (M : Mem) (Q : Int → Mem → Prop) : Prop := ∀ M1 : Mem, M1 = up2 M 1 0 0 → (
qX12_in p1 0 2 M1 (fun (x2 : Int) (M2 : Mem) => iR x2 → (x2 = 0 ∨ x2 = 1) → (
(((¬ x2 = 0) → ((0 ≤ p1) ∧ (
(p1 < 3) ∧ (
∀ M6 : Mem, M6 = up2 M2 29 p1 1 → (
∀ x7 : Int, x7 = M6 1 6 → iR x7 → (
∀ M8 : Mem, M8 = up2 M6 30 p1 x7 → (
∃ n17 : Nat, qX12_keep_L38 p1  Q n17 0 M8))))))) ∧
((x2 = 0) → (Q 0 M2))))))
def qX12_again_L43 (p1 : Int)  (Q : Int → Mem → Prop) : Nat → Int → Mem → Prop
  | 0, _, _ => False
  | n + 1, v2, M => iR v2 ∧ (
(((38 ≤ v2) → (∀ M13 : Mem, M13 = up2 M 1 28 0 → (
Q 1 M13))) ∧
((¬ (38 ≤ v2)) → ((0 ≤ ((38 * p1) + v2)) ∧ (
(((38 * p1) + v2) < 114) ∧ (
∀ x16 : Int, x16 = M 31 ((38 * p1) + v2) → iR x16 → (
(0 ≤ v2) ∧ (
(v2 < 38) ∧ (
∀ M19 : Mem, M19 = up2 M 5 v2 x16 → (
qX12_again_L43 p1  Q n (v2 + 1) M19))))))))))
def qX12_again (p1 : Int) (M : Mem) (Q : Int → Mem → Prop) : Prop := ∀ M1 : Mem, M1 = up2 M 1 0 0 → (
qX12_in p1 0 2 M1 (fun (x2 : Int) (M2 : Mem) => iR x2 → (x2 = 0 ∨ x2 = 1) → (
(((x2 = 0) → (Q 0 M2)) ∧
((¬ (x2 = 0)) → ((0 ≤ p1) ∧ (
(p1 < 3) ∧ (
∀ x6 : Int, x6 = M2 29 p1 → iR x6 → (
(((x6 = 0) → (Q 0 M2)) ∧
((¬ (x6 = 0)) → (∀ x8 : Int, x8 = M2 30 p1 → iR x8 → (
∀ x9 : Int, x9 = M2 1 6 → iR x9 → (
(((x8 = x9) → (∃ n20 : Nat, qX12_again_L43 p1  Q n20 0 M2)) ∧
((¬ (x8 = x9)) → (Q 0 M2)))))))))))))))))
def qX12_count_L9 (p1 : Int) (X35 : Int → Mem → Prop) (Q : Int → Mem → Prop) : Nat → Int → Int → Mem → Prop
  | 0, _, _, _ => False
  | n + 1, v2, v3, M => ∀ x2 : Int, x2 = M 1 3 → iR x2 → (
iR v3 ∧ (
(((x2 ≤ v3) → (X35 v2 M)) ∧
((¬ (x2 ≤ v3)) → ((0 ≤ v3) ∧ (
(v3 < 30) ∧ (
∀ x7 : Int, x7 = M 2 v3 → iR x7 → (
qX12_flag x7 M (fun (x8 : Int) (M8 : Mem) => iR x8 → (
qX12_count_L9 p1 X35 Q n (v2 + x8) (v3 + 1) M8))))))))))
def qX12_count (p1 : Int) (M : Mem) (Q : Int → Mem → Prop) : Prop := ∀ M1 : Mem, M1 = up2 M 1 0 0 → (
∃ n9 : Nat, qX12_count_L9 p1 (fun (v2 : Int) (M : Mem) => ((p1 = 0 → (∀ x11 : Int, x11 = M 1 3 → iR x11 → (
Q x11 M))) ∧
(p1 = 1 → (∀ x12 : Int, x12 = M 1 4 → iR x12 → (
Q x12 M))) ∧
(p1 = 2 → (∀ x13 : Int, x13 = M 1 5 → iR x13 → (
Q x13 M))) ∧
(p1 = 3 → (∀ x14 : Int, x14 = M 5 37 → iR x14 → (
Q x14 M))) ∧
(p1 = 4 → (∀ x15 : Int, x15 = M 5 12 → iR x15 → (
Q x15 M))) ∧
(p1 = 5 → (qX12_endedBy 5 1 M (fun (x16 : Int) (M16 : Mem) => iR x16 → (
qX12_endedBy 5 0 M16 (fun (x17 : Int) (M17 : Mem) => iR x17 → (
∀ x18 : Int, x18 = oI x16 x17 → iR x18 → (
qJ6_bitCount_0f7a4 x18 M17 (fun (x19 : Int) (M19 : Mem) => iR x19 → (
Q x19 M19))))))))) ∧
(p1 = 6 → (qX12_endedBy 5 1 M (fun (x20 : Int) (M20 : Mem) => iR x20 → (
qJ6_bitCount_0f7a4 x20 M20 (fun (x21 : Int) (M21 : Mem) => iR x21 → (
Q x21 M21)))))) ∧
(p1 = 7 → (iR v2 ∧ (
Q v2 M))) ∧
(p1 = 8 → (∀ x23 : Int, x23 = M 5 37 → iR x23 → (
qX12_weatherOn x23 M (fun (x24 : Int) (M24 : Mem) => iR x24 → (
Q x24 M24))))) ∧
(p1 = 9 → (∀ x25 : Int, x25 = M 1 45 → iR x25 → (
Q x25 M))) ∧
(p1 = 10 → (∀ x26 : Int, x26 = M 1 28 → iR x26 → (
Q x26 M))) ∧
(p1 = 11 → (∀ x27 : Int, x27 = M 1 1 → iR x27 → (
Q x27 M))) ∧
(p1 = 12 → (∀ x28 : Int, x28 = M 1 14 → iR x28 → (
Q x28 M))) ∧
((p1 < 0 ∨ 12 < p1) → (Q (-100) M)))) Q n9 0 0 M1)
def qX12_row (p1 : Int) (M : Mem) (Q : Int → Mem → Prop) : Prop := ∀ M1 : Mem, M1 = up2 M 1 0 0 → (
∀ x2 : Int, x2 = M1 1 1 → iR x2 → (
iR (x2 - 1) ∧ (
qX12_in p1 0 (x2 - 1) M1 (fun (x4 : Int) (M4 : Mem) => iR x4 → (x4 = 0 ∨ x4 = 1) → (
(((¬ x4 = 0) → ((0 ≤ p1) ∧ (
(p1 < 24) ∧ (
∀ x8 : Int, x8 = M4 0 p1 → lR x8 → (
Q x8 M4))))) ∧
((x4 = 0) → (∀ M9 : Mem, M9 = up2 M4 1 0 1 → (
Q 0 M9)))))))))
end
section
/-! the calls that throw -/
def qX11_hearse (p1 : Int) (p2 : Int) (M : Mem) (Q : Int → Mem → Prop) (E : Mem → Prop) : Prop := qX6_isHearse 1 p1 M (fun (x1 : Int) (M1 : Mem) => iR x1 → (x1 = 0 ∨ x1 = 1) → (
(((¬ x1 = 0) → (((p2 = 0 → ((0 ≤ p1) ∧ (
(p1 < 6) ∧ (
∀ x6 : Int, x6 = M1 2 p1 → iR x6 → (
Q x6 M1))))) ∧
(p2 = 1 → ((0 ≤ p1) ∧ (
(p1 < 6) ∧ (
∀ x9 : Int, x9 = M1 3 p1 → iR x9 → (
Q x9 M1))))) ∧
(p2 = 2 → (qX11_paceNow p1 M1 (fun (x10 : Int) (M10 : Mem) => iR x10 → (
Q x10 M10)))) ∧
(p2 = 3 → (qX6_bitsOf 1 6 p1 M1 (fun (x11 : Int) (M11 : Mem) => iR x11 → (
Q x11 M11)))) ∧
(p2 = 4 → (qX6_bitsOf 1 7 p1 M1 (fun (x12 : Int) (M12 : Mem) => iR x12 → (
Q x12 M12)))) ∧
(p2 = 5 → (qX6_bitsOf 1 5 p1 M1 (fun (x13 : Int) (M13 : Mem) => iR x13 → (
Q x13 M13)))) ∧
((p2 < 0 ∨ 5 < p2) → (E M1))))) ∧
((x1 = 0) → (E M1)))))
def qX11_mourner (p1 : Int) (p2 : Int) (M : Mem) (Q : Int → Mem → Prop) (E : Mem → Prop) : Prop := qX6_isMourner 1 p1 M (fun (x1 : Int) (M1 : Mem) => iR x1 → (x1 = 0 ∨ x1 = 1) → (
(((¬ x1 = 0) → (((p2 = 0 → ((0 ≤ p1) ∧ (
(p1 < 8) ∧ (
∀ x6 : Int, x6 = M1 4 p1 → iR x6 → (
Q x6 M1))))) ∧
(p2 = 1 → ((0 ≤ p1) ∧ (
(p1 < 8) ∧ (
∀ x9 : Int, x9 = M1 5 p1 → iR x9 → (
Q x9 M1))))) ∧
(p2 = 2 → ((0 ≤ p1) ∧ (
(p1 < 8) ∧ (
∀ x12 : Int, x12 = M1 6 p1 → iR x12 → (
Q x12 M1))))) ∧
(p2 = 3 → ((0 ≤ p1) ∧ (
(p1 < 8) ∧ (
∀ x15 : Int, x15 = M1 7 p1 → iR x15 → (
Q x15 M1))))) ∧
(p2 = 4 → ((0 ≤ p1) ∧ (
(p1 < 8) ∧ (
∀ x18 : Int, x18 = M1 4 p1 → iR x18 → (
qX6_nearestTo 1 x18 M1 (fun (x19 : Int) (M19 : Mem) => iR x19 → (
Q x19 M19))))))) ∧
((p2 < 0 ∨ 4 < p2) → (E M1))))) ∧
((x1 = 0) → (E M1)))))
def qX11_row (p1 : Int) (M : Mem) (Q : Int → Mem → Prop) (E : Mem → Prop) : Prop := (((p1 < 0) → (E M)) ∧
((¬ (p1 < 0)) → (∀ x2 : Int, x2 = M 167 1 → iR x2 → (
(((p1 < x2) → ((0 ≤ p1) ∧ (
(p1 < 8) ∧ (
∀ x6 : Int, x6 = M 0 p1 → lR x6 → (
Q x6 M))))) ∧
((¬ (p1 < x2)) → (E M)))))))
end
