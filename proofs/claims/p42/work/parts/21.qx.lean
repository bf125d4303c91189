/-! the class: weakest preconditions, out of the bytecode -/
def qX2_add (k0 : Nat) (p1 : Int) (p2 : Int) (M : Mem) (Q : Mem → Prop) : Prop := ∀ x1 : Int, x1 = M k0 4 → iR x1 → (
(((40 ≤ x1) → (Q M)) ∧
((¬ (40 ≤ x1)) → (∀ x3 : Int, x3 = M k0 4 → iR x3 → (
(0 ≤ x3) ∧ (
(x3 < 40) ∧ (
∀ M6 : Mem, M6 = up2 M (k0 + 1) x3 p1 → (
∀ x7 : Int, x7 = M6 k0 4 → iR x7 → (
(0 ≤ x7) ∧ (
(x7 < 40) ∧ (
∀ M10 : Mem, M10 = up2 M6 (k0 + 2) x7 p2 → (
∀ x11 : Int, x11 = M10 k0 4 → iR x11 → (
iR (x11 + 1) ∧ (
∀ M13 : Mem, M13 = up2 M10 k0 4 (x11 + 1) → (
Q M13)))))))))))))))
def qX2_addLetter (k0 : Nat) (p1 : Int) (M : Mem) (Q : Mem → Prop) : Prop := qX2_add k0 301 p1 M (fun (M1 : Mem) =>  (
∀ x2 : Int, x2 = M1 k0 5 → iR x2 → (
∀ x3 : Int, x3 = slI 1 p1 → iR x3 → (
∀ x4 : Int, x4 = oI x2 x3 → iR x4 → (
∀ M5 : Mem, M5 = up2 M1 k0 5 x4 → (
Q M5))))))
def qX2_clear (k0 : Nat) (M : Mem) (Q : Mem → Prop) : Prop := ∀ M1 : Mem, M1 = up2 M k0 4 0 → (
∀ M2 : Mem, M2 = up2 M1 k0 5 0 → (
Q M2))
def qX2_becomePlain (k0 : Nat) (M : Mem) (Q : Mem → Prop) : Prop := qX2_clear k0 M (fun (M1 : Mem) =>  (
qX2_add k0 300 1 M1 (fun (M2 : Mem) =>  (
qX2_addLetter k0 1 M2 (fun (M3 : Mem) =>  (
qX2_add k0 300 2 M3 (fun (M4 : Mem) =>  (
qX2_add k0 62 0 M4 (fun (M5 : Mem) =>  (
qX2_add k0 43 0 M5 (fun (M6 : Mem) =>  (
Q M6))))))))))))
def qX9_addFour_L16 (p1 : Int)  (Q : Int → Mem → Prop) : Nat → Int → Mem → Prop
  | 0, _, _ => False
  | n + 1, v2, M => iR v2 ∧ (
(((v2 < 0) → (Q 1 M)) ∧
((¬ (v2 < 0)) → (∀ x6 : Int, x6 = M 156 1 → iR x6 → (
∀ x7 : Int, x7 = usI p1 v2 → iR x7 → (
∀ x8 : Int, x8 = aI x7 255 → iR x8 → (
(0 ≤ x6) ∧ (
(x6 < 80) ∧ (
∀ M11 : Mem, M11 = up2 M 157 x6 x8 → (
∀ x12 : Int, x12 = M11 156 1 → iR x12 → (
iR (x12 + 1) ∧ (
∀ M14 : Mem, M14 = up2 M11 156 1 (x12 + 1) → (
qX9_addFour_L16 p1  Q n (v2 + (-8)) M14)))))))))))))
def qX9_addFour (p1 : Int) (M : Mem) (Q : Int → Mem → Prop) : Prop := ∀ x1 : Int, x1 = M 156 1 → iR x1 → (
iR (x1 + 4) ∧ (
((((x1 + 4) ≤ 80) → (∃ n15 : Nat, qX9_addFour_L16 p1  Q n15 24 M)) ∧
((¬ ((x1 + 4) ≤ 80)) → (Q 0 M)))))
def qX11_sign (p1 : Int) (M : Mem) (Q : Int → Mem → Prop) : Prop := qX9_addFour p1 M (fun (x1 : Int) (M1 : Mem) => iR x1 → (x1 = 0 ∨ x1 = 1) → (
(((x1 = 0) → (Q (-1) M1)) ∧
((¬ (x1 = 0)) → (∀ x3 : Int, x3 = M1 156 1 → iR x3 → (
Q x3 M1))))))
def qX9_cutTo (p1 : Int) (M : Mem) (Q : Int → Mem → Prop) : Prop := (((p1 < 0) → (Q 0 M)) ∧
((¬ (p1 < 0)) → (∀ x2 : Int, x2 = M 156 1 → iR x2 → (
(((p1 ≤ x2) → (∀ M4 : Mem, M4 = up2 M 156 1 p1 → (
Q 1 M4))) ∧
((¬ (p1 ≤ x2)) → (Q 0 M)))))))
def qX11_end (p1 : Int) (M : Mem) (Q : Int → Mem → Prop) : Prop := qX9_cutTo p1 M (fun (x1 : Int) (M1 : Mem) => iR x1 → (x1 = 0 ∨ x1 = 1) → (
(x1 = 0 ∨ x1 = 1) ∧ (
Q x1 M1)))
def qX9_signAt (p1 : Int) (M : Mem) (Q : Int → Mem → Prop) : Prop := (((p1 < 0) → (Q (-1) M)) ∧
((¬ (p1 < 0)) → (∀ x2 : Int, x2 = M 156 1 → iR x2 → (
(((x2 ≤ p1) → (Q (-1) M)) ∧
((¬ (x2 ≤ p1)) → ((0 ≤ p1) ∧ (
(p1 < 80) ∧ (
∀ x6 : Int, x6 = M 157 p1 → iR x6 → (
Q x6 M))))))))))
def qX11_avenueFault_L2  (X48 : Mem → Prop) (Q : Int → Mem → Prop) : Nat → Int → Mem → Prop
  | 0, _, _ => False
  | n + 1, v1, M => ∀ x1 : Int, x1 = M 156 1 → iR x1 → (
iR v1 ∧ (
(((x1 ≤ v1) → (X48  M)) ∧
((¬ (x1 ≤ v1)) → (qX9_signAt v1 M (fun (x4 : Int) (M4 : Mem) => iR x4 → (
(((v1 = 30) → (Q v1 M4)) ∧
((¬ (v1 = 30)) → ((((x4 = 46) → (qX11_avenueFault_L2  X48 Q n (v1 + 1) M4)) ∧
((¬ (x4 = 46)) → ((((x4 = 99) → (qX11_avenueFault_L2  X48 Q n (v1 + 1) M4)) ∧
((¬ (x4 = 99)) → (Q v1 M4))))))))))))))))
def qX11_avenueFault  (M : Mem) (Q : Int → Mem → Prop) : Prop := ∃ n8 : Nat, qX11_avenueFault_L2  (fun  (M : Mem) => ∀ x9 : Int, x9 = M 156 1 → iR x9 → (
(((4 ≤ x9) → (Q (-1) M)) ∧
((¬ (4 ≤ x9)) → (∀ x11 : Int, x11 = M 156 1 → iR x11 → (
Q x11 M)))))) Q n8 0 M
def qX11_forgetKept_L2   (Q : Mem → Prop) : Nat → Int → Mem → Prop
  | 0, _, _ => False
  | n + 1, v1, M => iR v1 ∧ (
(((3 ≤ v1) → (Q M)) ∧
((¬ (3 ≤ v1)) → ((0 ≤ v1) ∧ (
(v1 < 3) ∧ (
∀ M5 : Mem, M5 = up2 M 166 v1 0 → (
qX11_forgetKept_L2   Q n (v1 + 1) M5)))))))
def qX11_forgetKept  (M : Mem) (Q : Mem → Prop) : Prop := ∃ n6 : Nat, qX11_forgetKept_L2   Q n6 0 M
def qX1_clear  (M : Mem) (Q : Mem → Prop) : Prop := ∀ M1 : Mem, M1 = up2 M 163 2 0 → (
Q M1)
def qX6_clear (k0 : Nat) (M : Mem) (Q : Mem → Prop) : Prop := ∀ M1 : Mem, M1 = up2 M k0 6 0 → (
∀ M2 : Mem, M2 = up2 M1 k0 7 0 → (
∀ M3 : Mem, M3 = up2 M2 k0 8 0 → (
∀ M4 : Mem, M4 = up2 M3 k0 9 0 → (
∀ M5 : Mem, M5 = up2 M4 k0 10 0 → (
Q M5)))))
def qX8_become_J45  (R : Int → Mem → Prop)  (Q : Mem → Prop) (v2 : Int) (t0 : Int) (t1 : Int) (M : Mem) : Prop := ∀ x10 : Int, x10 = oI t1 t0 → iR x10 → (
∀ M11 : Mem, M11 = up2 M 158 2 x10 → (
R (v2 + 1) M11))
def qX8_become_L15   (Q : Mem → Prop) : Nat → Int → Mem → Prop
  | 0, _, _ => False
  | n + 1, v2, M => ∀ x4 : Int, x4 = M 158 1 → iR x4 → (
iR v2 ∧ (
(((x4 ≤ v2) → (Q M)) ∧
((¬ (x4 ≤ v2)) → (∀ x7 : Int, x7 = M 158 2 → iR x7 → (
qX9_signAt v2 M (fun (x8 : Int) (M8 : Mem) => iR x8 → (
(((¬ x8 = 99) → (qX8_become_J45  (qX8_become_L15   Q n)  Q v2 0 x7 M8)) ∧
((x8 = 99) → (∀ x12 : Int, x12 = slI 1 v2 → iR x12 → (
qX8_become_J45  (qX8_become_L15   Q n)  Q v2 x12 x7 M8))))))))))))
def qX8_become  (M : Mem) (Q : Mem → Prop) : Prop := ∀ x1 : Int, x1 = M 156 1 → iR x1 → (
∀ M2 : Mem, M2 = up2 M 158 1 x1 → (
∀ M3 : Mem, M3 = up2 M2 158 2 0 → (
∃ n13 : Nat, qX8_become_L15   Q n13 0 M3)))
def qX9_clear  (M : Mem) (Q : Mem → Prop) : Prop := ∀ M1 : Mem, M1 = up2 M 156 1 0 → (
Q M1)
def qX11_avenue_J47  (Q : Int → Mem → Prop) (v1 : Int) (v2 : Int) (M : Mem) : Prop := qX9_clear  M (fun (M4 : Mem) =>  (
iR v1 ∧ (
(((¬ v1 = (-1)) → (iR ((-1) - v1) ∧ (
Q ((-1) - v1) M4))) ∧
((v1 = (-1)) → (iR v2 ∧ (
Q v2 M4)))))))
def qX11_avenue  (M : Mem) (Q : Int → Mem → Prop) : Prop := qX11_avenueFault  M (fun (x1 : Int) (M1 : Mem) => iR x1 → (
∀ x2 : Int, x2 = M1 156 1 → iR x2 → (
(((¬ x1 = (-1)) → (qX11_avenue_J47  Q x1 x2 M1)) ∧
((x1 = (-1)) → (qX8_become  M1 (fun (M9 : Mem) =>  (
qX6_clear 1 M9 (fun (M10 : Mem) =>  (
qX1_clear  M10 (fun (M11 : Mem) =>  (
qX11_forgetKept  M11 (fun (M12 : Mem) =>  (
qX11_avenue_J47  Q x1 x2 M12))))))))))))))
def qX8_gate  (M : Mem) (Q : Int → Mem → Prop) : Prop := ∀ x1 : Int, x1 = M 158 1 → iR x1 → (
iR (x1 - 1) ∧ (
Q (x1 - 1) M))
def qX9_back  (M : Mem) (Q : Mem → Prop) : Prop := ∀ x1 : Int, x1 = M 156 2 → iR x1 → (
(((x1 ≤ 0) → (Q M)) ∧
((¬ (x1 ≤ 0)) → (∀ x3 : Int, x3 = M 156 2 → iR x3 → (
iR (x3 - 1) ∧ (
∀ M5 : Mem, M5 = up2 M 156 2 (x3 - 1) → (
Q M5)))))))
def qX9_look  (M : Mem) (Q : Int → Mem → Prop) : Prop := ∀ x1 : Int, x1 = M 156 2 → iR x1 → (
∀ x2 : Int, x2 = M 156 3 → iR x2 → (
(((x2 ≤ x1) → (Q (-1) M)) ∧
((¬ (x2 ≤ x1)) → (∀ x4 : Int, x4 = M 156 2 → iR x4 → (
(0 ≤ x4) ∧ (
(x4 < 80) ∧ (
∀ x7 : Int, x7 = M 157 x4 → iR x7 → (
Q x7 M)))))))))
def qX9_pass  (M : Mem) (Q : Mem → Prop) : Prop := ∀ x1 : Int, x1 = M 156 2 → iR x1 → (
∀ x2 : Int, x2 = M 156 3 → iR x2 → (
(((x2 ≤ x1) → (Q M)) ∧
((¬ (x2 ≤ x1)) → (∀ x4 : Int, x4 = M 156 2 → iR x4 → (
iR (x4 + 1) ∧ (
∀ M6 : Mem, M6 = up2 M 156 2 (x4 + 1) → (
Q M6))))))))
def qX9_digit  (M : Mem) (Q : Int → Mem → Prop) : Prop := qX9_look  M (fun (x1 : Int) (M1 : Mem) => iR x1 → (
(((x1 < 48) → (Q (-1) M1)) ∧
((¬ (x1 < 48)) → ((((x1 ≤ 57) → (qX9_pass  M1 (fun (M4 : Mem) =>  (
iR (x1 - 48) ∧ (
Q (x1 - 48) M4))))) ∧
((¬ (x1 ≤ 57)) → (Q (-1) M1))))))))
def qX9_number_L10 (p1 : Int)  (Q : Int → Mem → Prop) : Nat → Int → Int → Int → Mem → Prop
  | 0, _, _, _, _ => False
  | n + 1, v2, v3, v4, M => iR v4 ∧ (
(((p1 ≤ v4) → (iR v2 ∧ (
Q v2 M))) ∧
((¬ (p1 ≤ v4)) → (iR v3 ∧ (
(((v3 = (-1)) → (iR v2 ∧ (
Q v2 M))) ∧
((¬ (v3 = (-1))) → (qX9_digit  M (fun (x8 : Int) (M8 : Mem) => iR x8 → (
(((¬ x8 = (-1)) → (qX9_number_L10 p1  Q n ((v2 * 10) + x8) x8 (v4 + 1) M8)) ∧
((x8 = (-1)) → (qX9_number_L10 p1  Q n v2 x8 (v4 + 1) M8)))))))))))))
def qX9_number (p1 : Int) (M : Mem) (Q : Int → Mem → Prop) : Prop := qX9_digit  M (fun (x1 : Int) (M1 : Mem) => iR x1 → (
∃ n10 : Nat, qX9_number_L10 p1  Q n10 x1 x1 1 M1))
def qX11_readCell  (M : Mem) (Q : Int → Mem → Prop) : Prop := qX9_number 2 M (fun (x1 : Int) (M1 : Mem) => iR x1 → (
qX8_gate  M1 (fun (x2 : Int) (M2 : Mem) => iR x2 → (
(((x1 < x2) → (Q x1 M2)) ∧
((¬ (x1 < x2)) → (qX9_back  M2 (fun (M4 : Mem) =>  (
Q (-1) M4)))))))))
def qX6_addHearse (k0 : Nat) (p1 : Int) (M : Mem) (Q : Mem → Prop) : Prop := ∀ x1 : Int, x1 = M k0 6 → iR x1 → (
(0 ≤ x1) ∧ (
(x1 < 6) ∧ (
∀ M4 : Mem, M4 = up2 M (k0 + 1) x1 p1 → (
∀ x5 : Int, x5 = M4 k0 6 → iR x5 → (
(0 ≤ x5) ∧ (
(x5 < 6) ∧ (
∀ M8 : Mem, M8 = up2 M4 (k0 + 2) x5 0 → (
∀ x9 : Int, x9 = M8 k0 6 → iR x9 → (
iR (x9 + 1) ∧ (
∀ M11 : Mem, M11 = up2 M8 k0 6 (x9 + 1) → (
Q M11)))))))))))
def qX6_hearseOn_L2 (k0 : Nat) (p1 : Int)  (Q : Int → Mem → Prop) : Nat → Int → Mem → Prop
  | 0, _, _ => False
  | n + 1, v2, M => ∀ x1 : Int, x1 = M k0 6 → iR x1 → (
iR v2 ∧ (
(((x1 ≤ v2) → (Q (-1) M)) ∧
((¬ (x1 ≤ v2)) → ((0 ≤ v2) ∧ (
(v2 < 6) ∧ (
∀ x6 : Int, x6 = M (k0 + 1) v2 → iR x6 → (
(((¬ x6 = p1) → (qX6_hearseOn_L2 k0 p1  Q n (v2 + 1) M)) ∧
((x6 = p1) → (Q v2 M)))))))))))
def qX6_hearseOn (k0 : Nat) (p1 : Int) (M : Mem) (Q : Int → Mem → Prop) : Prop := ∃ n8 : Nat, qX6_hearseOn_L2 k0 p1  Q n8 0 M
def qX11_readHearse  (M : Mem) (Q : Int → Mem → Prop) : Prop := ∀ x1 : Int, x1 = M 8 6 → iR x1 → (
(((x1 < 6) → (qX11_readCell  M (fun (x3 : Int) (M3 : Mem) => iR x3 → (
(((¬ x3 = (-1)) → (qX6_hearseOn 8 x3 M3 (fun (x5 : Int) (M5 : Mem) => iR x5 → (
(((x5 = (-1)) → (qX6_addHearse 8 x3 M5 (fun (M7 : Mem) =>  (
Q 1 M7)))) ∧
((¬ (x5 = (-1))) → (qX9_back  M5 (fun (M8 : Mem) =>  (
Q 0 M8))))))))) ∧
((x3 = (-1)) → (Q 0 M3))))))) ∧
((¬ (x1 < 6)) → (Q 0 M))))
def qX6_addMourner (k0 : Nat) (p1 : Int) (p2 : Int) (M : Mem) (Q : Mem → Prop) : Prop := ∀ x1 : Int, x1 = M k0 7 → iR x1 → (
(0 ≤ x1) ∧ (
(x1 < 8) ∧ (
∀ M4 : Mem, M4 = up2 M (k0 + 3) x1 p1 → (
∀ x5 : Int, x5 = M4 k0 7 → iR x5 → (
(0 ≤ x5) ∧ (
(x5 < 8) ∧ (
∀ M8 : Mem, M8 = up2 M4 (k0 + 4) x5 p2 → (
∀ x9 : Int, x9 = M8 k0 7 → iR x9 → (
(0 ≤ x9) ∧ (
(x9 < 8) ∧ (
∀ M12 : Mem, M12 = up2 M8 (k0 + 5) x9 (-1) → (
∀ x13 : Int, x13 = M12 k0 7 → iR x13 → (
(0 ≤ x13) ∧ (
(x13 < 8) ∧ (
∀ M16 : Mem, M16 = up2 M12 (k0 + 6) x13 (-1) → (
∀ x17 : Int, x17 = M16 k0 7 → iR x17 → (
iR (x17 + 1) ∧ (
∀ M19 : Mem, M19 = up2 M16 k0 7 (x17 + 1) → (
Q M19)))))))))))))))))))
def qX11_readMourner  (M : Mem) (Q : Int → Mem → Prop) : Prop := ∀ x1 : Int, x1 = M 8 7 → iR x1 → (
(((x1 < 8) → (qX11_readCell  M (fun (x3 : Int) (M3 : Mem) => iR x3 → (
qX9_look  M3 (fun (x4 : Int) (M4 : Mem) => iR x4 → (
(((x3 = (-1)) → (Q 0 M4)) ∧
((¬ (x3 = (-1))) → (iR (x4 - 97) ∧ (
((((x4 - 97) < 0) → (Q 0 M4)) ∧
((¬ ((x4 - 97) < 0)) → (∀ x8 : Int, x8 = M4 8 6 → iR x8 → (
((((x4 - 97) < x8) → (qX9_pass  M4 (fun (M10 : Mem) =>  (
qX6_addMourner 8 x3 (x4 - 97) M10 (fun (M11 : Mem) =>  (
Q 1 M11)))))) ∧
((¬ ((x4 - 97) < x8)) → (Q 0 M4))))))))))))))))) ∧
((¬ (x1 < 8)) → (Q 0 M))))
def qX6_copyFrom (k0 : Nat) (k1 : Nat) (M : Mem) (Q : Mem → Prop) : Prop := ∀ M1 : Mem, M1 = cp2 M (k1 + 1) (k0 + 1) 6 → (
∀ M2 : Mem, M2 = cp2 M1 (k1 + 2) (k0 + 2) 6 → (
∀ M3 : Mem, M3 = cp2 M2 (k1 + 3) (k0 + 3) 8 → (
∀ M4 : Mem, M4 = cp2 M3 (k1 + 4) (k0 + 4) 8 → (
∀ M5 : Mem, M5 = cp2 M4 (k1 + 5) (k0 + 5) 8 → (
∀ M6 : Mem, M6 = cp2 M5 (k1 + 6) (k0 + 6) 8 → (
∀ x7 : Int, x7 = M6 k1 6 → iR x7 → (
∀ M8 : Mem, M8 = up2 M6 k0 6 x7 → (
∀ x9 : Int, x9 = M8 k1 7 → iR x9 → (
∀ M10 : Mem, M10 = up2 M8 k0 7 x9 → (
∀ x11 : Int, x11 = M10 k1 8 → iR x11 → (
∀ M12 : Mem, M12 = up2 M10 k0 8 x11 → (
∀ x13 : Int, x13 = M12 k1 9 → iR x13 → (
∀ M14 : Mem, M14 = up2 M12 k0 9 x13 → (
∀ x15 : Int, x15 = M14 k1 10 → iR x15 → (
∀ M16 : Mem, M16 = up2 M14 k0 10 x15 → (
Q M16))))))))))))))))
def qX9_isWhole  (M : Mem) (Q : Int → Mem → Prop) : Prop := ∀ x1 : Int, x1 = M 156 2 → iR x1 → (
∀ x2 : Int, x2 = M 156 1 → iR x2 → (
(((x1 < x2) → (Q 0 M)) ∧
((¬ (x1 < x2)) → (Q 1 M)))))
def qX9_open (p1 : Int) (M : Mem) (Q : Mem → Prop) : Prop := ∀ M1 : Mem, M1 = up2 M 156 2 0 → (
∀ x2 : Int, x2 = M1 156 1 → iR x2 → (
∀ x3 : Int, x3 = min x2 p1 → iR x3 → (
∀ M4 : Mem, M4 = up2 M1 156 3 x3 → (
Q M4))))
def qX9_skip (p1 : Int) (M : Mem) (Q : Int → Mem → Prop) : Prop := qX9_look  M (fun (x1 : Int) (M1 : Mem) => iR x1 → (
(((x1 = p1) → (qX9_pass  M1 (fun (M3 : Mem) =>  (
Q 1 M3)))) ∧
((¬ (x1 = p1)) → (Q 0 M1)))))
def qX11_readLines_J74 (p1 : Int) (R : Int → Int → Mem → Prop) (X90 : Int → Mem → Prop) (Q : Int → Mem → Prop) (v2 : Int) (M : Mem) : Prop := qX9_skip 59 M (fun (x12 : Int) (M12 : Mem) => iR x12 → (x12 = 0 ∨ x12 = 1) → (
R (v2 + 1) x12 M12))
def qX11_readLines_L33 (p1 : Int) (X90 : Int → Mem → Prop) (Q : Int → Mem → Prop) : Nat → Int → Int → Mem → Prop
  | 0, _, _, _ => False
  | n + 1, v2, v3, M => iR v3 ∧ (
(((v3 = 0) → (X90 v2 M)) ∧
((¬ (v3 = 0)) → (iR v2 ∧ (
(((80 < v2) → (X90 v2 M)) ∧
((¬ (80 < v2)) → ((((p1 = 0) → (qX11_readMourner  M (fun (x10 : Int) (M10 : Mem) => iR x10 → (x10 = 0 ∨ x10 = 1) → (
(((¬ x10 = 0) → (qX11_readLines_J74 p1 (qX11_readLines_L33 p1 X90 Q n) X90 Q v2 M10)) ∧
((x10 = 0) → (∀ x13 : Int, x13 = M10 156 2 → iR x13 → (
iR ((-1) - x13) ∧ (
Q ((-1) - x13) M10))))))))) ∧
((¬ (p1 = 0)) → (qX11_readHearse  M (fun (x15 : Int) (M15 : Mem) => iR x15 → (x15 = 0 ∨ x15 = 1) → (
(((x15 = 0) → (∀ x17 : Int, x17 = M15 156 2 → iR x17 → (
iR ((-1) - x17) ∧ (
Q ((-1) - x17) M15)))) ∧
((¬ (x15 = 0)) → (qX11_readLines_J74 p1 (qX11_readLines_L33 p1 X90 Q n) X90 Q v2 M15))))))))))))))))
def qX11_readLines_J90 (p1 : Int) (Q : Int → Mem → Prop) (v2 : Int) (M : Mem) : Prop := qX9_isWhole  M (fun (x20 : Int) (M20 : Mem) => iR x20 → (x20 = 0 ∨ x20 = 1) → (
(((¬ x20 = 0) → (qX6_copyFrom 1 8 M20 (fun (M22 : Mem) =>  (
qX1_clear  M22 (fun (M23 : Mem) =>  (
iR v2 ∧ (
Q v2 M23))))))) ∧
((x20 = 0) → (∀ x25 : Int, x25 = M20 156 2 → iR x25 → (
iR ((-1) - x25) ∧ (
Q ((-1) - x25) M20)))))))
def qX11_readLines_J26 (p1 : Int) (Q : Int → Mem → Prop) (t0 : Int) (M : Mem) : Prop := iR t0 ∧ (
qX9_open t0 M (fun (M4 : Mem) =>  (
∃ n19 : Nat, qX11_readLines_L33 p1 (fun (v2 : Int) (M : Mem) => qX11_readLines_J90 p1 Q v2 M) Q n19 0 1 M4)))
def qX11_readLines (p1 : Int) (M : Mem) (Q : Int → Mem → Prop) : Prop := qX6_copyFrom 8 1 M (fun (M1 : Mem) =>  (
(((p1 = 0) → (qX11_readLines_J26 p1 Q 39 M1)) ∧
((¬ (p1 = 0)) → (qX11_readLines_J26 p1 Q 17 M1)))))
def qX9_isEmpty  (M : Mem) (Q : Int → Mem → Prop) : Prop := ∀ x1 : Int, x1 = M 156 1 → iR x1 → (
(((¬ x1 = 0) → (Q 0 M)) ∧
((x1 = 0) → (Q 1 M))))
def qX11_hearses_J19  (Q : Int → Mem → Prop) (t0 : Int) (M : Mem) : Prop := qX9_clear  M (fun (M4 : Mem) =>  (
iR t0 ∧ (
Q t0 M4)))
def qX11_hearses  (M : Mem) (Q : Int → Mem → Prop) : Prop := qX9_isEmpty  M (fun (x1 : Int) (M1 : Mem) => iR x1 → (x1 = 0 ∨ x1 = 1) → (
(((x1 = 0) → (qX11_readLines 1 M1 (fun (x3 : Int) (M3 : Mem) => iR x3 → (
qX11_hearses_J19  Q x3 M3)))) ∧
((¬ (x1 = 0)) → (qX11_hearses_J19  Q 0 M1)))))
def qX11_mourners_J19  (Q : Int → Mem → Prop) (t0 : Int) (M : Mem) : Prop := qX9_clear  M (fun (M4 : Mem) =>  (
iR t0 ∧ (
Q t0 M4)))
def qX11_mourners  (M : Mem) (Q : Int → Mem → Prop) : Prop := qX9_isEmpty  M (fun (x1 : Int) (M1 : Mem) => iR x1 → (x1 = 0 ∨ x1 = 1) → (
(((x1 = 0) → (qX11_readLines 0 M1 (fun (x3 : Int) (M3 : Mem) => iR x3 → (
qX11_mourners_J19  Q x3 M3)))) ∧
((¬ (x1 = 0)) → (qX11_mourners_J19  Q 0 M1)))))
def qX11_weatherFault_L2  (X48 : Mem → Prop) (Q : Int → Mem → Prop) : Nat → Int → Mem → Prop
  | 0, _, _ => False
  | n + 1, v1, M => ∀ x1 : Int, x1 = M 156 1 → iR x1 → (
iR v1 ∧ (
(((x1 ≤ v1) → (X48  M)) ∧
((¬ (x1 ≤ v1)) → (qX9_signAt v1 M (fun (x4 : Int) (M4 : Mem) => iR x4 → (
(((v1 = 20) → (Q v1 M4)) ∧
((¬ (v1 = 20)) → ((((x4 < 48) → (Q v1 M4)) ∧
((¬ (x4 < 48)) → ((((x4 ≤ 57) → (qX11_weatherFault_L2  X48 Q n (v1 + 1) M4)) ∧
((¬ (x4 ≤ 57)) → (Q v1 M4))))))))))))))))
def qX11_weatherFault  (M : Mem) (Q : Int → Mem → Prop) : Prop := ∃ n8 : Nat, qX11_weatherFault_L2  (fun  (M : Mem) => qX9_isEmpty  M (fun (x9 : Int) (M9 : Mem) => iR x9 → (x9 = 0 ∨ x9 = 1) → (
(((x9 = 0) → (Q (-1) M9)) ∧
((¬ (x9 = 0)) → (Q 0 M9)))))) Q n8 0 M
def qX8_takeWeather_L10   (Q : Mem → Prop) : Nat → Int → Mem → Prop
  | 0, _, _ => False
  | n + 1, v2, M => ∀ x3 : Int, x3 = M 158 3 → iR x3 → (
iR v2 ∧ (
(((x3 ≤ v2) → (Q M)) ∧
((¬ (x3 ≤ v2)) → (qX9_signAt v2 M (fun (x6 : Int) (M6 : Mem) => iR x6 → (
(0 ≤ v2) ∧ (
(v2 < 20) ∧ (
iR (x6 - 48) ∧ (
∀ M10 : Mem, M10 = up2 M6 159 v2 (x6 - 48) → (
qX8_takeWeather_L10   Q n (v2 + 1) M10)))))))))))
def qX8_takeWeather  (M : Mem) (Q : Mem → Prop) : Prop := ∀ x1 : Int, x1 = M 156 1 → iR x1 → (
∀ M2 : Mem, M2 = up2 M 158 3 x1 → (
∃ n11 : Nat, qX8_takeWeather_L10   Q n11 0 M2))
def qX11_weather_J29  (Q : Int → Mem → Prop) (v1 : Int) (v2 : Int) (M : Mem) : Prop := qX9_clear  M (fun (M4 : Mem) =>  (
iR v1 ∧ (
(((¬ v1 = (-1)) → (iR ((-1) - v1) ∧ (
Q ((-1) - v1) M4))) ∧
((v1 = (-1)) → (iR v2 ∧ (
Q v2 M4)))))))
def qX11_weather  (M : Mem) (Q : Int → Mem → Prop) : Prop := qX11_weatherFault  M (fun (x1 : Int) (M1 : Mem) => iR x1 → (
∀ x2 : Int, x2 = M1 156 1 → iR x2 → (
(((¬ x1 = (-1)) → (qX11_weather_J29  Q x1 x2 M1)) ∧
((x1 = (-1)) → (qX8_takeWeather  M1 (fun (M9 : Mem) =>  (
qX11_weather_J29  Q x1 x2 M9))))))))
def qX5_bindingOf (p0 : Int) (M : Mem) (Q : Int → Mem → Prop) : Prop := ((p0 = 42 → (Q 3 M)) ∧
(p0 = 43 → (Q 2 M)) ∧
(p0 = 45 → (Q 2 M)) ∧
(p0 = 47 → (Q 3 M)) ∧
(p0 = 60 → (Q 1 M)) ∧
(p0 = 61 → (Q 1 M)) ∧
(p0 = 62 → (Q 1 M)) ∧
(p0 = 302 → (Q 4 M)) ∧
((¬ p0 = 42 ∧ ¬ p0 = 43 ∧ ¬ p0 = 45 ∧ ¬ p0 = 47 ∧ ¬ p0 = 60 ∧ ¬ p0 = 61 ∧ ¬ p0 = 62 ∧ ¬ p0 = 302) → (Q 0 M)))
def qX5_latestBinding  (M : Mem) (Q : Int → Mem → Prop) : Prop := ∀ x1 : Int, x1 = M 185 1 → iR x1 → (
(((x1 ≤ 0) → (Q 0 M)) ∧
((¬ (x1 ≤ 0)) → (∀ x3 : Int, x3 = M 185 1 → iR x3 → (
(0 ≤ (x3 - 1)) ∧ (
((x3 - 1) < 40) ∧ (
∀ x6 : Int, x6 = M 186 (x3 - 1) → iR x6 → (
qX5_bindingOf x6 M (fun (x7 : Int) (M7 : Mem) => iR x7 → (
Q x7 M7))))))))))
def qX5_release_L0 (k1 : Nat) (p2 : Int)  (Q : Mem → Prop) : Nat → Mem → Prop
  | 0, _ => False
  | n + 1, M => ∀ x13 : Int, x13 = M 185 1 → iR x13 → (
(((x13 ≤ 0) → (Q M)) ∧
((¬ (x13 ≤ 0)) → (qX5_latestBinding  M (fun (x15 : Int) (M15 : Mem) => iR x15 → (
(((x15 < p2) → (Q M15)) ∧
((¬ (x15 < p2)) → (∀ x17 : Int, x17 = M15 185 1 → iR x17 → (
iR (x17 - 1) ∧ (
∀ M19 : Mem, M19 = up2 M15 185 1 (x17 - 1) → (
∀ x20 : Int, x20 = M19 185 1 → iR x20 → (
(0 ≤ x20) ∧ (
(x20 < 40) ∧ (
∀ x23 : Int, x23 = M19 186 x20 → iR x23 → (
qX2_add k1 x23 0 M19 (fun (M24 : Mem) =>  (
qX5_release_L0 k1 p2  Q n  M24))))))))))))))))))
def qX5_release (k1 : Nat) (p2 : Int) (M : Mem) (Q : Mem → Prop) : Prop := ∀ x1 : Int, x1 = M 185 1 → iR x1 → (
(((x1 ≤ 0) → (Q M)) ∧
((¬ (x1 ≤ 0)) → (qX5_latestBinding  M (fun (x3 : Int) (M3 : Mem) => iR x3 → (
(((x3 < p2) → (Q M3)) ∧
((¬ (x3 < p2)) → (∀ x5 : Int, x5 = M3 185 1 → iR x5 → (
iR (x5 - 1) ∧ (
∀ M7 : Mem, M7 = up2 M3 185 1 (x5 - 1) → (
∀ x8 : Int, x8 = M7 185 1 → iR x8 → (
(0 ≤ x8) ∧ (
(x8 < 40) ∧ (
∀ x11 : Int, x11 = M7 186 x8 → iR x11 → (
qX2_add k1 x11 0 M7 (fun (M12 : Mem) =>  (
∃ n25 : Nat, qX5_release_L0 k1 p2  Q n25  M12))))))))))))))))))
def qX5_hold (p1 : Int) (M : Mem) (Q : Mem → Prop) : Prop := ∀ x1 : Int, x1 = M 185 1 → iR x1 → (
(((40 ≤ x1) → (Q M)) ∧
((¬ (40 ≤ x1)) → (∀ x3 : Int, x3 = M 185 1 → iR x3 → (
(0 ≤ x3) ∧ (
(x3 < 40) ∧ (
∀ M6 : Mem, M6 = up2 M 186 x3 p1 → (
∀ x7 : Int, x7 = M6 185 1 → iR x7 → (
iR (x7 + 1) ∧ (
∀ M9 : Mem, M9 = up2 M6 185 1 (x7 + 1) → (
Q M9)))))))))))
def qX5_takeSign_J116 (k2 : Nat) (Q : Int → Mem → Prop)  (M : Mem) : Prop := qX9_pass  M (fun (M11 : Mem) =>  (
Q 1 M11))
def qX5_takeSign_J53 (k2 : Nat) (Q : Int → Mem → Prop) (v3 : Int) (v4 : Int) (M : Mem) : Prop := iR v4 ∧ (
(((¬ v4 = 1) → ((((v4 ≤ 1) → (Q 0 M)) ∧
((¬ (v4 ≤ 1)) → (qX5_release k2 v4 M (fun (M7 : Mem) =>  (
iR v3 ∧ (
qX5_hold v3 M7 (fun (M9 : Mem) =>  (
∀ M10 : Mem, M10 = up2 M9 185 3 1 → (
qX5_takeSign_J116 k2 Q  M10))))))))))) ∧
((v4 = 1) → (qX5_release k2 2 M (fun (M12 : Mem) =>  (
qX5_latestBinding  M12 (fun (x13 : Int) (M13 : Mem) => iR x13 → (
(((¬ x13 = 1) → (iR v3 ∧ (
qX5_hold v3 M13 (fun (M16 : Mem) =>  (
∀ M17 : Mem, M17 = up2 M16 185 3 1 → (
qX5_takeSign_J116 k2 Q  M17)))))) ∧
((x13 = 1) → (Q 0 M13)))))))))))
def qX5_takeSign (k2 : Nat) (M : Mem) (Q : Int → Mem → Prop) : Prop := qX9_look  M (fun (x1 : Int) (M1 : Mem) => iR x1 → (
qX5_bindingOf x1 M1 (fun (x2 : Int) (M2 : Mem) => iR x2 → (
(((¬ x1 = 41) → (qX5_takeSign_J53 k2 Q x1 x2 M2)) ∧
((x1 = 41) → (∀ x18 : Int, x18 = M2 185 2 → iR x18 → (
(((x18 ≤ 0) → (qX5_takeSign_J53 k2 Q x1 x2 M2)) ∧
((¬ (x18 ≤ 0)) → (qX5_release k2 1 M2 (fun (M20 : Mem) =>  (
∀ x21 : Int, x21 = M20 185 1 → iR x21 → (
iR (x21 - 1) ∧ (
∀ M23 : Mem, M23 = up2 M20 185 1 (x21 - 1) → (
∀ x24 : Int, x24 = M23 185 2 → iR x24 → (
iR (x24 - 1) ∧ (
∀ M26 : Mem, M26 = up2 M23 185 2 (x24 - 1) → (
qX5_takeSign_J116 k2 Q  M26)))))))))))))))))))
def qX5_takeThing_J121 (k2 : Nat) (Q : Int → Mem → Prop)  (M : Mem) : Prop := qX9_pass  M (fun (M15 : Mem) =>  (
Q 1 M15))
def qX5_takeThing_J101 (k2 : Nat) (Q : Int → Mem → Prop) (t0 : Int) (M : Mem) : Prop := iR t0 ∧ (
(((0 ≤ t0) → (qX2_addLetter k2 t0 M (fun (M13 : Mem) =>  (
∀ M14 : Mem, M14 = up2 M13 185 3 0 → (
qX5_takeThing_J121 k2 Q  M14))))) ∧
((¬ (0 ≤ t0)) → (Q 0 M))))
def qX5_takeThing_J83 (k2 : Nat) (Q : Int → Mem → Prop) (v4 : Int) (M : Mem) : Prop := iR v4 ∧ (
(((¬ v4 = (-1)) → ((0 ≤ v4) ∧ (
(v4 < 65536) ∧ (
∀ x10 : Int, x10 = ixS (bS 0) v4 → iR x10 → (
qX5_takeThing_J101 k2 Q x10 M))))) ∧
((v4 = (-1)) → (qX5_takeThing_J101 k2 Q (-1) M))))
def qX5_takeThing (k2 : Nat) (M : Mem) (Q : Int → Mem → Prop) : Prop := qX9_number 3 M (fun (x1 : Int) (M1 : Mem) => iR x1 → (
(((x1 = (-1)) → (qX9_look  M1 (fun (x3 : Int) (M3 : Mem) => iR x3 → (
(((¬ x3 = 45) → ((((¬ x3 = 40) → (qX5_takeThing_J83 k2 Q x3 M3)) ∧
((x3 = 40) → (∀ x16 : Int, x16 = M3 185 2 → iR x16 → (
(((4 ≤ x16) → (qX5_takeThing_J83 k2 Q x3 M3)) ∧
((¬ (4 ≤ x16)) → (∀ x18 : Int, x18 = M3 185 2 → iR x18 → (
iR (x18 + 1) ∧ (
∀ M20 : Mem, M20 = up2 M3 185 2 (x18 + 1) → (
qX5_hold x3 M20 (fun (M21 : Mem) =>  (
qX5_takeThing_J121 k2 Q  M21)))))))))))))) ∧
((x3 = 45) → (qX5_hold 302 M3 (fun (M22 : Mem) =>  (
qX5_takeThing_J121 k2 Q  M22))))))))) ∧
((¬ (x1 = (-1))) → (qX2_add k2 300 x1 M1 (fun (M23 : Mem) =>  (
∀ M24 : Mem, M24 = up2 M23 185 3 0 → (
Q 1 M24))))))))
def qX9_isRead  (M : Mem) (Q : Int → Mem → Prop) : Prop := ∀ x1 : Int, x1 = M 156 2 → iR x1 → (
∀ x2 : Int, x2 = M 156 3 → iR x2 → (
(((x1 < x2) → (Q 0 M)) ∧
((¬ (x1 < x2)) → (Q 1 M)))))
def qX5_read_L40 (k2 : Nat) (X92 : Mem → Prop) (Q : Int → Mem → Prop) : Nat → Int → Mem → Prop
  | 0, _, _ => False
  | n + 1, v3, M => iR v3 ∧ (
(((40 ≤ v3) → (X92  M)) ∧
((¬ (40 ≤ v3)) → (qX9_isRead  M (fun (x10 : Int) (M10 : Mem) => iR x10 → (x10 = 0 ∨ x10 = 1) → (
(((¬ x10 = 0) → (X92  M10)) ∧
((x10 = 0) → (∀ x12 : Int, x12 = M10 185 3 → iR x12 → (
(((x12 = 0) → (qX5_takeSign k2 M10 (fun (x14 : Int) (M14 : Mem) => iR x14 → (x14 = 0 ∨ x14 = 1) → (
(((¬ x14 = 0) → (qX5_read_L40 k2 X92 Q n (v3 + 1) M14)) ∧
((x14 = 0) → (∀ x16 : Int, x16 = M14 156 2 → iR x16 → (
Q x16 M14)))))))) ∧
((¬ (x12 = 0)) → (qX5_takeThing k2 M10 (fun (x17 : Int) (M17 : Mem) => iR x17 → (x17 = 0 ∨ x17 = 1) → (
(((x17 = 0) → (∀ x19 : Int, x19 = M17 156 2 → iR x19 → (
Q x19 M17))) ∧
((¬ (x17 = 0)) → (qX5_read_L40 k2 X92 Q n (v3 + 1) M17))))))))))))))))))
def qX5_read_J92 (k2 : Nat) (Q : Int → Mem → Prop)  (M : Mem) : Prop := ∀ x21 : Int, x21 = M 185 3 → iR x21 → (
(((¬ x21 = 0) → (∀ x23 : Int, x23 = M 156 2 → iR x23 → (
Q x23 M))) ∧
((x21 = 0) → (∀ x24 : Int, x24 = M 185 2 → iR x24 → (
(((0 < x24) → (∀ x26 : Int, x26 = M 156 2 → iR x26 → (
Q x26 M))) ∧
((¬ (0 < x24)) → (qX9_isWhole  M (fun (x27 : Int) (M27 : Mem) => iR x27 → (x27 = 0 ∨ x27 = 1) → (
(((¬ x27 = 0) → (qX5_release k2 1 M27 (fun (M29 : Mem) =>  (
Q (-1) M29)))) ∧
((x27 = 0) → (∀ x30 : Int, x30 = M27 156 2 → iR x30 → (
Q x30 M27))))))))))))))
def qX5_read (k2 : Nat) (M : Mem) (Q : Int → Mem → Prop) : Prop := qX9_isEmpty  M (fun (x1 : Int) (M1 : Mem) => iR x1 → (x1 = 0 ∨ x1 = 1) → (
(((x1 = 0) → (qX2_clear k2 M1 (fun (M3 : Mem) =>  (
∀ M4 : Mem, M4 = up2 M3 185 1 0 → (
∀ M5 : Mem, M5 = up2 M4 185 2 0 → (
∀ M6 : Mem, M6 = up2 M5 185 3 1 → (
qX9_open 40 M6 (fun (M7 : Mem) =>  (
∃ n20 : Nat, qX5_read_L40 k2 (fun  (M : Mem) => qX5_read_J92 k2 Q  M) Q n20 0 M7))))))))) ∧
((¬ (x1 = 0)) → (qX2_becomePlain k2 M1 (fun (M31 : Mem) =>  (
Q (-1) M31)))))))
def qX11_rule  (M : Mem) (Q : Int → Mem → Prop) : Prop := isL (M 155 17).toNat ∧ (
qX5_read (M 155 17).toNat M (fun (x2 : Int) (M2 : Mem) => iR x2 → (
qX9_clear  M2 (fun (M3 : Mem) =>  (
(((x2 = (-1)) → (isL (M3 155 16).toNat ∧ (
isL (M3 155 17).toNat ∧ (
∀ M7 : Mem, M7 = up2 M3 155 16 ((M3 155 17).toNat : Nat) → (
∀ M8 : Mem, M8 = up2 M7 155 17 ((M3 155 16).toNat : Nat) → (
Q 0 M8)))))) ∧
((¬ (x2 = (-1))) → (iR ((-1) - x2) ∧ (
Q ((-1) - x2) M3)))))))))
def qX8_putOnStreet (p1 : Int) (M : Mem) (Q : Int → Mem → Prop) : Prop := qX8_gate  M (fun (x1 : Int) (M1 : Mem) => iR x1 → (
iR (x1 - 1) ∧ (
∀ x3 : Int, x3 = min p1 (x1 - 1) → iR x3 → (
∀ x4 : Int, x4 = max 0 x3 → iR x4 → (
Q x4 M1)))))
def qX11_cellOfEntry_J20 (p1 : Int) (p2 : Int) (Q : Int → Mem → Prop) (v3 : Int) (M : Mem) : Prop := iR v3 ∧ (
qX8_putOnStreet v3 M (fun (x4 : Int) (M4 : Mem) => iR x4 → (
Q x4 M4)))
def qX11_cellOfEntry (p1 : Int) (p2 : Int) (M : Mem) (Q : Int → Mem → Prop) : Prop := (((¬ p1 = 0) → ((((¬ p1 = 1) → (qX11_cellOfEntry_J20 p1 p2 Q p2 M)) ∧
((p1 = 1) → (∀ x5 : Int, x5 = s16I p2 → iR x5 → (
qX11_cellOfEntry_J20 p1 p2 Q x5 M)))))) ∧
((p1 = 0) → (∀ x6 : Int, x6 = b8I p2 → iR x6 → (
qX11_cellOfEntry_J20 p1 p2 Q x6 M))))
def qX6_hasEnded (k0 : Nat) (p1 : Int) (M : Mem) (Q : Int → Mem → Prop) : Prop := (0 ≤ p1) ∧ (
(p1 < 8) ∧ (
∀ x3 : Int, x3 = M (k0 + 6) p1 → iR x3 → (
(((x3 = (-1)) → (Q 0 M)) ∧
((¬ (x3 = (-1))) → (Q 1 M))))))
def qX11_sheet_J104 (p1 : Int) (p2 : Int) (p3 : Int) (p4 : Int) (R : Int → Int → Int → Mem → Prop) (X125 : Int → Mem → Prop) (Q : Int → Mem → Prop) (v5 : Int) (v6 : Int) (v7 : Int) (M : Mem) : Prop := (0 ≤ v7) ∧ (
(v7 < 8) ∧ (
∀ x13 : Int, x13 = M 4 v7 → iR x13 → (
∀ x14 : Int, x14 = w32 (v6 + x13) → iR x14 → (
R v5 x14 (v7 + 1) M))))
def qX11_sheet_J103 (p1 : Int) (p2 : Int) (p3 : Int) (p4 : Int) (R : Int → Int → Int → Mem → Prop) (X125 : Int → Mem → Prop) (Q : Int → Mem → Prop) (v5 : Int) (v6 : Int) (v7 : Int) (t0 : Int) (t1 : Int) (M : Mem) : Prop := (0 ≤ t1) ∧ (
(t1 < 8) ∧ (
iR t0 ∧ (
∀ M20 : Mem, M20 = up2 M 4 t1 t0 → (
qX11_sheet_J104 p1 p2 p3 p4 (R) X125 Q v5 v6 v7 M20))))
def qX11_sheet_L47 (p1 : Int) (p2 : Int) (p3 : Int) (p4 : Int) (X125 : Int → Mem → Prop) (Q : Int → Mem → Prop) : Nat → Int → Int → Int → Mem → Prop
  | 0, _, _, _, _ => False
  | n + 1, v5, v6, v7, M => ∀ x6 : Int, x6 = M 1 7 → iR x6 → (
iR v7 ∧ (
(((x6 ≤ v7) → (X125 v6 M)) ∧
((¬ (x6 ≤ v7)) → (qX6_hasEnded 1 v7 M (fun (x9 : Int) (M9 : Mem) => iR x9 → (x9 = 0 ∨ x9 = 1) → (
(((¬ x9 = 0) → (qX11_sheet_J104 p1 p2 p3 p4 (qX11_sheet_L47 p1 p2 p3 p4 X125 Q n) X125 Q v5 v6 v7 M9)) ∧
((x9 = 0) → (iR v5 ∧ (
(((v5 ≤ v7) → (qX11_sheet_J103 p1 p2 p3 p4 (qX11_sheet_L47 p1 p2 p3 p4 X125 Q n) X125 Q v5 v6 v7 0 v7 M9)) ∧
((¬ (v5 ≤ v7)) → (∀ x21 : Int, x21 = w32 (v7 * p4) → iR x21 → (
∀ x22 : Int, x22 = w32 (p3 + x21) → iR x22 → (
qX11_cellOfEntry p1 x22 M9 (fun (x23 : Int) (M23 : Mem) => iR x23 → (
qX11_sheet_J103 p1 p2 p3 p4 (qX11_sheet_L47 p1 p2 p3 p4 X125 Q n) X125 Q v5 v6 v7 x23 v7 M23))))))))))))))))))
def qX11_sheet_J29 (p1 : Int) (p2 : Int) (p3 : Int) (p4 : Int) (Q : Int → Mem → Prop)  (M : Mem) : Prop := (((¬ p1 = 3) → (∃ n24 : Nat, qX11_sheet_L47 p1 p2 p3 p4 (fun (v6 : Int) (M : Mem) => (((¬ p1 = 3) → (iR v6 ∧ (
Q v6 M))) ∧
((p1 = 3) → (Q (-3) M)))) Q n24 p2 0 0 M)) ∧
((p1 = 3) → (∃ n27 : Nat, qX11_sheet_L47 p1 p2 p3 p4 (fun (v6 : Int) (M : Mem) => (((¬ p1 = 3) → (iR v6 ∧ (
Q v6 M))) ∧
((p1 = 3) → (Q (-3) M)))) Q n27 0 0 0 M)))
def qX11_sheet (p1 : Int) (p2 : Int) (p3 : Int) (p4 : Int) (M : Mem) (Q : Int → Mem → Prop) : Prop := (((p1 < 0) → (Q (-1) M)) ∧
((¬ (p1 < 0)) → ((((3 < p1) → (Q (-1) M)) ∧
((¬ (3 < p1)) → ((((p2 ≤ 8) → ((((3 ≤ p1) → (qX11_sheet_J29 p1 p2 p3 p4 Q  M)) ∧
((¬ (3 ≤ p1)) → ((((0 ≤ p2) → (qX11_sheet_J29 p1 p2 p3 p4 Q  M)) ∧
((¬ (0 ≤ p2)) → (Q (-2) M)))))))) ∧
((¬ (p2 ≤ 8)) → (Q (-1) M)))))))))
def qX10_goal_J55 (p1 : Int) (p2 : Int) (p3 : Int) (R : Int → Mem → Prop)  (Q : Int → Mem → Prop) (v4 : Int) (v5 : Int) (v6 : Int) (t0 : Int) (M : Mem) : Prop := iR t0 ∧ (
(((t0 = 0) → (R (v4 + (-1)) M)) ∧
((¬ (t0 = 0)) → (∀ x15 : Int, x15 = aI p1 v6 → iR x15 → (
(((x15 = 0) → (iR v4 ∧ (
Q v4 M))) ∧
((¬ (x15 = 0)) → (∀ x18 : Int, x18 = M 158 2 → iR x18 → (
∀ x19 : Int, x19 = aI x18 v5 → iR x19 → (
(((¬ x19 = 0) → (R (v4 + (-1)) M)) ∧
((x19 = 0) → (iR v4 ∧ (
Q v4 M))))))))))))))
def qX10_goal_L15 (p1 : Int) (p2 : Int) (p3 : Int)  (Q : Int → Mem → Prop) : Nat → Int → Mem → Prop
  | 0, _, _ => False
  | n + 1, v4, M => iR v4 ∧ (
(((v4 ≤ p2) → (Q (-1) M)) ∧
((¬ (v4 ≤ p2)) → (∀ x6 : Int, x6 = slI 2 v4 → iR x6 → (
∀ x7 : Int, x7 = slI 1 p2 → iR x7 → (
∀ x8 : Int, x8 = slI 1 v4 → iR x8 → (
∀ x9 : Int, x9 = slI 2 p2 → iR x9 → (
∀ x10 : Int, x10 = srI p1 v4 → iR x10 → (
∀ x11 : Int, x11 = aI x10 1 → iR x11 → (
(((¬ x11 = 0) → (qX10_goal_J55 p1 p2 p3 (qX10_goal_L15 p1 p2 p3  Q n)  Q v4 (x6 - x7) (x8 - x9) 0 M)) ∧
((x11 = 0) → (qX10_goal_J55 p1 p2 p3 (qX10_goal_L15 p1 p2 p3  Q n)  Q v4 (x6 - x7) (x8 - x9) 1 M)))))))))))))
def qX10_goal (p1 : Int) (p2 : Int) (p3 : Int) (M : Mem) (Q : Int → Mem → Prop) : Prop := qX8_gate  M (fun (x1 : Int) (M1 : Mem) => iR x1 → (
iR (p2 + p3) ∧ (
∀ x3 : Int, x3 = min (p2 + p3) x1 → iR x3 → (
∃ n22 : Nat, qX10_goal_L15 p1 p2 p3  Q n22 x3 M1))))
def qJ6_bitCount_0f7a4 (p0 : Int) (M : Mem) (Q : Int → Mem → Prop) : Prop := ∀ x1 : Int, x1 = usI p0 1 → iR x1 → (
∀ x2 : Int, x2 = aI x1 1431655765 → iR x2 → (
∀ x3 : Int, x3 = aI (p0 - x2) 858993459 → iR x3 → (
∀ x4 : Int, x4 = usI (p0 - x2) 2 → iR x4 → (
∀ x5 : Int, x5 = aI x4 858993459 → iR x5 → (
∀ x6 : Int, x6 = usI (x3 + x5) 4 → iR x6 → (
∀ x7 : Int, x7 = aI ((x3 + x5) + x6) 252645135 → iR x7 → (
∀ x8 : Int, x8 = usI x7 8 → iR x8 → (
∀ x9 : Int, x9 = usI (x7 + x8) 16 → iR x9 → (
∀ x10 : Int, x10 = aI ((x7 + x8) + x9) 63 → iR x10 → (
Q x10 M))))))))))
def qX2_uses (k0 : Nat) (p1 : Int) (M : Mem) (Q : Int → Mem → Prop) : Prop := ∀ x1 : Int, x1 = M k0 5 → iR x1 → (
∀ x2 : Int, x2 = srI x1 p1 → iR x2 → (
∀ x3 : Int, x3 = aI x2 1 → iR x3 → (
(((¬ x3 = 1) → (Q 0 M)) ∧
((x3 = 1) → (Q 1 M))))))
def qX6_bitsOf_L5 (k0 : Nat) (k1 : Nat) (p2 : Int)  (Q : Int → Mem → Prop) : Nat → Int → Int → Mem → Prop
  | 0, _, _, _ => False
  | n + 1, v3, v4, M => ∀ x1 : Int, x1 = M k0 7 → iR x1 → (
iR v4 ∧ (
(((x1 ≤ v4) → (iR v3 ∧ (
Q v3 M))) ∧
((¬ (x1 ≤ v4)) → ((0 ≤ v4) ∧ (
(v4 < 8) ∧ (
∀ x7 : Int, x7 = M k1 v4 → iR x7 → (
(((¬ x7 = p2) → (∀ x9 : Int, x9 = oI v3 0 → iR x9 → (
qX6_bitsOf_L5 k0 k1 p2  Q n x9 (v4 + 1) M))) ∧
((x7 = p2) → (∀ x10 : Int, x10 = slI 1 v4 → iR x10 → (
∀ x11 : Int, x11 = oI v3 x10 → iR x11 → (
qX6_bitsOf_L5 k0 k1 p2  Q n x11 (v4 + 1) M)))))))))))))
def qX6_bitsOf (k0 : Nat) (k1 : Nat) (p2 : Int) (M : Mem) (Q : Int → Mem → Prop) : Prop := ∃ n12 : Nat, qX6_bitsOf_L5 k0 k1 p2  Q n12 0 0 M
def qX6_freeAhead_L15 (k0 : Nat) (p1 : Int) (p2 : Int)  (Q : Int → Mem → Prop) : Nat → Int → Int → Int → Mem → Prop
  | 0, _, _, _, _ => False
  | n + 1, v3, v4, v5, M => ∀ x4 : Int, x4 = M k0 6 → iR x4 → (
iR v5 ∧ (
(((x4 ≤ v5) → (iR v4 ∧ (
Q v4 M))) ∧
((¬ (x4 ≤ v5)) → ((0 ≤ v5) ∧ (
(v5 < 6) ∧ (
∀ x10 : Int, x10 = M (k0 + 1) v5 → iR x10 → (
iR ((x10 - v3) - 1) ∧ (
(((((x10 - v3) - 1) < 0) → (qX6_freeAhead_L15 k0 p1 p2  Q n v3 v4 (v5 + 1) M)) ∧
((¬ (((x10 - v3) - 1) < 0)) → (iR v4 ∧ (
(((v4 ≤ ((x10 - v3) - 1)) → (qX6_freeAhead_L15 k0 p1 p2  Q n v3 v4 (v5 + 1) M)) ∧
((¬ (v4 ≤ ((x10 - v3) - 1))) → (qX6_freeAhead_L15 k0 p1 p2  Q n v3 ((x10 - v3) - 1) (v5 + 1) M))))))))))))))))
def qX6_freeAhead (k0 : Nat) (p1 : Int) (p2 : Int) (M : Mem) (Q : Int → Mem → Prop) : Prop := (0 ≤ p1) ∧ (
(p1 < 6) ∧ (
∀ x3 : Int, x3 = M (k0 + 1) p1 → iR x3 → (
∃ n15 : Nat, qX6_freeAhead_L15 k0 p1 p2  Q n15 x3 (p2 - x3) 0 M)))
def qX8_isCorner (p1 : Int) (M : Mem) (Q : Int → Mem → Prop) : Prop := ∀ x1 : Int, x1 = M 158 2 → iR x1 → (
∀ x2 : Int, x2 = srI x1 p1 → iR x2 → (
∀ x3 : Int, x3 = aI x2 1 → iR x3 → (
(((¬ x3 = 1) → (Q 0 M)) ∧
((x3 = 1) → (Q 1 M))))))
def qX8_weatherAt (p1 : Int) (M : Mem) (Q : Int → Mem → Prop) : Prop := ∀ x1 : Int, x1 = M 158 3 → iR x1 → (
(((x1 < 1) → (Q 0 M)) ∧
((¬ (x1 < 1)) → ((((0 ≤ p1) → (∀ x4 : Int, x4 = M 158 3 → iR x4 → (
(¬ x4 = 0) ∧ (
∀ x6 : Int, x6 = rmI p1 x4 → iR x6 → (
(0 ≤ x6) ∧ (
(x6 < 20) ∧ (
∀ x9 : Int, x9 = M 159 x6 → iR x9 → (
Q x9 M)))))))) ∧
((¬ (0 ≤ p1)) → (Q 0 M)))))))
def qX2_observe_J128 (k0 : Nat) (k1 : Nat) (p3 : Int) (Q : Mem → Prop) (t0 : Int) (t1 : Int) (M : Mem) : Prop := (0 ≤ t1) ∧ (
(t1 < 7) ∧ (
iR t0 ∧ (
∀ M32 : Mem, M32 = up2 M (k0 + 4) t1 t0 → (
Q M32))))
def qX2_observe_J62 (k0 : Nat) (k1 : Nat) (p3 : Int) (Q : Mem → Prop) (t0 : Int) (t1 : Int) (M : Mem) : Prop := (0 ≤ t1) ∧ (
(t1 < 7) ∧ (
iR t0 ∧ (
∀ M19 : Mem, M19 = up2 M (k0 + 4) t1 t0 → (
∀ x20 : Int, x20 = M19 k1 10 → iR x20 → (
qX8_weatherAt x20 M19 (fun (x21 : Int) (M21 : Mem) => iR x21 → (
∀ M22 : Mem, M22 = up2 M21 (k0 + 4) 3 x21 → (
∀ x23 : Int, x23 = M22 k1 10 → iR x23 → (
∀ x24 : Int, x24 = rmI x23 10 → iR x24 → (
∀ M25 : Mem, M25 = up2 M22 (k0 + 4) 4 x24 → (
∀ M26 : Mem, M26 = up2 M25 (k0 + 4) 5 p3 → (
qX2_uses k0 6 M26 (fun (x27 : Int) (M27 : Mem) => iR x27 → (x27 = 0 ∨ x27 = 1) → (
(((x27 = 0) → (qX2_observe_J128 k0 k1 p3 Q 0 6 M27)) ∧
((¬ (x27 = 0)) → (qX6_bitsOf k1 (k1 + 5) p3 M27 (fun (x33 : Int) (M33 : Mem) => iR x33 → (
qJ6_bitCount_0f7a4 x33 M33 (fun (x34 : Int) (M34 : Mem) => iR x34 → (
qX2_observe_J128 k0 k1 p3 Q x34 6 M34)))))))))))))))))))))
def qX2_observe_J38 (k0 : Nat) (k1 : Nat) (p3 : Int) (Q : Mem → Prop) (t0 : Int) (t1 : Int) (M : Mem) : Prop := (0 ≤ t1) ∧ (
(t1 < 7) ∧ (
iR t0 ∧ (
∀ M10 : Mem, M10 = up2 M (k0 + 4) t1 t0 → (
(0 ≤ p3) ∧ (
(p3 < 6) ∧ (
∀ x13 : Int, x13 = M10 (k1 + 1) p3 → iR x13 → (
qX8_isCorner x13 M10 (fun (x14 : Int) (M14 : Mem) => iR x14 → (x14 = 0 ∨ x14 = 1) → (
(((x14 = 0) → (qX2_observe_J62 k0 k1 p3 Q 0 2 M14)) ∧
((¬ (x14 = 0)) → (qX2_observe_J62 k0 k1 p3 Q 1 2 M14))))))))))))
def qX2_observe (k0 : Nat) (k1 : Nat) (p3 : Int) (M : Mem) (Q : Mem → Prop) : Prop := (0 ≤ p3) ∧ (
(p3 < 6) ∧ (
∀ x3 : Int, x3 = M (k1 + 1) p3 → iR x3 → (
∀ M4 : Mem, M4 = up2 M (k0 + 4) 0 x3 → (
qX2_uses k0 1 M4 (fun (x5 : Int) (M5 : Mem) => iR x5 → (x5 = 0 ∨ x5 = 1) → (
(((x5 = 0) → (qX2_observe_J38 k0 k1 p3 Q 0 1 M5)) ∧
((¬ (x5 = 0)) → (qX8_gate  M5 (fun (x35 : Int) (M35 : Mem) => iR x35 → (
qX6_freeAhead k1 p3 x35 M35 (fun (x36 : Int) (M36 : Mem) => iR x36 → (
qX2_observe_J38 k0 k1 p3 Q x36 1 M36)))))))))))))
def qX2_join (p0 : Int) (p1 : Int) (p2 : Int) (M : Mem) (Q : Int → Mem → Prop) : Prop := ((p0 = 42 → (∀ x2 : Int, x2 = w32 (p1 * p2) → iR x2 → (
Q x2 M))) ∧
(p0 = 43 → (∀ x3 : Int, x3 = w32 (p1 + p2) → iR x3 → (
Q x3 M))) ∧
(p0 = 45 → (∀ x4 : Int, x4 = w32 (p1 - p2) → iR x4 → (
Q x4 M))) ∧
(p0 = 47 → ((((¬ p2 = 0) → ((¬ p2 = 0) ∧ (
∀ x7 : Int, x7 = dvI p1 p2 → iR x7 → (
Q x7 M)))) ∧
((p2 = 0) → (Q 0 M))))) ∧
(p0 = 60 → ((((p2 ≤ p1) → (Q 0 M)) ∧
((¬ (p2 ≤ p1)) → (Q 1 M))))) ∧
(p0 = 62 → ((((p1 ≤ p2) → (Q 0 M)) ∧
((¬ (p1 ≤ p2)) → (Q 1 M))))) ∧
((¬ p0 = 42 ∧ ¬ p0 = 43 ∧ ¬ p0 = 45 ∧ ¬ p0 = 47 ∧ ¬ p0 = 60 ∧ ¬ p0 = 62) → ((((¬ p1 = p2) → (Q 0 M)) ∧
((p1 = p2) → (Q 1 M))))))
def qX2_pace_J105 (k0 : Nat) (R : Int → Int → Mem → Prop) (X145 : Mem → Prop) (Q : Int → Mem → Prop) (v1 : Int) (v2 : Int) (v3 : Int) (M : Mem) : Prop := iR v1 ∧ (
(((v1 ≤ 1) → (R v1 (v2 + 1) M)) ∧
((¬ (v1 ≤ 1)) → (∀ x12 : Int, x12 = w32 ((v1 + (-1)) - 1) → iR x12 → (
∀ x13 : Int, x13 = w32 ((v1 + (-1)) - 1) → iR x13 → (
(0 ≤ x13) ∧ (
(x13 < 40) ∧ (
∀ x16 : Int, x16 = M (k0 + 3) x13 → iR x16 → (
(0 ≤ (v1 + (-1))) ∧ (
((v1 + (-1)) < 40) ∧ (
∀ x19 : Int, x19 = M (k0 + 3) (v1 + (-1)) → iR x19 → (
iR v3 ∧ (
qX2_join v3 x16 x19 M (fun (x21 : Int) (M21 : Mem) => iR x21 → (
(0 ≤ x12) ∧ (
(x12 < 40) ∧ (
∀ M24 : Mem, M24 = up2 M21 (k0 + 3) x12 x21 → (
R (v1 + (-1)) (v2 + 1) M24))))))))))))))))))
def qX2_pace_L4 (k0 : Nat) (X145 : Mem → Prop) (Q : Int → Mem → Prop) : Nat → Int → Int → Mem → Prop
  | 0, _, _, _ => False
  | n + 1, v1, v2, M => ∀ x1 : Int, x1 = M k0 4 → iR x1 → (
iR v2 ∧ (
(((x1 ≤ v2) → (X145  M)) ∧
((¬ (x1 ≤ v2)) → ((0 ≤ v2) ∧ (
(v2 < 40) ∧ (
∀ x6 : Int, x6 = M (k0 + 1) v2 → iR x6 → (
(((¬ x6 = 300) → ((((¬ x6 = 301) → ((((¬ x6 = 302) → (qX2_pace_J105 k0 (qX2_pace_L4 k0 X145 Q n) X145 Q v1 v2 x6 M)) ∧
((x6 = 302) → (iR v1 ∧ (
(((v1 ≤ 0) → (qX2_pace_J105 k0 (qX2_pace_L4 k0 X145 Q n) X145 Q v1 v2 x6 M)) ∧
((¬ (v1 ≤ 0)) → (∀ x27 : Int, x27 = w32 (v1 - 1) → iR x27 → (
∀ x28 : Int, x28 = w32 (v1 - 1) → iR x28 → (
(0 ≤ x28) ∧ (
(x28 < 40) ∧ (
∀ x31 : Int, x31 = M (k0 + 3) x28 → iR x31 → (
∀ x32 : Int, x32 = w32 (-x31) → iR x32 → (
(0 ≤ x27) ∧ (
(x27 < 40) ∧ (
∀ M35 : Mem, M35 = up2 M (k0 + 3) x27 x32 → (
qX2_pace_L4 k0 X145 Q n v1 (v2 + 1) M35)))))))))))))))))) ∧
((x6 = 301) → (∀ x36 : Int, x36 = M (k0 + 2) v2 → iR x36 → (
(0 ≤ x36) ∧ (
(x36 < 7) ∧ (
∀ x39 : Int, x39 = M (k0 + 4) x36 → iR x39 → (
(0 ≤ v1) ∧ (
(v1 < 40) ∧ (
∀ M42 : Mem, M42 = up2 M (k0 + 3) v1 x39 → (
qX2_pace_L4 k0 X145 Q n (v1 + 1) (v2 + 1) M42)))))))))))) ∧
((x6 = 300) → (∀ x43 : Int, x43 = M (k0 + 2) v2 → iR x43 → (
(0 ≤ v1) ∧ (
(v1 < 40) ∧ (
∀ M46 : Mem, M46 = up2 M (k0 + 3) v1 x43 → (
qX2_pace_L4 k0 X145 Q n (v1 + 1) (v2 + 1) M46)))))))))))))))
def qX2_pace (k0 : Nat) (M : Mem) (Q : Int → Mem → Prop) : Prop := ∃ n47 : Nat, qX2_pace_L4 k0 (fun  (M : Mem) => ∀ x48 : Int, x48 = M (k0 + 3) 0 → iR x48 → (
∀ x49 : Int, x49 = min x48 3 → iR x49 → (
∀ x50 : Int, x50 = max 0 x49 → iR x50 → (
Q x50 M)))) Q n47 0 0 M
def qX6_arrive (k0 : Nat) (p1 : Int) (M : Mem) (Q : Mem → Prop) : Prop := ∀ x1 : Int, x1 = M k0 8 → iR x1 → (
∀ x2 : Int, x2 = w32 (x1 + 1) → iR x2 → (
∀ M3 : Mem, M3 = up2 M k0 8 x2 → (
∀ x4 : Int, x4 = M3 k0 8 → iR x4 → (
(0 ≤ p1) ∧ (
(p1 < 6) ∧ (
∀ M7 : Mem, M7 = up2 M3 (k0 + 2) p1 x4 → (
∀ M8 : Mem, M8 = up2 M7 (k0 + 1) p1 (-1) → (
Q M8))))))))
def qX6_takenCells_L4 (k0 : Nat)  (Q : Int → Mem → Prop) : Nat → Int → Int → Mem → Prop
  | 0, _, _, _ => False
  | n + 1, v1, v2, M => ∀ x1 : Int, x1 = M k0 6 → iR x1 → (
iR v2 ∧ (
(((x1 ≤ v2) → (iR v1 ∧ (
Q v1 M))) ∧
((¬ (x1 ≤ v2)) → ((0 ≤ v2) ∧ (
(v2 < 6) ∧ (
∀ x7 : Int, x7 = M (k0 + 1) v2 → iR x7 → (
(((0 ≤ x7) → (∀ x9 : Int, x9 = M (k0 + 1) v2 → iR x9 → (
∀ x10 : Int, x10 = slI 1 x9 → iR x10 → (
∀ x11 : Int, x11 = oI v1 x10 → iR x11 → (
qX6_takenCells_L4 k0  Q n x11 (v2 + 1) M))))) ∧
((¬ (0 ≤ x7)) → (∀ x12 : Int, x12 = oI v1 0 → iR x12 → (
qX6_takenCells_L4 k0  Q n x12 (v2 + 1) M))))))))))))
def qX6_takenCells (k0 : Nat) (M : Mem) (Q : Int → Mem → Prop) : Prop := ∃ n13 : Nat, qX6_takenCells_L4 k0  Q n13 0 0 M
def qX10_moveHearse (k1 : Nat) (k2 : Nat) (p3 : Int) (M : Mem) (Q : Mem → Prop) : Prop := (0 ≤ p3) ∧ (
(p3 < 6) ∧ (
∀ x3 : Int, x3 = M (k1 + 1) p3 → iR x3 → (
qX2_observe k2 k1 p3 M (fun (M4 : Mem) =>  (
qX6_takenCells k1 M4 (fun (x5 : Int) (M5 : Mem) => iR x5 → (
qX2_pace k2 M5 (fun (x6 : Int) (M6 : Mem) => iR x6 → (
qX10_goal x5 x3 x6 M6 (fun (x7 : Int) (M7 : Mem) => iR x7 → (
(((¬ x7 = (-1)) → (∀ M9 : Mem, M9 = up2 M7 160 5 1 → (
qX8_gate  M9 (fun (x10 : Int) (M10 : Mem) => iR x10 → (
(((¬ x7 = x10) → (∀ M12 : Mem, M12 = up2 M10 (k1 + 1) p3 x7 → (
Q M12))) ∧
((x7 = x10) → (qX6_arrive k1 p3 M10 (fun (M13 : Mem) =>  (
Q M13)))))))))) ∧
((x7 = (-1)) → (∀ x14 : Int, x14 = M7 160 3 → iR x14 → (
∀ x15 : Int, x15 = w32 (x14 + 1) → iR x15 → (
∀ M16 : Mem, M16 = up2 M7 160 3 x15 → (
(0 ≤ x3) ∧ (
(x3 < 30) ∧ (
∀ x19 : Int, x19 = M16 161 x3 → iR x19 → (
∀ x20 : Int, x20 = w32 (x19 + 1) → iR x20 → (
∀ M21 : Mem, M21 = up2 M16 161 x3 x20 → (
Q M21))))))))))))))))))))))
def qX6_endAt (k0 : Nat) (p1 : Int) (p2 : Int) (M : Mem) (Q : Mem → Prop) : Prop := (0 ≤ p1) ∧ (
(p1 < 8) ∧ (
∀ M3 : Mem, M3 = up2 M (k0 + 6) p1 p2 → (
∀ x4 : Int, x4 = M3 k0 9 → iR x4 → (
∀ x5 : Int, x5 = w32 (x4 + 1) → iR x5 → (
∀ M6 : Mem, M6 = up2 M3 k0 9 x5 → (
Q M6))))))
def qX6_hasArrived (k0 : Nat) (p1 : Int) (M : Mem) (Q : Int → Mem → Prop) : Prop := (0 ≤ p1) ∧ (
(p1 < 6) ∧ (
∀ x3 : Int, x3 = M (k0 + 2) p1 → iR x3 → (
(((x3 ≤ 0) → (Q 0 M)) ∧
((¬ (x3 ≤ 0)) → (Q 1 M))))))
def qX6_nearestTo_J59 (k0 : Nat) (p1 : Int) (R : Int → Int → Int → Mem → Prop)  (Q : Int → Mem → Prop) (v2 : Int) (v3 : Int) (v4 : Int) (v5 : Int) (t0 : Int) (M : Mem) : Prop := iR t0 ∧ (
(((t0 = 0) → (R v2 v3 (v4 + 1) M)) ∧
((¬ (t0 = 0)) → ((0 ≤ v4) ∧ (
(v4 < 6) ∧ (
∀ x17 : Int, x17 = M (k0 + 1) v4 → iR x17 → (
(((x17 < 0) → (R v2 v3 (v4 + 1) M)) ∧
((¬ (x17 < 0)) → (R v4 v5 (v4 + 1) M))))))))))
def qX6_nearestTo_J54 (k0 : Nat) (p1 : Int) (R : Int → Int → Int → Mem → Prop)  (Q : Int → Mem → Prop) (v2 : Int) (v3 : Int) (v4 : Int) (v5 : Int) (M : Mem) : Prop := qX6_nearestTo_J59 k0 p1 (R)  Q v2 v3 v4 v5 1 M
def qX6_nearestTo_J58 (k0 : Nat) (p1 : Int) (R : Int → Int → Int → Mem → Prop)  (Q : Int → Mem → Prop) (v2 : Int) (v3 : Int) (v4 : Int) (v5 : Int) (M : Mem) : Prop := qX6_nearestTo_J59 k0 p1 (R)  Q v2 v3 v4 v5 0 M
def qX6_nearestTo_L8 (k0 : Nat) (p1 : Int)  (Q : Int → Mem → Prop) : Nat → Int → Int → Int → Mem → Prop
  | 0, _, _, _, _ => False
  | n + 1, v2, v3, v4, M => ∀ x1 : Int, x1 = M k0 6 → iR x1 → (
iR v4 ∧ (
(((x1 ≤ v4) → (iR v2 ∧ (
Q v2 M))) ∧
((¬ (x1 ≤ v4)) → ((0 ≤ v4) ∧ (
(v4 < 6) ∧ (
∀ x7 : Int, x7 = M (k0 + 1) v4 → iR x7 → (
iR (x7 - p1) ∧ (
∀ x9 : Int, (0 ≤ (x7 - p1) → x9 = (x7 - p1)) → ((x7 - p1) < 0 → x9 = -(x7 - p1)) → (
iR x9 ∧ (
iR v3 ∧ (
(((x9 < v3) → (qX6_nearestTo_J54 k0 p1 (qX6_nearestTo_L8 k0 p1  Q n)  Q v2 v3 v4 x9 M)) ∧
((¬ (x9 < v3)) → ((((¬ x9 = v3) → (qX6_nearestTo_J58 k0 p1 (qX6_nearestTo_L8 k0 p1  Q n)  Q v2 v3 v4 x9 M)) ∧
((x9 = v3) → (∀ x20 : Int, x20 = M (k0 + 1) v4 → iR x20 → (
(((x20 ≤ p1) → (qX6_nearestTo_J58 k0 p1 (qX6_nearestTo_L8 k0 p1  Q n)  Q v2 v3 v4 x9 M)) ∧
((¬ (x20 ≤ p1)) → (qX6_nearestTo_J54 k0 p1 (qX6_nearestTo_L8 k0 p1  Q n)  Q v2 v3 v4 x9 M))))))))))))))))))))))
def qX6_nearestTo (k0 : Nat) (p1 : Int) (M : Mem) (Q : Int → Mem → Prop) : Prop := ∃ n22 : Nat, qX6_nearestTo_L8 k0 p1  Q n22 (-1) 30 0 M
def qX10_moveMourner_J177 (k1 : Nat) (p2 : Int) (Q : Mem → Prop) (t0 : Int) (M : Mem) : Prop := iR t0 ∧ (
(t0 = 0 ∨ t0 = 1) ∧ (
∀ M37 : Mem, M37 = up2 M 160 5 t0 → (
Q M37)))
def qX10_moveMourner_J172 (k1 : Nat) (p2 : Int) (Q : Mem → Prop)  (M : Mem) : Prop := qX10_moveMourner_J177 k1 p2 Q 1 M
def qX10_moveMourner_J139 (k1 : Nat) (p2 : Int) (Q : Mem → Prop) (v4 : Int) (v6 : Int) (M : Mem) : Prop := iR v6 ∧ (
∀ x27 : Int, x27 = min v6 2 → iR x27 → (
∀ x28 : Int, x28 = max (-2) x27 → iR x28 → (
(0 ≤ p2) ∧ (
(p2 < 8) ∧ (
iR (v4 + x28) ∧ (
∀ M32 : Mem, M32 = up2 M (k1 + 3) p2 (v4 + x28) → (
∀ x33 : Int, x33 = M32 160 5 → iR x33 → (
(((¬ x33 = 0) → (qX10_moveMourner_J172 k1 p2 Q  M32)) ∧
((x33 = 0) → ((((v6 = 0) → (qX10_moveMourner_J177 k1 p2 Q 0 M32)) ∧
((¬ (v6 = 0)) → (qX10_moveMourner_J172 k1 p2 Q  M32))))))))))))))
def qX10_moveMourner_J92 (k1 : Nat) (p2 : Int) (Q : Mem → Prop) (v4 : Int) (v5 : Int) (v6 : Int) (M : Mem) : Prop := (0 ≤ p2) ∧ (
(p2 < 8) ∧ (
iR v5 ∧ (
∀ M18 : Mem, M18 = up2 M (k1 + 5) p2 v5 → (
∀ x19 : Int, x19 = M18 160 4 → iR x19 → (
∀ x20 : Int, x20 = w32 (x19 + 1) → iR x20 → (
∀ M21 : Mem, M21 = up2 M18 160 4 x20 → (
∀ x22 : Int, x22 = M21 162 p2 → iR x22 → (
∀ x23 : Int, x23 = w32 (x22 + 1) → iR x23 → (
∀ M24 : Mem, M24 = up2 M21 162 p2 x23 → (
∀ M25 : Mem, M25 = up2 M24 160 5 1 → (
qX10_moveMourner_J139 k1 p2 Q v4 v6 M25)))))))))))
def qX10_moveMourner_J32 (k1 : Nat) (p2 : Int) (Q : Mem → Prop) (v3 : Int) (M : Mem) : Prop := (0 ≤ p2) ∧ (
(p2 < 8) ∧ (
∀ x7 : Int, x7 = M (k1 + 3) p2 → iR x7 → (
qX6_nearestTo k1 x7 M (fun (x8 : Int) (M8 : Mem) => iR x8 → (
(((¬ x8 = (-1)) → ((0 ≤ x8) ∧ (
(x8 < 6) ∧ (
∀ x12 : Int, x12 = M8 (k1 + 1) x8 → iR x12 → (
iR v3 ∧ (
(((v3 = (-1)) → (qX10_moveMourner_J92 k1 p2 Q x7 x8 (x12 - x7) M8)) ∧
((¬ (v3 = (-1))) → (iR (x12 - x7) ∧ (
∀ x40 : Int, (0 ≤ (x12 - x7) → x40 = (x12 - x7)) → ((x12 - x7) < 0 → x40 = -(x12 - x7)) → (
(0 ≤ v3) ∧ (
(v3 < 6) ∧ (
∀ x43 : Int, x43 = M8 (k1 + 1) v3 → iR x43 → (
iR (x43 - x7) ∧ (
∀ x45 : Int, (0 ≤ (x43 - x7) → x45 = (x43 - x7)) → ((x43 - x7) < 0 → x45 = -(x43 - x7)) → (
iR x40 ∧ (
iR x45 ∧ (
(((x45 ≤ x40) → (∀ x49 : Int, x49 = M8 (k1 + 1) v3 → iR x49 → (
qX10_moveMourner_J139 k1 p2 Q x7 (x49 - x7) M8))) ∧
((¬ (x45 ≤ x40)) → (qX10_moveMourner_J92 k1 p2 Q x7 x8 (x12 - x7) M8))))))))))))))))))))) ∧
((x8 = (-1)) → (Q M8))))))))
def qX10_moveMourner (k1 : Nat) (p2 : Int) (M : Mem) (Q : Mem → Prop) : Prop := (0 ≤ p2) ∧ (
(p2 < 8) ∧ (
∀ x3 : Int, x3 = M (k1 + 5) p2 → iR x3 → (
(((x3 = (-1)) → (qX10_moveMourner_J32 k1 p2 Q x3 M)) ∧
((¬ (x3 = (-1))) → (qX6_hasArrived k1 x3 M (fun (x50 : Int) (M50 : Mem) => iR x50 → (x50 = 0 ∨ x50 = 1) → (
(((x50 = 0) → (qX10_moveMourner_J32 k1 p2 Q x3 M50)) ∧
((¬ (x50 = 0)) → (qX6_endAt k1 p2 x3 M50 (fun (M52 : Mem) =>  (
∀ M53 : Mem, M53 = up2 M52 160 5 1 → (
Q M53))))))))))))))
def qX6_foremostBelow_L7 (k0 : Nat) (p1 : Int)  (Q : Int → Mem → Prop) : Nat → Int → Int → Int → Mem → Prop
  | 0, _, _, _, _ => False
  | n + 1, v2, v3, v4, M => ∀ x1 : Int, x1 = M k0 6 → iR x1 → (
iR v4 ∧ (
(((x1 ≤ v4) → (iR v2 ∧ (
Q v2 M))) ∧
((¬ (x1 ≤ v4)) → ((0 ≤ v4) ∧ (
(v4 < 6) ∧ (
∀ x7 : Int, x7 = M (k0 + 1) v4 → iR x7 → (
(((p1 ≤ x7) → (qX6_foremostBelow_L7 k0 p1  Q n v2 v3 (v4 + 1) M)) ∧
((¬ (p1 ≤ x7)) → (∀ x9 : Int, x9 = M (k0 + 1) v4 → iR x9 → (
iR v3 ∧ (
(((x9 ≤ v3) → (qX6_foremostBelow_L7 k0 p1  Q n v2 v3 (v4 + 1) M)) ∧
((¬ (x9 ≤ v3)) → (∀ x12 : Int, x12 = M (k0 + 1) v4 → iR x12 → (
qX6_foremostBelow_L7 k0 p1  Q n v4 x12 (v4 + 1) M)))))))))))))))))
def qX6_foremostBelow (k0 : Nat) (p1 : Int) (M : Mem) (Q : Int → Mem → Prop) : Prop := ∃ n13 : Nat, qX6_foremostBelow_L7 k0 p1  Q n13 (-1) (-1) 0 M
def qX10_advance_L16 (k1 : Nat) (k2 : Nat) (X36 : Mem → Prop) (X61 : Mem → Prop) (Q : Mem → Prop) : Nat → Int → Int → Mem → Prop
  | 0, _, _, _ => False
  | n + 1, v3, v4, M => iR v4 ∧ (
(((6 ≤ v4) → (X61  M)) ∧
((¬ (6 ≤ v4)) → (iR v3 ∧ (
qX6_foremostBelow k1 v3 M (fun (x6 : Int) (M6 : Mem) => iR x6 → (
(((¬ x6 = (-1)) → ((0 ≤ x6) ∧ (
(x6 < 6) ∧ (
∀ x10 : Int, x10 = M6 (k1 + 1) x6 → iR x10 → (
qX10_moveHearse k1 k2 x6 M6 (fun (M11 : Mem) =>  (
qX10_advance_L16 k1 k2 X36 X61 Q n x10 (v4 + 1) M11))))))) ∧
((x6 = (-1)) → (X36  M6))))))))))
def qX10_advance_L64 (k1 : Nat) (k2 : Nat)  (Q : Mem → Prop) : Nat → Int → Mem → Prop
  | 0, _, _ => False
  | n + 1, v4, M => ∀ x13 : Int, x13 = M k1 7 → iR x13 → (
iR v4 ∧ (
(((x13 ≤ v4) → (∀ x16 : Int, x16 = M k1 10 → iR x16 → (
∀ x17 : Int, x17 = w32 (x16 + 1) → iR x17 → (
∀ M18 : Mem, M18 = up2 M k1 10 x17 → (
Q M18))))) ∧
((¬ (x13 ≤ v4)) → (qX6_hasEnded k1 v4 M (fun (x19 : Int) (M19 : Mem) => iR x19 → (x19 = 0 ∨ x19 = 1) → (
(((¬ x19 = 0) → (qX10_advance_L64 k1 k2  Q n (v4 + 1) M19)) ∧
((x19 = 0) → (qX10_moveMourner k1 v4 M19 (fun (M21 : Mem) =>  (
qX10_advance_L64 k1 k2  Q n (v4 + 1) M21))))))))))))
def qX10_advance (k1 : Nat) (k2 : Nat) (M : Mem) (Q : Mem → Prop) : Prop := ∀ M1 : Mem, M1 = up2 M 160 5 0 → (
∀ x2 : Int, x2 = M1 158 1 → iR x2 → (
∃ n12 : Nat, qX10_advance_L16 k1 k2 (fun  (M : Mem) => ∃ n22 : Nat, qX10_advance_L64 k1 k2  Q n22 0 M) (fun  (M : Mem) => ∃ n23 : Nat, qX10_advance_L64 k1 k2  Q n23 0 M) Q n12 x2 0 M1))
def qX10_forgetTallies_L12  (X31 : Mem → Prop) (Q : Mem → Prop) : Nat → Int → Mem → Prop
  | 0, _, _ => False
  | n + 1, v1, M => iR v1 ∧ (
(((30 ≤ v1) → (X31  M)) ∧
((¬ (30 ≤ v1)) → ((0 ≤ v1) ∧ (
(v1 < 30) ∧ (
∀ M7 : Mem, M7 = up2 M 161 v1 0 → (
qX10_forgetTallies_L12  X31 Q n (v1 + 1) M7)))))))
def qX10_forgetTallies_L33   (Q : Mem → Prop) : Nat → Int → Mem → Prop
  | 0, _, _ => False
  | n + 1, v1, M => iR v1 ∧ (
(((8 ≤ v1) → (Q M)) ∧
((¬ (8 ≤ v1)) → ((0 ≤ v1) ∧ (
(v1 < 8) ∧ (
∀ M13 : Mem, M13 = up2 M 162 v1 0 → (
qX10_forgetTallies_L33   Q n (v1 + 1) M13)))))))
def qX10_forgetTallies  (M : Mem) (Q : Mem → Prop) : Prop := ∀ M1 : Mem, M1 = up2 M 160 3 0 → (
∀ M2 : Mem, M2 = up2 M1 160 4 0 → (
∃ n8 : Nat, qX10_forgetTallies_L12  (fun  (M : Mem) => ∃ n14 : Nat, qX10_forgetTallies_L33   Q n14 0 M) Q n8 0 M2))
def qX10_walk_L7 (k1 : Nat) (k2 : Nat) (p3 : Int)  (Q : Mem → Prop) : Nat → Int → Mem → Prop
  | 0, _, _ => False
  | n + 1, v4, M => iR v4 ∧ (
(((p3 ≤ v4) → (Q M)) ∧
((¬ (p3 ≤ v4)) → (qX10_advance k1 k2 M (fun (M4 : Mem) =>  (
qX10_walk_L7 k1 k2 p3  Q n (v4 + 1) M4))))))
def qX10_walk (k1 : Nat) (k2 : Nat) (p3 : Int) (M : Mem) (Q : Mem → Prop) : Prop := qX10_forgetTallies  M (fun (M1 : Mem) =>  (
∃ n5 : Nat, qX10_walk_L7 k1 k2 p3  Q n5 0 M1))
def qX11_isDone (p0 : Int) (M : Mem) (Q : Int → Mem → Prop) : Prop := (((0 ≤ p0) → (Q 1 M)) ∧
((¬ (0 ≤ p0)) → ((((¬ p0 = (-4)) → (Q 0 M)) ∧
((p0 = (-4)) → (Q 1 M))))))
def qX1_add (k1 : Nat) (M : Mem) (Q : Mem → Prop) : Prop := ∀ x1 : Int, x1 = M 163 1 → iR x1 → (
∀ x2 : Int, x2 = M 163 2 → iR x2 → (
∀ x3 : Int, x3 = rmI (x1 + x2) 15 → iR x3 → (
(0 ≤ x3) ∧ (
(x3 < 15) ∧ (
qX6_copyFrom (50 + 7 * x3.toNat) k1 M (fun (M6 : Mem) =>  (
∀ x7 : Int, x7 = M6 163 2 → iR x7 → (
(((15 ≤ x7) → (∀ x9 : Int, x9 = M6 163 1 → iR x9 → (
∀ x10 : Int, x10 = rmI (x9 + 1) 15 → iR x10 → (
∀ M11 : Mem, M11 = up2 M6 163 1 x10 → (
Q M11))))) ∧
((¬ (15 ≤ x7)) → (∀ x12 : Int, x12 = M6 163 2 → iR x12 → (
iR (x12 + 1) ∧ (
∀ M14 : Mem, M14 = up2 M6 163 2 (x12 + 1) → (
Q M14))))))))))))))
def qX11_undoable (p1 : Int) (M : Mem) (Q : Int → Mem → Prop) : Prop := qX11_isDone p1 M (fun (x1 : Int) (M1 : Mem) => iR x1 → (x1 = 0 ∨ x1 = 1) → (
(((x1 = 0) → (Q p1 M1)) ∧
((¬ (x1 = 0)) → (qX1_add 22 M1 (fun (M3 : Mem) =>  (
Q p1 M3)))))))
def qX4_add (p1 : Int) (M : Mem) (Q : Mem → Prop) : Prop := ∀ x1 : Int, x1 = M 167 1 → iR x1 → (
(((8 ≤ x1) → (Q M)) ∧
((¬ (8 ≤ x1)) → (∀ x3 : Int, x3 = M 167 1 → iR x3 → (
(0 ≤ x3) ∧ (
(x3 < 8) ∧ (
∀ M6 : Mem, M6 = up2 M 0 x3 p1 → (
∀ x7 : Int, x7 = M6 167 1 → iR x7 → (
iR (x7 + 1) ∧ (
∀ M9 : Mem, M9 = up2 M6 167 1 (x7 + 1) → (
Q M9)))))))))))
def qX4_clear  (M : Mem) (Q : Mem → Prop) : Prop := ∀ M1 : Mem, M1 = up2 M 167 1 0 → (
Q M1)
def qX4_tellTwo (p1 : Int) (p3 : Int) (M : Mem) (Q : Mem → Prop) : Prop := qX4_clear  M (fun (M1 : Mem) =>  (
qX4_add p1 M1 (fun (M2 : Mem) =>  (
qX4_add p3 M2 (fun (M3 : Mem) =>  (
Q M3))))))
def qX11_steps (p1 : Int) (M : Mem) (Q : Int → Mem → Prop) : Prop := (((p1 < 0) → (Q (-1) M)) ∧
((¬ (p1 < 0)) → ((((p1 ≤ 60) → (qX6_copyFrom 22 1 M (fun (M3 : Mem) =>  (
isL (M3 155 16).toNat ∧ (
qX10_walk 1 (M3 155 16).toNat p1 M3 (fun (M5 : Mem) =>  (
∀ x6 : Int, x6 = M5 160 3 → iR x6 → (
∀ x7 : Int, x7 = M5 160 4 → iR x7 → (
qX4_tellTwo x6 x7 M5 (fun (M8 : Mem) =>  (
∀ x9 : Int, x9 = M8 1 8 → iR x9 → (
qX11_undoable x9 M8 (fun (x10 : Int) (M10 : Mem) => iR x10 → (
Q x10 M10)))))))))))))) ∧
((¬ (p1 ≤ 60)) → (Q (-1) M))))))
def qX6_isMourner (k0 : Nat) (p1 : Int) (M : Mem) (Q : Int → Mem → Prop) : Prop := (((p1 < 0) → (Q 0 M)) ∧
((¬ (p1 < 0)) → (∀ x2 : Int, x2 = M k0 7 → iR x2 → (
(((x2 ≤ p1) → (Q 0 M)) ∧
((¬ (x2 ≤ p1)) → (Q 1 M)))))))
def qX6_turn (k0 : Nat) (p1 : Int) (M : Mem) (Q : Int → Mem → Prop) : Prop := qX6_isMourner k0 p1 M (fun (x1 : Int) (M1 : Mem) => iR x1 → (x1 = 0 ∨ x1 = 1) → (
(((¬ x1 = 0) → (qX6_hasEnded k0 p1 M1 (fun (x3 : Int) (M3 : Mem) => iR x3 → (x3 = 0 ∨ x3 = 1) → (
(((x3 = 0) → ((0 ≤ p1) ∧ (
(p1 < 8) ∧ (
∀ x7 : Int, x7 = M3 (k0 + 5) p1 → iR x7 → (
∀ x8 : Int, x8 = M3 (k0 + 4) p1 → iR x8 → (
qX6_hasArrived k0 x8 M3 (fun (x9 : Int) (M9 : Mem) => iR x9 → (x9 = 0 ∨ x9 = 1) → (
(((¬ x9 = 0) → (Q (-3) M9)) ∧
((x9 = 0) → (∀ x11 : Int, x11 = M9 (k0 + 4) p1 → iR x11 → (
(((¬ x7 = x11) → (∀ x13 : Int, x13 = M9 (k0 + 4) p1 → iR x13 → (
∀ M14 : Mem, M14 = up2 M9 (k0 + 5) p1 x13 → (
(((¬ x7 = (-1)) → (Q x7 M14)) ∧
((x7 = (-1)) → (Q (-4) M14))))))) ∧
((x7 = x11) → (Q (-3) M9))))))))))))))) ∧
((¬ (x3 = 0)) → (Q (-2) M3))))))) ∧
((x1 = 0) → (Q (-1) M1)))))
def qX11_turnsTo (p1 : Int) (M : Mem) (Q : Int → Mem → Prop) : Prop := qX6_copyFrom 22 1 M (fun (M1 : Mem) =>  (
qX6_turn 1 p1 M1 (fun (x2 : Int) (M2 : Mem) => iR x2 → (
qX11_undoable x2 M2 (fun (x3 : Int) (M3 : Mem) => iR x3 → (
Q x3 M3))))))
def qX6_shove (k0 : Nat) (p1 : Int) (p2 : Int) (M : Mem) (Q : Int → Mem → Prop) : Prop := qX6_isMourner k0 p1 M (fun (x1 : Int) (M1 : Mem) => iR x1 → (x1 = 0 ∨ x1 = 1) → (
(((x1 = 0) → (Q (-1) M1)) ∧
((¬ (x1 = 0)) → ((((p2 < (-9)) → (Q (-1) M1)) ∧
((¬ (p2 < (-9))) → ((((9 < p2) → (Q (-1) M1)) ∧
((¬ (9 < p2)) → ((((¬ p2 = 0) → (qX6_hasEnded k0 p1 M1 (fun (x6 : Int) (M6 : Mem) => iR x6 → (x6 = 0 ∨ x6 = 1) → (
(((x6 = 0) → ((0 ≤ p1) ∧ (
(p1 < 8) ∧ (
∀ x10 : Int, x10 = M6 (k0 + 3) p1 → iR x10 → (
iR (x10 + p2) ∧ (
qX8_putOnStreet (x10 + p2) M6 (fun (x12 : Int) (M12 : Mem) => iR x12 → (
∀ M13 : Mem, M13 = up2 M12 (k0 + 3) p1 x12 → (
∀ x14 : Int, x14 = M13 (k0 + 3) p1 → iR x14 → (
Q x14 M13)))))))))) ∧
((¬ (x6 = 0)) → (Q (-2) M6))))))) ∧
((p2 = 0) → (Q (-1) M1))))))))))))))
def qX11_pushes (p1 : Int) (p2 : Int) (M : Mem) (Q : Int → Mem → Prop) : Prop := qX6_copyFrom 22 1 M (fun (M1 : Mem) =>  (
qX6_shove 1 p1 p2 M1 (fun (x2 : Int) (M2 : Mem) => iR x2 → (
qX11_undoable x2 M2 (fun (x3 : Int) (M3 : Mem) => iR x3 → (
Q x3 M3))))))
def qX6_isHearse (k0 : Nat) (p1 : Int) (M : Mem) (Q : Int → Mem → Prop) : Prop := (((p1 < 0) → (Q 0 M)) ∧
((¬ (p1 < 0)) → (∀ x2 : Int, x2 = M k0 6 → iR x2 → (
(((x2 ≤ p1) → (Q 0 M)) ∧
((¬ (x2 ≤ p1)) → (Q 1 M)))))))
def qX6_exchange (k0 : Nat) (p1 : Int) (p2 : Int) (M : Mem) (Q : Int → Mem → Prop) : Prop := qX6_isHearse k0 p1 M (fun (x1 : Int) (M1 : Mem) => iR x1 → (x1 = 0 ∨ x1 = 1) → (
(((x1 = 0) → (Q (-1) M1)) ∧
((¬ (x1 = 0)) → (qX6_isHearse k0 p2 M1 (fun (x3 : Int) (M3 : Mem) => iR x3 → (x3 = 0 ∨ x3 = 1) → (
(((x3 = 0) → (Q (-1) M3)) ∧
((¬ (x3 = 0)) → ((((¬ p1 = p2) → (qX6_hasArrived k0 p1 M3 (fun (x6 : Int) (M6 : Mem) => iR x6 → (x6 = 0 ∨ x6 = 1) → (
(((¬ x6 = 0) → (Q (-2) M6)) ∧
((x6 = 0) → (qX6_hasArrived k0 p2 M6 (fun (x8 : Int) (M8 : Mem) => iR x8 → (x8 = 0 ∨ x8 = 1) → (
(((x8 = 0) → ((0 ≤ p1) ∧ (
(p1 < 6) ∧ (
∀ x12 : Int, x12 = M8 (k0 + 1) p1 → iR x12 → (
(0 ≤ p2) ∧ (
(p2 < 6) ∧ (
∀ x15 : Int, x15 = M8 (k0 + 1) p2 → iR x15 → (
∀ M16 : Mem, M16 = up2 M8 (k0 + 1) p1 x15 → (
∀ M17 : Mem, M17 = up2 M16 (k0 + 1) p2 x12 → (
∀ x18 : Int, x18 = M17 (k0 + 1) p1 → iR x18 → (
∀ x19 : Int, x19 = M17 (k0 + 1) p2 → iR x19 → (
iR (x18 - x19) ∧ (
∀ x21 : Int, (0 ≤ (x18 - x19) → x21 = (x18 - x19)) → ((x18 - x19) < 0 → x21 = -(x18 - x19)) → (
iR x21 ∧ (
Q x21 M17))))))))))))))) ∧
((¬ (x8 = 0)) → (Q (-2) M8)))))))))))) ∧
((p1 = p2) → (Q (-1) M3)))))))))))))
def qX11_swaps (p1 : Int) (p2 : Int) (M : Mem) (Q : Int → Mem → Prop) : Prop := qX6_copyFrom 22 1 M (fun (M1 : Mem) =>  (
qX6_exchange 1 p1 p2 M1 (fun (x2 : Int) (M2 : Mem) => iR x2 → (
qX11_undoable x2 M2 (fun (x3 : Int) (M3 : Mem) => iR x3 → (
Q x3 M3))))))
def qX11_doAct  (M : Mem) (Q : Int → Mem → Prop) : Prop := qX9_look  M (fun (x1 : Int) (M1 : Mem) => iR x1 → (
qX9_pass  M1 (fun (M2 : Mem) =>  (
qX9_digit  M2 (fun (x3 : Int) (M3 : Mem) => iR x3 → (
((x1 = 98 → (qX9_digit  M3 (fun (x5 : Int) (M5 : Mem) => iR x5 → (
iR (-x5) ∧ (
qX6_shove 1 x3 (-x5) M5 (fun (x7 : Int) (M7 : Mem) => iR x7 → (
Q x7 M7))))))) ∧
(x1 = 110 → (isL (M3 155 16).toNat ∧ (
qX10_walk 1 (M3 155 16).toNat x3 M3 (fun (M9 : Mem) =>  (
∀ x10 : Int, x10 = M9 1 8 → iR x10 → (
Q x10 M9)))))) ∧
(x1 = 112 → (qX9_digit  M3 (fun (x11 : Int) (M11 : Mem) => iR x11 → (
qX6_shove 1 x3 x11 M11 (fun (x12 : Int) (M12 : Mem) => iR x12 → (
Q x12 M12)))))) ∧
(x1 = 116 → (qX6_turn 1 x3 M3 (fun (x13 : Int) (M13 : Mem) => iR x13 → (
Q x13 M13)))) ∧
((¬ x1 = 98 ∧ ¬ x1 = 110 ∧ ¬ x1 = 112 ∧ ¬ x1 = 116) → (qX9_digit  M3 (fun (x14 : Int) (M14 : Mem) => iR x14 → (
qX6_exchange 1 x3 x14 M14 (fun (x15 : Int) (M15 : Mem) => iR x15 → (
Q x15 M15)))))))))))))
def qX11_passAct_J96  (Q : Int → Mem → Prop)  (M : Mem) : Prop := qX9_digit  M (fun (x12 : Int) (M12 : Mem) => iR x12 → (
(((x12 = (-1)) → (Q 0 M12)) ∧
((¬ (x12 = (-1))) → (Q 1 M12)))))
def qX11_passAct_J86  (Q : Int → Mem → Prop) (v1 : Int) (v2 : Int) (M : Mem) : Prop := iR v2 ∧ (
(((¬ v2 = 0) → (qX11_passAct_J96  Q  M)) ∧
((v2 = 0) → (iR v1 ∧ (
(((¬ v1 = 120) → (Q 1 M)) ∧
((v1 = 120) → (qX11_passAct_J96  Q  M))))))))
def qX11_passAct_J50  (Q : Int → Mem → Prop) (v1 : Int) (v2 : Int) (M : Mem) : Prop := qX9_pass  M (fun (M5 : Mem) =>  (
qX9_digit  M5 (fun (x6 : Int) (M6 : Mem) => iR x6 → (
(((x6 = (-1)) → (Q 0 M6)) ∧
((¬ (x6 = (-1))) → (iR v2 ∧ (
(((v2 = 0) → (qX11_passAct_J86  Q v1 v2 M6)) ∧
((¬ (v2 = 0)) → (qX9_look  M6 (fun (x16 : Int) (M16 : Mem) => iR x16 → (
(((¬ x16 = 48) → (qX11_passAct_J86  Q v1 v2 M16)) ∧
((x16 = 48) → (Q 0 M16))))))))))))))))
def qX11_passAct_J25  (Q : Int → Mem → Prop) (v1 : Int) (t0 : Int) (M : Mem) : Prop := iR t0 ∧ (
(((¬ t0 = 0) → (qX11_passAct_J50  Q v1 t0 M)) ∧
((t0 = 0) → (iR v1 ∧ (
(((v1 = 110) → (qX11_passAct_J50  Q v1 t0 M)) ∧
((¬ (v1 = 110)) → ((((v1 = 116) → (qX11_passAct_J50  Q v1 t0 M)) ∧
((¬ (v1 = 116)) → ((((v1 = 120) → (qX11_passAct_J50  Q v1 t0 M)) ∧
((¬ (v1 = 120)) → (Q 0 M))))))))))))))
def qX11_passAct_J20  (Q : Int → Mem → Prop) (v1 : Int) (M : Mem) : Prop := qX11_passAct_J25  Q v1 1 M
def qX11_passAct  (M : Mem) (Q : Int → Mem → Prop) : Prop := qX9_look  M (fun (x1 : Int) (M1 : Mem) => iR x1 → (
(((x1 = 112) → (qX11_passAct_J20  Q x1 M1)) ∧
((¬ (x1 = 112)) → ((((¬ x1 = 98) → (qX11_passAct_J25  Q x1 0 M1)) ∧
((x1 = 98) → (qX11_passAct_J20  Q x1 M1))))))))
def qX11_hourFault_L11  (X48 : Mem → Prop) (Q : Int → Mem → Prop) : Nat → Int → Mem → Prop
  | 0, _, _ => False
  | n + 1, v1, M => iR v1 ∧ (
(((60 ≤ v1) → (X48  M)) ∧
((¬ (60 ≤ v1)) → (qX9_isRead  M (fun (x4 : Int) (M4 : Mem) => iR x4 → (x4 = 0 ∨ x4 = 1) → (
(((¬ x4 = 0) → (X48  M4)) ∧
((x4 = 0) → (qX11_passAct  M4 (fun (x6 : Int) (M6 : Mem) => iR x6 → (x6 = 0 ∨ x6 = 1) → (
(((¬ x6 = 0) → (qX11_hourFault_L11  X48 Q n (v1 + 1) M6)) ∧
((x6 = 0) → (∀ x8 : Int, x8 = M6 156 2 → iR x8 → (
Q x8 M6)))))))))))))))
def qX11_hourFault_J48  (Q : Int → Mem → Prop)  (M : Mem) : Prop := qX9_isWhole  M (fun (x10 : Int) (M10 : Mem) => iR x10 → (x10 = 0 ∨ x10 = 1) → (
(((x10 = 0) → (∀ x12 : Int, x12 = M10 156 2 → iR x12 → (
Q x12 M10))) ∧
((¬ (x10 = 0)) → (Q (-1) M10)))))
def qX11_hourFault  (M : Mem) (Q : Int → Mem → Prop) : Prop := qX9_open 60 M (fun (M1 : Mem) =>  (
∃ n9 : Nat, qX11_hourFault_L11  (fun  (M : Mem) => qX11_hourFault_J48  Q  M) Q n9 0 M1))
def qX11_hour_J73  (R : Int → Int → Int → Int → Mem → Prop) (X92 : Int → Int → Int → Mem → Prop) (Q : Int → Mem → Prop) (v1 : Int) (v2 : Int) (v4 : Int) (t0 : Int) (M : Mem) : Prop := iR t0 ∧ (
(((t0 = 0) → (R v1 (v2 + 1) t0 (v4 + 1) M)) ∧
((¬ (t0 = 0)) → (R v1 (v2 + 0) t0 (v4 + 1) M))))
def qX11_hour_L32  (X92 : Int → Int → Int → Mem → Prop) (Q : Int → Mem → Prop) : Nat → Int → Int → Int → Int → Mem → Prop
  | 0, _, _, _, _, _ => False
  | n + 1, v1, v2, v3, v4, M => iR v4 ∧ (
(((60 ≤ v4) → (X92 v1 v2 v3 M)) ∧
((¬ (60 ≤ v4)) → (iR v1 ∧ (
(((¬ v1 = (-1)) → (X92 v1 v2 v3 M)) ∧
((v1 = (-1)) → (iR v3 ∧ (
(((¬ v3 = 0) → (X92 v1 v2 v3 M)) ∧
((v3 = 0) → (qX9_isRead  M (fun (x10 : Int) (M10 : Mem) => iR x10 → (x10 = 0 ∨ x10 = 1) → (
(((¬ x10 = 0) → (X92 v1 v2 v3 M10)) ∧
((x10 = 0) → (qX11_doAct  M10 (fun (x12 : Int) (M12 : Mem) => iR x12 → (
qX11_isDone x12 M12 (fun (x13 : Int) (M13 : Mem) => iR x13 → (x13 = 0 ∨ x13 = 1) → (
(((¬ x13 = 0) → (qX11_hour_J73  (qX11_hour_L32  X92 Q n) X92 Q v1 v2 v4 0 M13)) ∧
((x13 = 0) → (qX11_hour_J73  (qX11_hour_L32  X92 Q n) X92 Q v1 v2 v4 1 M13))))))))))))))))))))))))
def qX11_hour_J136  (Q : Int → Mem → Prop) (v2 : Int) (t0 : Int) (M : Mem) : Prop := ∀ x25 : Int, x25 = M 1 10 → iR x25 → (
lR t0 ∧ (
qX4_tellTwo t0 x25 M (fun (M27 : Mem) =>  (
iR v2 ∧ (
Q v2 M27)))))
def qX11_hour_J123  (Q : Int → Mem → Prop) (v2 : Int) (v3 : Int) (M : Mem) : Prop := iR v3 ∧ (
(((v3 = 0) → (qX11_hour_J136  Q v2 0 M)) ∧
((¬ (v3 = 0)) → (qX11_hour_J136  Q v2 1 M))))
def qX11_hour_J92  (Q : Int → Mem → Prop) (v1 : Int) (v2 : Int) (v3 : Int) (M : Mem) : Prop := qX9_clear  M (fun (M18 : Mem) =>  (
iR v1 ∧ (
(((v1 = (-1)) → (iR v2 ∧ (
(((v2 ≤ 0) → (qX11_hour_J123  Q v2 v3 M18)) ∧
((¬ (v2 ≤ 0)) → (qX1_add 22 M18 (fun (M29 : Mem) =>  (
qX11_hour_J123  Q v2 v3 M29)))))))) ∧
((¬ (v1 = (-1))) → (iR ((-1) - v1) ∧ (
Q ((-1) - v1) M18)))))))
def qX11_hour  (M : Mem) (Q : Int → Mem → Prop) : Prop := qX11_hourFault  M (fun (x1 : Int) (M1 : Mem) => iR x1 → (
qX6_copyFrom 22 1 M1 (fun (M2 : Mem) =>  (
qX9_open 60 M2 (fun (M3 : Mem) =>  (
∃ n17 : Nat, qX11_hour_L32  (fun (v1 : Int) (v2 : Int) (v3 : Int) (M : Mem) => qX11_hour_J92  Q v1 v2 v3 M) Q n17 x1 0 0 0 M3))))))
def qX1_takeBack (k1 : Nat) (M : Mem) (Q : Int → Mem → Prop) : Prop := ∀ x1 : Int, x1 = M 163 2 → iR x1 → (
(((¬ x1 = 0) → (∀ x3 : Int, x3 = M 163 2 → iR x3 → (
iR (x3 - 1) ∧ (
∀ M5 : Mem, M5 = up2 M 163 2 (x3 - 1) → (
∀ x6 : Int, x6 = M5 163 1 → iR x6 → (
∀ x7 : Int, x7 = M5 163 2 → iR x7 → (
∀ x8 : Int, x8 = rmI (x6 + x7) 15 → iR x8 → (
(0 ≤ x8) ∧ (
(x8 < 15) ∧ (
qX6_copyFrom k1 (50 + 7 * x8.toNat) M5 (fun (M11 : Mem) =>  (
Q 1 M11)))))))))))) ∧
((x1 = 0) → (Q 0 M))))
def qX11_undo  (M : Mem) (Q : Int → Mem → Prop) : Prop := qX1_takeBack 1 M (fun (x1 : Int) (M1 : Mem) => iR x1 → (x1 = 0 ∨ x1 = 1) → (
(((x1 = 0) → (Q (-1) M1)) ∧
((¬ (x1 = 0)) → (∀ x3 : Int, x3 = M1 163 2 → iR x3 → (
Q x3 M1))))))
def qX11_line_L17   (Q : Int → Mem → Prop) : Nat → Int → Int → Mem → Prop
  | 0, _, _, _ => False
  | n + 1, v1, v2, M => iR v2 ∧ (
(((6 ≤ v2) → (∀ x5 : Int, x5 = M 167 1 → iR x5 → (
Q x5 M))) ∧
((¬ (6 ≤ v2)) → (iR v1 ∧ (
qX6_foremostBelow 1 v1 M (fun (x7 : Int) (M7 : Mem) => iR x7 → (
(((¬ x7 = (-1)) → ((0 ≤ x7) ∧ (
(x7 < 6) ∧ (
∀ x11 : Int, x11 = M7 2 x7 → iR x11 → (
qX4_add x7 M7 (fun (M12 : Mem) =>  (
qX11_line_L17   Q n x11 (v2 + 1) M12))))))) ∧
((x7 = (-1)) → (∀ x13 : Int, x13 = M7 167 1 → iR x13 → (
Q x13 M7)))))))))))
def qX11_line  (M : Mem) (Q : Int → Mem → Prop) : Prop := qX4_clear  M (fun (M1 : Mem) =>  (
∀ x2 : Int, x2 = M1 158 1 → iR x2 → (
∃ n14 : Nat, qX11_line_L17   Q n14 x2 0 M1)))
def qX11_ahead_L48 (p1 : Int)  (Q : Int → Mem → Prop) : Nat → Int → Mem → Prop
  | 0, _, _ => False
  | n + 1, v2, M => ∀ x7 : Int, x7 = M 8 6 → iR x7 → (
iR v2 ∧ (
(((x7 ≤ v2) → (∀ x10 : Int, x10 = M 8 8 → iR x10 → (
Q x10 M))) ∧
((¬ (x7 ≤ v2)) → ((0 ≤ v2) ∧ (
(v2 < 6) ∧ (
∀ x13 : Int, x13 = M 9 v2 → iR x13 → (
qX4_add x13 M (fun (M14 : Mem) =>  (
qX11_ahead_L48 p1  Q n (v2 + 1) M14))))))))))
def qX11_ahead (p1 : Int) (M : Mem) (Q : Int → Mem → Prop) : Prop := (((p1 < 0) → (Q (-1) M)) ∧
((¬ (p1 < 0)) → ((((p1 ≤ 99) → (qX6_copyFrom 8 1 M (fun (M3 : Mem) =>  (
isL (M3 155 16).toNat ∧ (
qX10_walk 8 (M3 155 16).toNat p1 M3 (fun (M5 : Mem) =>  (
qX4_clear  M5 (fun (M6 : Mem) =>  (
∃ n15 : Nat, qX11_ahead_L48 p1  Q n15 0 M6))))))))) ∧
((¬ (p1 ≤ 99)) → (Q (-1) M))))))
def qX4_tellOne (p1 : Int) (M : Mem) (Q : Mem → Prop) : Prop := qX4_clear  M (fun (M1 : Mem) =>  (
qX4_add p1 M1 (fun (M2 : Mem) =>  (
Q M2))))
def qX11_arrives_L26 (p1 : Int) (X65 : Int → Mem → Prop) (Q : Int → Mem → Prop) : Nat → Int → Mem → Prop
  | 0, _, _ => False
  | n + 1, v2, M => iR v2 ∧ (
(((200 ≤ v2) → (X65 v2 M)) ∧
((¬ (200 ≤ v2)) → (qX6_hasArrived 8 p1 M (fun (x6 : Int) (M6 : Mem) => iR x6 → (x6 = 0 ∨ x6 = 1) → (
(((¬ x6 = 0) → (X65 v2 M6)) ∧
((x6 = 0) → (isL (M6 155 16).toNat ∧ (
qX10_advance 8 (M6 155 16).toNat M6 (fun (M9 : Mem) =>  (
qX11_arrives_L26 p1 X65 Q n (v2 + 1) M9))))))))))))
def qX11_arrives_J65 (p1 : Int) (Q : Int → Mem → Prop) (v2 : Int) (M : Mem) : Prop := qX6_hasArrived 8 p1 M (fun (x11 : Int) (M11 : Mem) => iR x11 → (x11 = 0 ∨ x11 = 1) → (
(((¬ x11 = 0) → ((0 ≤ p1) ∧ (
(p1 < 6) ∧ (
∀ x15 : Int, x15 = M11 10 p1 → iR x15 → (
qX4_tellOne x15 M11 (fun (M16 : Mem) =>  (
iR v2 ∧ (
Q v2 M16)))))))) ∧
((x11 = 0) → (Q (-2) M11)))))
def qX11_arrives (p1 : Int) (M : Mem) (Q : Int → Mem → Prop) : Prop := qX6_isHearse 1 p1 M (fun (x1 : Int) (M1 : Mem) => iR x1 → (x1 = 0 ∨ x1 = 1) → (
(((¬ x1 = 0) → (qX6_copyFrom 8 1 M1 (fun (M3 : Mem) =>  (
∃ n10 : Nat, qX11_arrives_L26 p1 (fun (v2 : Int) (M : Mem) => qX11_arrives_J65 p1 Q v2 M) Q n10 0 M3)))) ∧
((x1 = 0) → (Q (-1) M1)))))
def qX11_jam_L44 (p1 : Int) (X84 : Int → Mem → Prop) (Q : Int → Mem → Prop) : Nat → Int → Int → Mem → Prop
  | 0, _, _, _ => False
  | n + 1, v2, v3, M => ∀ x6 : Int, x6 = M 158 1 → iR x6 → (
iR v3 ∧ (
(((x6 ≤ v3) → (X84 v2 M)) ∧
((¬ (x6 ≤ v3)) → ((0 ≤ v3) ∧ (
(v3 < 30) ∧ (
∀ x11 : Int, x11 = M 161 v3 → iR x11 → (
(0 ≤ v2) ∧ (
(v2 < 30) ∧ (
∀ x14 : Int, x14 = M 161 v2 → iR x14 → (
(((x11 ≤ x14) → (qX11_jam_L44 p1 X84 Q n v2 (v3 + 1) M)) ∧
((¬ (x11 ≤ x14)) → (qX11_jam_L44 p1 X84 Q n v3 (v3 + 1) M))))))))))))))
def qX11_jam (p1 : Int) (M : Mem) (Q : Int → Mem → Prop) : Prop := (((p1 < 1) → (Q (-1) M)) ∧
((¬ (p1 < 1)) → ((((p1 ≤ 60) → (qX6_copyFrom 8 1 M (fun (M3 : Mem) =>  (
isL (M3 155 16).toNat ∧ (
qX10_walk 8 (M3 155 16).toNat p1 M3 (fun (M5 : Mem) =>  (
∃ n16 : Nat, qX11_jam_L44 p1 (fun (v2 : Int) (M : Mem) => (0 ≤ v2) ∧ (
(v2 < 30) ∧ (
∀ x19 : Int, x19 = M 161 v2 → iR x19 → (
∀ x20 : Int, x20 = M 160 3 → iR x20 → (
qX4_tellTwo x19 x20 M (fun (M21 : Mem) =>  (
iR v2 ∧ (
Q v2 M21)))))))) Q n16 0 1 M5))))))) ∧
((¬ (p1 ≤ 60)) → (Q (-1) M))))))
def qX6_isAheadOf (k0 : Nat) (p1 : Int) (p2 : Int) (M : Mem) (Q : Int → Mem → Prop) : Prop := qX6_hasArrived k0 p1 M (fun (x1 : Int) (M1 : Mem) => iR x1 → (x1 = 0 ∨ x1 = 1) → (
(((x1 = 0) → (qX6_hasArrived k0 p2 M1 (fun (x3 : Int) (M3 : Mem) => iR x3 → (x3 = 0 ∨ x3 = 1) → (
(((¬ x3 = 0) → (Q 0 M3)) ∧
((x3 = 0) → ((0 ≤ p1) ∧ (
(p1 < 6) ∧ (
∀ x7 : Int, x7 = M3 (k0 + 1) p1 → iR x7 → (
(0 ≤ p2) ∧ (
(p2 < 6) ∧ (
∀ x10 : Int, x10 = M3 (k0 + 1) p2 → iR x10 → (
(((x7 ≤ x10) → (Q 0 M3)) ∧
((¬ (x7 ≤ x10)) → (Q 1 M3)))))))))))))))) ∧
((¬ (x1 = 0)) → (qX6_hasArrived k0 p2 M1 (fun (x12 : Int) (M12 : Mem) => iR x12 → (x12 = 0 ∨ x12 = 1) → (
(((x12 = 0) → (Q 1 M12)) ∧
((¬ (x12 = 0)) → ((0 ≤ p1) ∧ (
(p1 < 6) ∧ (
∀ x16 : Int, x16 = M12 (k0 + 2) p1 → iR x16 → (
(0 ≤ p2) ∧ (
(p2 < 6) ∧ (
∀ x19 : Int, x19 = M12 (k0 + 2) p2 → iR x19 → (
(((x19 ≤ x16) → (Q 0 M12)) ∧
((¬ (x19 ≤ x16)) → (Q 1 M12)))))))))))))))))))
def qX11_passes_L88 (p1 : Int) (p2 : Int) (X121 : Int → Mem → Prop) (Q : Int → Mem → Prop) : Nat → Int → Mem → Prop
  | 0, _, _ => False
  | n + 1, v3, M => iR v3 ∧ (
(((60 < v3) → (Q (-2) M)) ∧
((¬ (60 < v3)) → (isL (M 155 16).toNat ∧ (
qX10_advance 8 (M 155 16).toNat M (fun (M21 : Mem) =>  (
qX6_isAheadOf 8 p1 p2 M21 (fun (x22 : Int) (M22 : Mem) => iR x22 → (x22 = 0 ∨ x22 = 1) → (
(((x22 = 0) → (qX11_passes_L88 p1 p2 X121 Q n (v3 + 1) M22)) ∧
((¬ (x22 = 0)) → (X121 v3 M22))))))))))))
def qX11_passes (p1 : Int) (p2 : Int) (M : Mem) (Q : Int → Mem → Prop) : Prop := qX6_isHearse 1 p1 M (fun (x1 : Int) (M1 : Mem) => iR x1 → (x1 = 0 ∨ x1 = 1) → (
(((x1 = 0) → (Q (-1) M1)) ∧
((¬ (x1 = 0)) → (qX6_isHearse 1 p2 M1 (fun (x3 : Int) (M3 : Mem) => iR x3 → (x3 = 0 ∨ x3 = 1) → (
(((x3 = 0) → (Q (-1) M3)) ∧
((¬ (x3 = 0)) → ((((¬ p1 = p2) → (qX6_hasArrived 1 p1 M3 (fun (x6 : Int) (M6 : Mem) => iR x6 → (x6 = 0 ∨ x6 = 1) → (
(((¬ x6 = 0) → (Q (-2) M6)) ∧
((x6 = 0) → (qX6_hasArrived 1 p2 M6 (fun (x8 : Int) (M8 : Mem) => iR x8 → (x8 = 0 ∨ x8 = 1) → (
(((¬ x8 = 0) → (Q (-2) M8)) ∧
((x8 = 0) → ((0 ≤ p1) ∧ (
(p1 < 6) ∧ (
∀ x12 : Int, x12 = M8 2 p1 → iR x12 → (
(0 ≤ p2) ∧ (
(p2 < 6) ∧ (
∀ x15 : Int, x15 = M8 2 p2 → iR x15 → (
(((x12 ≤ x15) → (qX6_copyFrom 8 1 M8 (fun (M17 : Mem) =>  (
∃ n24 : Nat, qX11_passes_L88 p1 p2 (fun (v3 : Int) (M : Mem) => (0 ≤ p1) ∧ (
(p1 < 6) ∧ (
∀ x27 : Int, x27 = M 9 p1 → iR x27 → (
qX4_tellOne x27 M (fun (M28 : Mem) =>  (
iR v3 ∧ (
Q v3 M28))))))) Q n24 1 M17)))) ∧
((¬ (x12 ≤ x15)) → (Q (-2) M8))))))))))))))))))))) ∧
((p1 = p2) → (Q (-1) M3)))))))))))))
def qX11_ends_L33 (p1 : Int) (X72 : Int → Mem → Prop) (Q : Int → Mem → Prop) : Nat → Int → Mem → Prop
  | 0, _, _ => False
  | n + 1, v2, M => iR v2 ∧ (
(((200 ≤ v2) → (X72 v2 M)) ∧
((¬ (200 ≤ v2)) → (qX6_hasEnded 8 p1 M (fun (x7 : Int) (M7 : Mem) => iR x7 → (x7 = 0 ∨ x7 = 1) → (
(((¬ x7 = 0) → (X72 v2 M7)) ∧
((x7 = 0) → (isL (M7 155 16).toNat ∧ (
qX10_advance 8 (M7 155 16).toNat M7 (fun (M10 : Mem) =>  (
qX11_ends_L33 p1 X72 Q n (v2 + 1) M10))))))))))))
def qX11_ends_J72 (p1 : Int) (Q : Int → Mem → Prop) (v2 : Int) (M : Mem) : Prop := qX6_hasEnded 8 p1 M (fun (x12 : Int) (M12 : Mem) => iR x12 → (x12 = 0 ∨ x12 = 1) → (
(((¬ x12 = 0) → (iR v2 ∧ (
(0 ≤ p1) ∧ (
(p1 < 8) ∧ (
∀ x17 : Int, x17 = M12 162 p1 → iR x17 → (
qX4_tellTwo v2 x17 M12 (fun (M18 : Mem) =>  (
∀ x19 : Int, x19 = M18 14 p1 → iR x19 → (
Q x19 M18))))))))) ∧
((x12 = 0) → (Q (-2) M12)))))
def qX11_ends (p1 : Int) (M : Mem) (Q : Int → Mem → Prop) : Prop := qX6_isMourner 1 p1 M (fun (x1 : Int) (M1 : Mem) => iR x1 → (x1 = 0 ∨ x1 = 1) → (
(((¬ x1 = 0) → (qX6_copyFrom 8 1 M1 (fun (M3 : Mem) =>  (
qX10_forgetTallies  M3 (fun (M4 : Mem) =>  (
∃ n11 : Nat, qX11_ends_L33 p1 (fun (v2 : Int) (M : Mem) => qX11_ends_J72 p1 Q v2 M) Q n11 0 M4)))))) ∧
((x1 = 0) → (Q (-1) M1)))))
def qX2_period_J14 (k0 : Nat) (Q : Int → Mem → Prop) (t0 : Int) (M : Mem) : Prop := qX2_uses k0 3 M (fun (x3 : Int) (M3 : Mem) => iR x3 → (x3 = 0 ∨ x3 = 1) → (
(((x3 = 0) → (iR (t0 * 1) ∧ (
Q (t0 * 1) M3))) ∧
((¬ (x3 = 0)) → (∀ x6 : Int, x6 = M3 158 3 → iR x6 → (
iR (t0 * x6) ∧ (
Q (t0 * x6) M3)))))))
def qX2_period (k0 : Nat) (M : Mem) (Q : Int → Mem → Prop) : Prop := qX2_uses k0 4 M (fun (x1 : Int) (M1 : Mem) => iR x1 → (x1 = 0 ∨ x1 = 1) → (
(((x1 = 0) → (qX2_period_J14 k0 Q 1 M1)) ∧
((¬ (x1 = 0)) → (qX2_period_J14 k0 Q 10 M1)))))
def qX10_toEnd_L15 (k1 : Nat) (k2 : Nat)  (Q : Mem → Prop) : Nat → Int → Int → Int → Mem → Prop
  | 0, _, _, _, _ => False
  | n + 1, v3, v4, v5, M => iR v5 ∧ (
(((200 ≤ v5) → (Q M)) ∧
((¬ (200 ≤ v5)) → (iR v4 ∧ (
iR v3 ∧ (
(((v3 ≤ v4) → (Q M)) ∧
((¬ (v3 ≤ v4)) → (∀ x7 : Int, x7 = M k1 9 → iR x7 → (
∀ x8 : Int, x8 = M k1 7 → iR x8 → (
(((x7 = x8) → (Q M)) ∧
((¬ (x7 = x8)) → (∀ x10 : Int, x10 = M k1 8 → iR x10 → (
∀ x11 : Int, x11 = M k1 6 → iR x11 → (
(((¬ x10 = x11) → (qX10_advance k1 k2 M (fun (M13 : Mem) =>  (
∀ x14 : Int, x14 = M13 160 5 → iR x14 → (
(((x14 = 0) → (qX10_toEnd_L15 k1 k2  Q n v3 (v4 + 1) (v5 + 1) M13)) ∧
((¬ (x14 = 0)) → (qX10_toEnd_L15 k1 k2  Q n v3 0 (v5 + 1) M13)))))))) ∧
((x10 = x11) → (Q M)))))))))))))))))))
def qX10_toEnd (k1 : Nat) (k2 : Nat) (M : Mem) (Q : Mem → Prop) : Prop := qX2_period k2 M (fun (x1 : Int) (M1 : Mem) => iR x1 → (
∃ n16 : Nat, qX10_toEnd_L15 k1 k2  Q n16 x1 0 0 M1))
def qX6_isRight (k0 : Nat) (p1 : Int) (M : Mem) (Q : Int → Mem → Prop) : Prop := (0 ≤ p1) ∧ (
(p1 < 8) ∧ (
∀ x3 : Int, x3 = M (k0 + 6) p1 → iR x3 → (
∀ x4 : Int, x4 = M (k0 + 4) p1 → iR x4 → (
(((¬ x3 = x4) → (Q 0 M)) ∧
((x3 = x4) → (Q 1 M)))))))
def qX6_rightBits_L4 (k0 : Nat)  (Q : Int → Mem → Prop) : Nat → Int → Int → Mem → Prop
  | 0, _, _, _ => False
  | n + 1, v1, v2, M => ∀ x1 : Int, x1 = M k0 7 → iR x1 → (
iR v2 ∧ (
(((x1 ≤ v2) → (iR v1 ∧ (
Q v1 M))) ∧
((¬ (x1 ≤ v2)) → (qX6_isRight k0 v2 M (fun (x5 : Int) (M5 : Mem) => iR x5 → (x5 = 0 ∨ x5 = 1) → (
(((x5 = 0) → (∀ x7 : Int, x7 = oI v1 0 → iR x7 → (
qX6_rightBits_L4 k0  Q n x7 (v2 + 1) M5))) ∧
((¬ (x5 = 0)) → (∀ x8 : Int, x8 = slI 1 v2 → iR x8 → (
∀ x9 : Int, x9 = oI v1 x8 → iR x9 → (
qX6_rightBits_L4 k0  Q n x9 (v2 + 1) M5))))))))))))
def qX6_rightBits (k0 : Nat) (M : Mem) (Q : Int → Mem → Prop) : Prop := ∃ n10 : Nat, qX6_rightBits_L4 k0  Q n10 0 0 M
def qX11_rightOnesOfTrial (k1 : Nat) (M : Mem) (Q : Int → Mem → Prop) : Prop := qX10_toEnd 8 k1 M (fun (M1 : Mem) =>  (
qX6_rightBits 8 M1 (fun (x2 : Int) (M2 : Mem) => iR x2 → (
Q x2 M2))))
def qX6_wrongBits_L4 (k0 : Nat)  (Q : Int → Mem → Prop) : Nat → Int → Int → Mem → Prop
  | 0, _, _, _ => False
  | n + 1, v1, v2, M => ∀ x1 : Int, x1 = M k0 7 → iR x1 → (
iR v2 ∧ (
(((x1 ≤ v2) → (iR v1 ∧ (
Q v1 M))) ∧
((¬ (x1 ≤ v2)) → (qX6_hasEnded k0 v2 M (fun (x5 : Int) (M5 : Mem) => iR x5 → (x5 = 0 ∨ x5 = 1) → (
(((x5 = 0) → (∀ x7 : Int, x7 = oI v1 0 → iR x7 → (
qX6_wrongBits_L4 k0  Q n x7 (v2 + 1) M5))) ∧
((¬ (x5 = 0)) → (qX6_isRight k0 v2 M5 (fun (x8 : Int) (M8 : Mem) => iR x8 → (x8 = 0 ∨ x8 = 1) → (
(((¬ x8 = 0) → (∀ x10 : Int, x10 = oI v1 0 → iR x10 → (
qX6_wrongBits_L4 k0  Q n x10 (v2 + 1) M8))) ∧
((x8 = 0) → (∀ x11 : Int, x11 = slI 1 v2 → iR x11 → (
∀ x12 : Int, x12 = oI v1 x11 → iR x12 → (
qX6_wrongBits_L4 k0  Q n x12 (v2 + 1) M8)))))))))))))))))
def qX6_wrongBits (k0 : Nat) (M : Mem) (Q : Int → Mem → Prop) : Prop := ∃ n13 : Nat, qX6_wrongBits_L4 k0  Q n13 0 0 M
def qX11_right  (M : Mem) (Q : Int → Mem → Prop) : Prop := qX6_copyFrom 8 1 M (fun (M1 : Mem) =>  (
isL (M1 155 16).toNat ∧ (
qX11_rightOnesOfTrial (M1 155 16).toNat M1 (fun (x3 : Int) (M3 : Mem) => iR x3 → (
qX6_wrongBits 8 M3 (fun (x4 : Int) (M4 : Mem) => iR x4 → (
qX4_tellTwo x3 x4 M4 (fun (M5 : Mem) =>  (
qJ6_bitCount_0f7a4 x3 M5 (fun (x6 : Int) (M6 : Mem) => iR x6 → (
Q x6 M6)))))))))))
def qX3_begin_L7 (k1 : Nat)  (Q : Mem → Prop) : Nat → Int → Mem → Prop
  | 0, _, _ => False
  | n + 1, v3, M => ∀ x2 : Int, x2 = M 158 1 → iR x2 → (
iR v3 ∧ (
(((x2 ≤ v3) → (Q M)) ∧
((¬ (x2 ≤ v3)) → (∀ x5 : Int, x5 = M 179 2 → iR x5 → (
(((6 ≤ x5) → (Q M)) ∧
((¬ (6 ≤ x5)) → (qX6_hearseOn k1 v3 M (fun (x7 : Int) (M7 : Mem) => iR x7 → (
(((x7 = (-1)) → (qX3_begin_L7 k1  Q n (v3 + 1) M7)) ∧
((¬ (x7 = (-1))) → (∀ x9 : Int, x9 = M7 179 2 → iR x9 → (
(0 ≤ x9) ∧ (
(x9 < 6) ∧ (
∀ M12 : Mem, M12 = up2 M7 180 x9 v3 → (
∀ x13 : Int, x13 = M12 179 2 → iR x13 → (
iR (x13 + 1) ∧ (
∀ M15 : Mem, M15 = up2 M12 179 2 (x13 + 1) → (
qX3_begin_L7 k1  Q n (v3 + 1) M15)))))))))))))))))))))
def qX3_begin (k1 : Nat) (M : Mem) (Q : Mem → Prop) : Prop := ∀ M1 : Mem, M1 = up2 M 179 2 0 → (
∃ n16 : Nat, qX3_begin_L7 k1  Q n16 0 M1)
def qX3_markBest  (M : Mem) (Q : Mem → Prop) : Prop := ∀ M1 : Mem, M1 = cp2 M 180 181 6 → (
Q M1)
def qX3_exchangeCells (p1 : Int) (p2 : Int) (M : Mem) (Q : Mem → Prop) : Prop := (0 ≤ p1) ∧ (
(p1 < 6) ∧ (
∀ x3 : Int, x3 = M 180 p1 → iR x3 → (
(0 ≤ p2) ∧ (
(p2 < 6) ∧ (
∀ x6 : Int, x6 = M 180 p2 → iR x6 → (
∀ M7 : Mem, M7 = up2 M 180 p1 x6 → (
∀ M8 : Mem, M8 = up2 M7 180 p2 x3 → (
Q M8))))))))
def qX3_toNext_L7  (X34 : Int → Mem → Prop) (Q : Int → Mem → Prop) : Nat → Int → Mem → Prop
  | 0, _, _ => False
  | n + 1, v1, M => iR v1 ∧ (
(((v1 < 0) → (X34 v1 M)) ∧
((¬ (v1 < 0)) → ((0 ≤ v1) ∧ (
(v1 < 6) ∧ (
∀ x6 : Int, x6 = M 180 v1 → iR x6 → (
(0 ≤ (v1 + 1)) ∧ (
((v1 + 1) < 6) ∧ (
∀ x9 : Int, x9 = M 180 (v1 + 1) → iR x9 → (
(((x6 ≤ x9) → (X34 v1 M)) ∧
((¬ (x6 ≤ x9)) → (qX3_toNext_L7  X34 Q n (v1 + (-1)) M)))))))))))))
def qX3_toNext_L47  (X73 : Int → Int → Mem → Prop) (Q : Int → Mem → Prop) : Nat → Int → Int → Mem → Prop
  | 0, _, _, _ => False
  | n + 1, v1, v2, M => iR v2 ∧ (
iR v1 ∧ (
(((v2 ≤ v1) → (X73 v1 v2 M)) ∧
((¬ (v2 ≤ v1)) → ((0 ≤ v2) ∧ (
(v2 < 6) ∧ (
∀ x20 : Int, x20 = M 180 v2 → iR x20 → (
(0 ≤ v1) ∧ (
(v1 < 6) ∧ (
∀ x23 : Int, x23 = M 180 v1 → iR x23 → (
(((x23 ≤ x20) → (X73 v1 v2 M)) ∧
((¬ (x23 ≤ x20)) → (qX3_toNext_L47  X73 Q n v1 (v2 + (-1)) M))))))))))))))
def qX3_toNext_L91   (Q : Int → Mem → Prop) : Nat → Int → Int → Mem → Prop
  | 0, _, _, _ => False
  | n + 1, v3, v4, M => iR v3 ∧ (
iR v4 ∧ (
(((v4 ≤ v3) → (Q 1 M)) ∧
((¬ (v4 ≤ v3)) → (qX3_exchangeCells v3 v4 M (fun (M33 : Mem) =>  (
qX3_toNext_L91   Q n (v3 + 1) (v4 + (-1)) M33)))))))
def qX3_toNext_J73  (Q : Int → Mem → Prop) (v1 : Int) (v2 : Int) (M : Mem) : Prop := iR v1 ∧ (
iR v2 ∧ (
qX3_exchangeCells v1 v2 M (fun (M28 : Mem) =>  (
∀ x29 : Int, x29 = M28 179 2 → iR x29 → (
∃ n34 : Nat, qX3_toNext_L91   Q n34 (v1 + 1) (x29 - 1) M28)))))
def qX3_toNext_J34  (Q : Int → Mem → Prop) (v1 : Int) (M : Mem) : Prop := iR v1 ∧ (
(((0 ≤ v1) → (∀ x14 : Int, x14 = M 179 2 → iR x14 → (
∃ n25 : Nat, qX3_toNext_L47  (fun (v1 : Int) (v2 : Int) (M : Mem) => qX3_toNext_J73  Q v1 v2 M) Q n25 v1 (x14 - 1) M))) ∧
((¬ (0 ≤ v1)) → (Q 0 M))))
def qX3_toNext  (M : Mem) (Q : Int → Mem → Prop) : Prop := ∀ x1 : Int, x1 = M 179 2 → iR x1 → (
∃ n11 : Nat, qX3_toNext_L7  (fun (v1 : Int) (M : Mem) => qX3_toNext_J34  Q v1 M) Q n11 (x1 - 2) M)
def qX6_placeHearses_L4 (k0 : Nat) (k1 : Nat)  (Q : Mem → Prop) : Nat → Int → Int → Mem → Prop
  | 0, _, _, _ => False
  | n + 1, v2, v3, M => ∀ x1 : Int, x1 = M k0 6 → iR x1 → (
iR v3 ∧ (
(((x1 ≤ v3) → (Q M)) ∧
((¬ (x1 ≤ v3)) → (qX6_hasArrived k0 v3 M (fun (x4 : Int) (M4 : Mem) => iR x4 → (x4 = 0 ∨ x4 = 1) → (
(((¬ x4 = 0) → (qX6_placeHearses_L4 k0 k1  Q n v2 (v3 + 1) M4)) ∧
((x4 = 0) → ((0 ≤ v2) ∧ (
(v2 < 6) ∧ (
∀ x8 : Int, x8 = M4 k1 v2 → iR x8 → (
(0 ≤ v3) ∧ (
(v3 < 6) ∧ (
∀ M11 : Mem, M11 = up2 M4 (k0 + 1) v3 x8 → (
qX6_placeHearses_L4 k0 k1  Q n (v2 + 1) (v3 + 1) M11))))))))))))))))
def qX6_placeHearses (k0 : Nat) (k1 : Nat) (M : Mem) (Q : Mem → Prop) : Prop := ∃ n12 : Nat, qX6_placeHearses_L4 k0 k1  Q n12 0 0 M
def qX11_order_J97  (R : Int → Int → Int → Mem → Prop) (X111 : Int → Mem → Prop) (Q : Int → Mem → Prop) (v1 : Int) (v3 : Int) (M : Mem) : Prop := qX3_toNext  M (fun (x15 : Int) (M15 : Mem) => iR x15 → (x15 = 0 ∨ x15 = 1) → (
R v1 x15 (v3 + 1) M15))
def qX11_order_L21  (X111 : Int → Mem → Prop) (Q : Int → Mem → Prop) : Nat → Int → Int → Int → Mem → Prop
  | 0, _, _, _, _ => False
  | n + 1, v1, v2, v3, M => iR v3 ∧ (
(((720 ≤ v3) → (X111 v1 M)) ∧
((¬ (720 ≤ v3)) → (iR v2 ∧ (
(((v2 = 0) → (X111 v1 M)) ∧
((¬ (v2 = 0)) → (∀ x6 : Int, x6 = M 1 7 → iR x6 → (
iR v1 ∧ (
(((x6 ≤ v1) → (X111 v1 M)) ∧
((¬ (x6 ≤ v1)) → (qX6_copyFrom 8 1 M (fun (M9 : Mem) =>  (
qX6_placeHearses 8 180 M9 (fun (M10 : Mem) =>  (
isL (M10 155 16).toNat ∧ (
qX11_rightOnesOfTrial (M10 155 16).toNat M10 (fun (x12 : Int) (M12 : Mem) => iR x12 → (
qJ6_bitCount_0f7a4 x12 M12 (fun (x13 : Int) (M13 : Mem) => iR x13 → (
(((x13 ≤ v1) → (qX11_order_J97  (qX11_order_L21  X111 Q n) X111 Q v1 v3 M13)) ∧
((¬ (x13 ≤ v1)) → (qX3_markBest  M13 (fun (M16 : Mem) =>  (
qX11_order_J97  (qX11_order_L21  X111 Q n) X111 Q x13 v3 M16)))))))))))))))))))))))))))
def qX11_order_L120   (Q : Int → Mem → Prop) : Nat → Int → Int → Mem → Prop
  | 0, _, _, _ => False
  | n + 1, v1, v3, M => ∀ x19 : Int, x19 = M 179 2 → iR x19 → (
iR v3 ∧ (
(((x19 ≤ v3) → (iR v1 ∧ (
Q v1 M))) ∧
((¬ (x19 ≤ v3)) → ((0 ≤ v3) ∧ (
(v3 < 6) ∧ (
∀ x25 : Int, x25 = M 181 v3 → iR x25 → (
qX4_add x25 M (fun (M26 : Mem) =>  (
qX11_order_L120   Q n v1 (v3 + 1) M26))))))))))
def qX11_order_J111  (Q : Int → Mem → Prop) (v1 : Int) (M : Mem) : Prop := qX4_clear  M (fun (M18 : Mem) =>  (
∃ n27 : Nat, qX11_order_L120   Q n27 v1 0 M18))
def qX11_order  (M : Mem) (Q : Int → Mem → Prop) : Prop := qX3_begin 1 M (fun (M1 : Mem) =>  (
∃ n17 : Nat, qX11_order_L21  (fun (v1 : Int) (M : Mem) => qX11_order_J111  Q v1 M) Q n17 (-1) 1 0 M1))
def qX11_stands_L42 (p1 : Int) (X117 : Int → Int → Mem → Prop) (Q : Int → Mem → Prop) : Nat → Int → Int → Int → Mem → Prop
  | 0, _, _, _, _ => False
  | n + 1, v2, v3, v4, M => iR v4 ∧ (
(((v4 < 0) → (X117 v2 v3 M)) ∧
((¬ (v4 < 0)) → (qX6_copyFrom 8 1 M (fun (M8 : Mem) =>  (
(0 ≤ p1) ∧ (
(p1 < 8) ∧ (
∀ M11 : Mem, M11 = up2 M8 11 p1 v4 → (
∀ M12 : Mem, M12 = up2 M11 13 p1 (-1) → (
isL (M12 155 16).toNat ∧ (
qX10_toEnd 8 (M12 155 16).toNat M12 (fun (M14 : Mem) =>  (
qX6_isRight 8 p1 M14 (fun (x15 : Int) (M15 : Mem) => iR x15 → (x15 = 0 ∨ x15 = 1) → (
(((x15 = 0) → (qX11_stands_L42 p1 X117 Q n v2 v3 (v4 + (-1)) M15)) ∧
((¬ (x15 = 0)) → (qX11_stands_L42 p1 X117 Q n v4 (v3 + 1) (v4 + (-1)) M15))))))))))))))))))
def qX11_stands (p1 : Int) (M : Mem) (Q : Int → Mem → Prop) : Prop := qX6_isMourner 1 p1 M (fun (x1 : Int) (M1 : Mem) => iR x1 → (x1 = 0 ∨ x1 = 1) → (
(((¬ x1 = 0) → (qX6_hasEnded 1 p1 M1 (fun (x3 : Int) (M3 : Mem) => iR x3 → (x3 = 0 ∨ x3 = 1) → (
(((x3 = 0) → (qX8_gate  M3 (fun (x5 : Int) (M5 : Mem) => iR x5 → (
∃ n17 : Nat, qX11_stands_L42 p1 (fun (v2 : Int) (v3 : Int) (M : Mem) => iR v3 ∧ (
(((¬ v3 = 0) → (qX4_tellOne v3 M (fun (M20 : Mem) =>  (
iR v2 ∧ (
Q v2 M20))))) ∧
((v3 = 0) → (Q (-2) M))))) Q n17 (-1) 0 (x5 - 1) M5)))) ∧
((¬ (x3 = 0)) → (Q (-2) M3))))))) ∧
((x1 = 0) → (Q (-1) M1)))))
def qX11_isTurned_J37 (p1 : Int) (Q : Int → Mem → Prop) (t0 : Int) (M : Mem) : Prop := iR t0 ∧ (
(((¬ t0 = 0) → (Q 1 M)) ∧
((t0 = 0) → (qX6_turn 8 p1 M (fun (x5 : Int) (M5 : Mem) => iR x5 → (
qX11_isDone x5 M5 (fun (x6 : Int) (M6 : Mem) => iR x6 → (x6 = 0 ∨ x6 = 1) → (
(((x6 = 0) → (Q 0 M6)) ∧
((¬ (x6 = 0)) → (Q 1 M6)))))))))))
def qX11_isTurned_J36 (p1 : Int) (Q : Int → Mem → Prop)  (M : Mem) : Prop := qX11_isTurned_J37 p1 Q 0 M
def qX11_isTurned (p1 : Int) (M : Mem) (Q : Int → Mem → Prop) : Prop := qX6_hasEnded 8 p1 M (fun (x1 : Int) (M1 : Mem) => iR x1 → (x1 = 0 ∨ x1 = 1) → (
(((¬ x1 = 0) → (qX11_isTurned_J36 p1 Q  M1)) ∧
((x1 = 0) → ((0 ≤ p1) ∧ (
(p1 < 8) ∧ (
∀ x10 : Int, x10 = M1 13 p1 → iR x10 → (
∀ x11 : Int, x11 = M1 12 p1 → iR x11 → (
(((¬ x10 = x11) → (qX11_isTurned_J36 p1 Q  M1)) ∧
((x10 = x11) → (qX11_isTurned_J37 p1 Q 1 M1))))))))))))
def qX11_when_J98 (p1 : Int) (R : Int → Int → Int → Mem → Prop) (X119 : Int → Int → Mem → Prop) (Q : Int → Mem → Prop) (v2 : Int) (v3 : Int) (v4 : Int) (M : Mem) : Prop := isL (M 155 16).toNat ∧ (
qX10_advance 15 (M 155 16).toNat M (fun (M10 : Mem) =>  (
R v2 v3 (v4 + 1) M10)))
def qX11_when_J94 (p1 : Int) (R : Int → Int → Int → Mem → Prop) (X119 : Int → Int → Mem → Prop) (Q : Int → Mem → Prop) (v4 : Int) (t0 : Int) (M : Mem) : Prop := qX11_when_J98 p1 (R) X119 Q t0 v4 v4 M
def qX11_when_L31 (p1 : Int) (X119 : Int → Int → Mem → Prop) (Q : Int → Mem → Prop) : Nat → Int → Int → Int → Mem → Prop
  | 0, _, _, _, _ => False
  | n + 1, v2, v3, v4, M => iR v4 ∧ (
(((60 < v4) → (X119 v2 v3 M)) ∧
((¬ (60 < v4)) → (qX6_copyFrom 8 15 M (fun (M6 : Mem) =>  (
qX11_isTurned p1 M6 (fun (x7 : Int) (M7 : Mem) => iR x7 → (x7 = 0 ∨ x7 = 1) → (
(((x7 = 0) → (qX11_when_J98 p1 (qX11_when_L31 p1 X119 Q n) X119 Q v2 v3 v4 M7)) ∧
((¬ (x7 = 0)) → (isL (M7 155 16).toNat ∧ (
qX10_toEnd 8 (M7 155 16).toNat M7 (fun (M12 : Mem) =>  (
qX6_isRight 8 p1 M12 (fun (x13 : Int) (M13 : Mem) => iR x13 → (x13 = 0 ∨ x13 = 1) → (
(((x13 = 0) → (qX11_when_J98 p1 (qX11_when_L31 p1 X119 Q n) X119 Q v2 v3 v4 M13)) ∧
((¬ (x13 = 0)) → (iR v2 ∧ (
(((¬ v2 = (-1)) → (qX11_when_J94 p1 (qX11_when_L31 p1 X119 Q n) X119 Q v4 v2 M13)) ∧
((v2 = (-1)) → (qX11_when_J94 p1 (qX11_when_L31 p1 X119 Q n) X119 Q v4 v4 M13)))))))))))))))))))))))
def qX11_when (p1 : Int) (M : Mem) (Q : Int → Mem → Prop) : Prop := qX6_isMourner 1 p1 M (fun (x1 : Int) (M1 : Mem) => iR x1 → (x1 = 0 ∨ x1 = 1) → (
(((¬ x1 = 0) → (qX6_copyFrom 15 1 M1 (fun (M3 : Mem) =>  (
∃ n17 : Nat, qX11_when_L31 p1 (fun (v2 : Int) (v3 : Int) (M : Mem) => iR v2 ∧ (
(((¬ v2 = (-1)) → (iR v3 ∧ (
qX4_tellOne v3 M (fun (M21 : Mem) =>  (
Q v2 M21))))) ∧
((v2 = (-1)) → (Q (-2) M))))) Q n17 (-1) (-1) 0 M3)))) ∧
((x1 = 0) → (Q (-1) M1)))))
def qX11_ableToTurn_L15   (Q : Int → Mem → Prop) : Nat → Int → Int → Mem → Prop
  | 0, _, _, _ => False
  | n + 1, v1, v2, M => ∀ x2 : Int, x2 = M 1 7 → iR x2 → (
iR v2 ∧ (
(((x2 ≤ v2) → (iR v1 ∧ (
Q v1 M))) ∧
((¬ (x2 ≤ v2)) → (qX6_turn 8 v2 M (fun (x6 : Int) (M6 : Mem) => iR x6 → (
qX11_isDone x6 M6 (fun (x7 : Int) (M7 : Mem) => iR x7 → (x7 = 0 ∨ x7 = 1) → (
(((x7 = 0) → (∀ x9 : Int, x9 = oI v1 0 → iR x9 → (
qX11_ableToTurn_L15   Q n x9 (v2 + 1) M7))) ∧
((¬ (x7 = 0)) → (∀ x10 : Int, x10 = slI 1 v2 → iR x10 → (
∀ x11 : Int, x11 = oI v1 x10 → iR x11 → (
qX11_ableToTurn_L15   Q n x11 (v2 + 1) M7))))))))))))))
def qX11_ableToTurn  (M : Mem) (Q : Int → Mem → Prop) : Prop := qX6_copyFrom 8 1 M (fun (M1 : Mem) =>  (
∃ n12 : Nat, qX11_ableToTurn_L15   Q n12 0 0 M1))
def qX11_turnInTrial_L13 (p1 : Int)  (Q : Mem → Prop) : Nat → Int → Mem → Prop
  | 0, _, _ => False
  | n + 1, v2, M => ∀ x2 : Int, x2 = M 1 7 → iR x2 → (
iR v2 ∧ (
(((x2 ≤ v2) → (Q M)) ∧
((¬ (x2 ≤ v2)) → (∀ x5 : Int, x5 = srI p1 v2 → iR x5 → (
∀ x6 : Int, x6 = aI x5 1 → iR x6 → (
(((¬ x6 = 1) → (qX11_turnInTrial_L13 p1  Q n (v2 + 1) M)) ∧
((x6 = 1) → (qX6_turn 8 v2 M (fun (x8 : Int) (M8 : Mem) => iR x8 → (
qX11_turnInTrial_L13 p1  Q n (v2 + 1) M8))))))))))))
def qX11_turnInTrial (p1 : Int) (M : Mem) (Q : Mem → Prop) : Prop := qX6_copyFrom 8 1 M (fun (M1 : Mem) =>  (
∃ n9 : Nat, qX11_turnInTrial_L13 p1  Q n9 0 M1))
def qX11_mends_J70 (p1 : Int) (R : Int → Int → Int → Mem → Prop) (X98 : Int → Int → Mem → Prop) (X116 : Int → Int → Mem → Prop) (Q : Int → Mem → Prop) (v2 : Int) (v3 : Int) (v4 : Int) (t0 : Int) (M : Mem) : Prop := iR t0 ∧ (
(((t0 = 0) → (R v2 v3 (v4 + 1) M)) ∧
((¬ (t0 = 0)) → (iR v4 ∧ (
qX11_turnInTrial v4 M (fun (M17 : Mem) =>  (
isL (M17 155 16).toNat ∧ (
qX11_rightOnesOfTrial (M17 155 16).toNat M17 (fun (x19 : Int) (M19 : Mem) => iR x19 → (
qJ6_bitCount_0f7a4 x19 M19 (fun (x20 : Int) (M20 : Mem) => iR x20 → (
(((x20 < p1) → (R v2 v3 (v4 + 1) M20)) ∧
((¬ (x20 < p1)) → (X98 v3 v4 M20)))))))))))))))
def qX11_mends_J69 (p1 : Int) (R : Int → Int → Int → Mem → Prop) (X98 : Int → Int → Mem → Prop) (X116 : Int → Int → Mem → Prop) (Q : Int → Mem → Prop) (v2 : Int) (v3 : Int) (v4 : Int) (M : Mem) : Prop := qX11_mends_J70 p1 (R) X98 X116 Q v2 v3 v4 0 M
def qX11_mends_L33 (p1 : Int) (X98 : Int → Int → Mem → Prop) (X116 : Int → Int → Mem → Prop) (Q : Int → Mem → Prop) : Nat → Int → Int → Int → Mem → Prop
  | 0, _, _, _, _ => False
  | n + 1, v2, v3, v4, M => ∀ x7 : Int, x7 = M 1 7 → iR x7 → (
∀ x8 : Int, x8 = slI 1 x7 → iR x8 → (
iR v4 ∧ (
(((x8 ≤ v4) → (X116 v2 v3 M)) ∧
((¬ (x8 ≤ v4)) → (∀ x11 : Int, x11 = xI v2 (-1) → iR x11 → (
∀ x12 : Int, x12 = aI v4 x11 → iR x12 → (
(((¬ x12 = 0) → (qX11_mends_J69 p1 (qX11_mends_L33 p1 X98 X116 Q n) X98 X116 Q v2 v3 v4 M)) ∧
((x12 = 0) → (qJ6_bitCount_0f7a4 v4 M (fun (x22 : Int) (M22 : Mem) => iR x22 → (
iR v3 ∧ (
(((¬ x22 = v3) → (qX11_mends_J69 p1 (qX11_mends_L33 p1 X98 X116 Q n) X98 X116 Q v2 v3 v4 M22)) ∧
((x22 = v3) → (qX11_mends_J70 p1 (qX11_mends_L33 p1 X98 X116 Q n) X98 X116 Q v2 v3 v4 1 M22)))))))))))))))))
def qX11_mends_L19 (p1 : Int) (X98 : Int → Int → Mem → Prop) (Q : Int → Mem → Prop) : Nat → Int → Int → Mem → Prop
  | 0, _, _, _ => False
  | n + 1, v2, v3, M => ∀ x4 : Int, x4 = M 1 7 → iR x4 → (
iR v3 ∧ (
(((x4 < v3) → (Q (-2) M)) ∧
((¬ (x4 < v3)) → (∃ n25 : Nat, qX11_mends_L33 p1 (fun (v3 : Int) (v4 : Int) (M : Mem) => X98 v3 v4 M) (fun (v2 : Int) (v3 : Int) (M : Mem) => qX11_mends_L19 p1 X98 Q n v2 (v3 + 1) M) Q n25 v2 v3 0 M)))))
def qX11_mends (p1 : Int) (M : Mem) (Q : Int → Mem → Prop) : Prop := (((p1 < 0) → (Q (-1) M)) ∧
((¬ (p1 < 0)) → ((((p1 ≤ 8) → (qX11_ableToTurn  M (fun (x3 : Int) (M3 : Mem) => iR x3 → (
∃ n26 : Nat, qX11_mends_L19 p1 (fun (v3 : Int) (v4 : Int) (M : Mem) => iR v4 ∧ (
qX4_tellOne v4 M (fun (M28 : Mem) =>  (
iR v3 ∧ (
Q v3 M28))))) Q n26 x3 0 M3)))) ∧
((¬ (p1 ≤ 8)) → (Q (-1) M))))))
def qX6_takeAway_L7 (k0 : Nat) (p1 : Int)  (Q : Mem → Prop) : Nat → Int → Mem → Prop
  | 0, _, _ => False
  | n + 1, v2, M => ∀ x2 : Int, x2 = M k0 7 → iR x2 → (
iR v2 ∧ (
(((x2 ≤ v2) → (Q M)) ∧
((¬ (x2 ≤ v2)) → ((0 ≤ v2) ∧ (
(v2 < 8) ∧ (
∀ x7 : Int, x7 = M (k0 + 5) v2 → iR x7 → (
(((¬ x7 = p1) → (qX6_takeAway_L7 k0 p1  Q n (v2 + 1) M)) ∧
((x7 = p1) → (∀ M9 : Mem, M9 = up2 M (k0 + 5) v2 (-1) → (
qX6_takeAway_L7 k0 p1  Q n (v2 + 1) M9))))))))))))
def qX6_takeAway (k0 : Nat) (p1 : Int) (M : Mem) (Q : Mem → Prop) : Prop := qX6_arrive k0 p1 M (fun (M1 : Mem) =>  (
∃ n10 : Nat, qX6_takeAway_L7 k0 p1  Q n10 0 M1))
def qX11_misleads_J115  (R : Int → Int → Int → Int → Mem → Prop) (X129 : Int → Int → Int → Mem → Prop) (Q : Int → Mem → Prop) (v1 : Int) (v3 : Int) (v4 : Int) (v5 : Int) (t0 : Int) (M : Mem) : Prop := iR v3 ∧ (
iR v5 ∧ (
∀ x21 : Int, x21 = max v3 v5 → iR x21 → (
R v1 t0 x21 (v4 + 1) M)))
def qX11_misleads_L27  (X129 : Int → Int → Int → Mem → Prop) (Q : Int → Mem → Prop) : Nat → Int → Int → Int → Int → Mem → Prop
  | 0, _, _, _, _, _ => False
  | n + 1, v1, v2, v3, v4, M => ∀ x4 : Int, x4 = M 1 6 → iR x4 → (
iR v4 ∧ (
(((x4 ≤ v4) → (X129 v1 v2 v3 M)) ∧
((¬ (x4 ≤ v4)) → (qX6_hasArrived 1 v4 M (fun (x7 : Int) (M7 : Mem) => iR x7 → (x7 = 0 ∨ x7 = 1) → (
(((¬ x7 = 0) → (qX11_misleads_L27  X129 Q n v1 v2 v3 (v4 + 1) M7)) ∧
((x7 = 0) → (qX6_copyFrom 8 1 M7 (fun (M9 : Mem) =>  (
qX6_takeAway 8 v4 M9 (fun (M10 : Mem) =>  (
isL (M10 155 16).toNat ∧ (
qX11_rightOnesOfTrial (M10 155 16).toNat M10 (fun (x12 : Int) (M12 : Mem) => iR x12 → (
qX6_bitsOf 1 5 v4 M12 (fun (x13 : Int) (M13 : Mem) => iR x13 → (
∀ x14 : Int, x14 = xI x13 (-1) → iR x14 → (
∀ x15 : Int, x15 = aI x12 x14 → iR x15 → (
qJ6_bitCount_0f7a4 x15 M13 (fun (x16 : Int) (M16 : Mem) => iR x16 → (
iR v3 ∧ (
(((x16 ≤ v3) → (qX11_misleads_J115  (qX11_misleads_L27  X129 Q n) X129 Q v1 v3 v4 x16 v2 M16)) ∧
((¬ (x16 ≤ v3)) → (qX11_misleads_J115  (qX11_misleads_L27  X129 Q n) X129 Q v1 v3 v4 x16 v4 M16)))))))))))))))))))))))))))
def qX11_misleads  (M : Mem) (Q : Int → Mem → Prop) : Prop := qX6_copyFrom 8 1 M (fun (M1 : Mem) =>  (
isL (M1 155 16).toNat ∧ (
qX11_rightOnesOfTrial (M1 155 16).toNat M1 (fun (x3 : Int) (M3 : Mem) => iR x3 → (
∃ n22 : Nat, qX11_misleads_L27  (fun (v1 : Int) (v2 : Int) (v3 : Int) (M : Mem) => iR v2 ∧ (
(((¬ v2 = (-1)) → (iR v3 ∧ (
qX6_bitsOf 1 5 v2 M (fun (x26 : Int) (M26 : Mem) => iR x26 → (
∀ x27 : Int, x27 = xI x26 (-1) → iR x27 → (
∀ x28 : Int, x28 = aI v1 x27 → iR x28 → (
qJ6_bitCount_0f7a4 x28 M26 (fun (x29 : Int) (M29 : Mem) => iR x29 → (
qX4_tellTwo v3 x29 M29 (fun (M30 : Mem) =>  (
Q v2 M30))))))))))) ∧
((v2 = (-1)) → (Q (-2) M))))) Q n22 x3 (-1) (-1) 0 M3)))))
def qX11_crowd_J87  (R : Int → Int → Int → Mem → Prop) (X101 : Int → Int → Mem → Prop) (Q : Int → Mem → Prop) (v2 : Int) (v3 : Int) (v4 : Int) (t0 : Int) (M : Mem) : Prop := iR v2 ∧ (
iR v4 ∧ (
∀ x15 : Int, x15 = max v2 v4 → iR x15 → (
R t0 x15 (v3 + 1) M)))
def qX11_crowd_L45  (X101 : Int → Int → Mem → Prop) (Q : Int → Mem → Prop) : Nat → Int → Int → Int → Mem → Prop
  | 0, _, _, _, _ => False
  | n + 1, v1, v2, v3, M => ∀ x6 : Int, x6 = M 8 6 → iR x6 → (
iR v3 ∧ (
(((x6 ≤ v3) → (X101 v1 v2 M)) ∧
((¬ (x6 ≤ v3)) → (qX6_bitsOf 8 14 v3 M (fun (x9 : Int) (M9 : Mem) => iR x9 → (
qJ6_bitCount_0f7a4 x9 M9 (fun (x10 : Int) (M10 : Mem) => iR x10 → (
iR v2 ∧ (
(((x10 ≤ v2) → (qX11_crowd_J87  (qX11_crowd_L45  X101 Q n) X101 Q v2 v3 x10 v1 M10)) ∧
((¬ (x10 ≤ v2)) → (qX11_crowd_J87  (qX11_crowd_L45  X101 Q n) X101 Q v2 v3 x10 v3 M10)))))))))))))
def qX11_crowd  (M : Mem) (Q : Int → Mem → Prop) : Prop := ∀ x1 : Int, x1 = M 1 6 → iR x1 → (
(((¬ x1 = 0) → (qX6_copyFrom 8 1 M (fun (M3 : Mem) =>  (
isL (M3 155 16).toNat ∧ (
qX10_toEnd 8 (M3 155 16).toNat M3 (fun (M5 : Mem) =>  (
∃ n16 : Nat, qX11_crowd_L45  (fun (v1 : Int) (v2 : Int) (M : Mem) => iR v2 ∧ (
qX6_rightBits 8 M (fun (x18 : Int) (M18 : Mem) => iR x18 → (
iR v1 ∧ (
qX6_bitsOf 8 12 v1 M18 (fun (x20 : Int) (M20 : Mem) => iR x20 → (
∀ x21 : Int, x21 = aI x18 x20 → iR x21 → (
qJ6_bitCount_0f7a4 x21 M20 (fun (x22 : Int) (M22 : Mem) => iR x22 → (
qX4_tellTwo v2 x22 M22 (fun (M23 : Mem) =>  (
Q v1 M23)))))))))))) Q n16 0 (-1) 0 M5))))))) ∧
((x1 = 0) → (Q (-2) M))))
def qX7_canHave (k1 : Nat) (p2 : Int) (p3 : Int) (p4 : Int) (M : Mem) (Q : Int → Mem → Prop) : Prop := ∀ x1 : Int, x1 = srI p4 p3 → iR x1 → (
∀ x2 : Int, x2 = aI x1 1 → iR x2 → (
(((¬ x2 = 0) → (Q 0 M)) ∧
((x2 = 0) → (qX6_hasEnded k1 p2 M (fun (x4 : Int) (M4 : Mem) => iR x4 → (x4 = 0 ∨ x4 = 1) → (
(((¬ x4 = 0) → (Q 0 M4)) ∧
((x4 = 0) → (qX6_hasArrived k1 p3 M4 (fun (x6 : Int) (M6 : Mem) => iR x6 → (x6 = 0 ∨ x6 = 1) → (
(((¬ x6 = 0) → (Q 0 M6)) ∧
((x6 = 0) → ((0 ≤ p3) ∧ (
(p3 < 6) ∧ (
∀ x10 : Int, x10 = M6 (k1 + 1) p3 → iR x10 → (
(0 ≤ p2) ∧ (
(p2 < 8) ∧ (
∀ x13 : Int, x13 = M6 (k1 + 3) p2 → iR x13 → (
iR (x10 - x13) ∧ (
∀ x15 : Int, (0 ≤ (x10 - x13) → x15 = (x10 - x13)) → ((x10 - x13) < 0 → x15 = -(x10 - x13)) → (
∀ x16 : Int, x16 = M6 168 1 → iR x16 → (
iR x15 ∧ (
(((x16 < x15) → (Q 0 M6)) ∧
((¬ (x16 < x15)) → (Q 1 M6))))))))))))))))))))))))))))
def qX7_choice_L30 (k1 : Nat) (p2 : Int) (p3 : Int)  (Q : Int → Mem → Prop) : Nat → Int → Int → Mem → Prop
  | 0, _, _, _ => False
  | n + 1, v4, v5, M => ∀ x10 : Int, x10 = M k1 6 → iR x10 → (
iR v5 ∧ (
(((x10 ≤ v5) → (Q (-1) M)) ∧
((¬ (x10 ≤ v5)) → (qX7_canHave k1 p2 v5 p3 M (fun (x13 : Int) (M13 : Mem) => iR x13 → (x13 = 0 ∨ x13 = 1) → (
(((x13 = 0) → (qX7_choice_L30 k1 p2 p3  Q n v4 (v5 + 1) M13)) ∧
((¬ (x13 = 0)) → ((0 ≤ (p2 + 1)) ∧ (
((p2 + 1) < 9) ∧ (
∀ x17 : Int, x17 = slI 1 v5 → iR x17 → (
∀ x18 : Int, x18 = oI p3 x17 → iR x18 → (
(0 ≤ x18) ∧ (
(x18 < 64) ∧ (
∀ x21 : Int, x21 = M13 (170 + (p2 + 1).toNat) x18 → iR x21 → (
iR (1 + x21) ∧ (
iR v4 ∧ (
(((¬ (1 + x21) = v4) → (qX7_choice_L30 k1 p2 p3  Q n v4 (v5 + 1) M13)) ∧
(((1 + x21) = v4) → (Q v5 M13))))))))))))))))))))))
def qX7_choice (k1 : Nat) (p2 : Int) (p3 : Int) (M : Mem) (Q : Int → Mem → Prop) : Prop := (0 ≤ p2) ∧ (
(p2 < 9) ∧ (
(0 ≤ p3) ∧ (
(p3 < 64) ∧ (
∀ x5 : Int, x5 = M (170 + p2.toNat) p3 → iR x5 → (
(0 ≤ (p2 + 1)) ∧ (
((p2 + 1) < 9) ∧ (
∀ x8 : Int, x8 = M (170 + (p2 + 1).toNat) p3 → iR x8 → (
(((¬ x8 = x5) → (∃ n25 : Nat, qX7_choice_L30 k1 p2 p3  Q n25 x5 0 M)) ∧
((x8 = x5) → (Q (-1) M)))))))))))
def qX7_mostFrom_L15 (k1 : Nat) (p2 : Int) (p3 : Int)  (Q : Int → Mem → Prop) : Nat → Int → Int → Mem → Prop
  | 0, _, _, _ => False
  | n + 1, v4, v5, M => ∀ x6 : Int, x6 = M k1 6 → iR x6 → (
iR v5 ∧ (
(((x6 ≤ v5) → (iR v4 ∧ (
Q v4 M))) ∧
((¬ (x6 ≤ v5)) → (qX7_canHave k1 p2 v5 p3 M (fun (x10 : Int) (M10 : Mem) => iR x10 → (x10 = 0 ∨ x10 = 1) → (
(((x10 = 0) → (qX7_mostFrom_L15 k1 p2 p3  Q n v4 (v5 + 1) M10)) ∧
((¬ (x10 = 0)) → ((0 ≤ (p2 + 1)) ∧ (
((p2 + 1) < 9) ∧ (
∀ x14 : Int, x14 = slI 1 v5 → iR x14 → (
∀ x15 : Int, x15 = oI p3 x14 → iR x15 → (
(0 ≤ x15) ∧ (
(x15 < 64) ∧ (
∀ x18 : Int, x18 = M10 (170 + (p2 + 1).toNat) x15 → iR x18 → (
iR v4 ∧ (
iR (1 + x18) ∧ (
∀ x21 : Int, x21 = max v4 (1 + x18) → iR x21 → (
qX7_mostFrom_L15 k1 p2 p3  Q n x21 (v5 + 1) M10))))))))))))))))))))
def qX7_mostFrom (k1 : Nat) (p2 : Int) (p3 : Int) (M : Mem) (Q : Int → Mem → Prop) : Prop := (0 ≤ (p2 + 1)) ∧ (
((p2 + 1) < 9) ∧ (
(0 ≤ p3) ∧ (
(p3 < 64) ∧ (
∀ x5 : Int, x5 = M (170 + (p2 + 1).toNat) p3 → iR x5 → (
∃ n22 : Nat, qX7_mostFrom_L15 k1 p2 p3  Q n22 x5 0 M)))))
def qX7_weigh_L15 (k1 : Nat) (p2 : Int) (X40 : Int → Mem → Prop) (Q : Int → Mem → Prop) : Nat → Int → Int → Mem → Prop
  | 0, _, _, _ => False
  | n + 1, v3, v4, M => iR v4 ∧ (
iR v3 ∧ (
(((v3 ≤ v4) → (X40 v3 M)) ∧
((¬ (v3 ≤ v4)) → (∀ x7 : Int, x7 = M k1 7 → iR x7 → (
(0 ≤ x7) ∧ (
(x7 < 9) ∧ (
(0 ≤ v4) ∧ (
(v4 < 64) ∧ (
∀ M12 : Mem, M12 = up2 M (170 + x7.toNat) v4 0 → (
qX7_weigh_L15 k1 p2 X40 Q n v3 (v4 + 1) M12)))))))))))
def qX7_weigh_L56 (k1 : Nat) (p2 : Int) (X87 : Int → Int → Mem → Prop) (Q : Int → Mem → Prop) : Nat → Int → Int → Int → Mem → Prop
  | 0, _, _, _, _ => False
  | n + 1, v3, v4, v5, M => iR v5 ∧ (
iR v3 ∧ (
(((v3 ≤ v5) → (X87 v3 v4 M)) ∧
((¬ (v3 ≤ v5)) → ((0 ≤ v4) ∧ (
(v4 < 9) ∧ (
iR v4 ∧ (
qX7_mostFrom k1 v4 v5 M (fun (x24 : Int) (M24 : Mem) => iR x24 → (
(0 ≤ v5) ∧ (
(v5 < 64) ∧ (
∀ M27 : Mem, M27 = up2 M24 (170 + v4.toNat) v5 x24 → (
qX7_weigh_L56 k1 p2 X87 Q n v3 v4 (v5 + 1) M27)))))))))))))
def qX7_weigh_L48 (k1 : Nat) (p2 : Int)  (Q : Int → Mem → Prop) : Nat → Int → Int → Mem → Prop
  | 0, _, _, _ => False
  | n + 1, v3, v4, M => iR v4 ∧ (
(((v4 < 0) → (∀ x17 : Int, x17 = M 170 0 → iR x17 → (
Q x17 M))) ∧
((¬ (v4 < 0)) → (∃ n28 : Nat, qX7_weigh_L56 k1 p2 (fun (v3 : Int) (v4 : Int) (M : Mem) => qX7_weigh_L48 k1 p2  Q n v3 (v4 + (-1)) M) Q n28 v3 v4 0 M))))
def qX7_weigh (k1 : Nat) (p2 : Int) (M : Mem) (Q : Int → Mem → Prop) : Prop := ∀ M1 : Mem, M1 = up2 M 168 1 p2 → (
∀ x2 : Int, x2 = M1 k1 6 → iR x2 → (
∀ x3 : Int, x3 = slI 1 x2 → iR x3 → (
∃ n13 : Nat, qX7_weigh_L15 k1 p2 (fun (v3 : Int) (M : Mem) => ∀ x14 : Int, x14 = M k1 7 → iR x14 → (
∃ n29 : Nat, qX7_weigh_L48 k1 p2  Q n29 v3 (x14 - 1) M)) Q n13 x3 0 M1)))
def qX11_shares_J80 (p1 : Int) (R : Int → Int → Int → Mem → Prop)  (Q : Int → Mem → Prop) (v2 : Int) (v4 : Int) (v5 : Int) (t0 : Int) (t1 : Int) (M : Mem) : Prop := ∀ x13 : Int, x13 = oI t1 t0 → iR x13 → (
iR v5 ∧ (
qX4_add v5 M (fun (M15 : Mem) =>  (
R v2 x13 (v4 + 1) M15))))
def qX11_shares_L37 (p1 : Int)  (Q : Int → Mem → Prop) : Nat → Int → Int → Int → Mem → Prop
  | 0, _, _, _, _ => False
  | n + 1, v2, v3, v4, M => ∀ x5 : Int, x5 = M 1 7 → iR x5 → (
iR v4 ∧ (
(((x5 ≤ v4) → (iR v2 ∧ (
Q v2 M))) ∧
((¬ (x5 ≤ v4)) → (iR v3 ∧ (
qX7_choice 1 v4 v3 M (fun (x10 : Int) (M10 : Mem) => iR x10 → (
(((¬ x10 = (-1)) → (∀ x12 : Int, x12 = slI 1 x10 → iR x12 → (
qX11_shares_J80 p1 (qX11_shares_L37 p1  Q n)  Q v2 v4 x10 x12 v3 M10))) ∧
((x10 = (-1)) → (qX11_shares_J80 p1 (qX11_shares_L37 p1  Q n)  Q v2 v4 x10 0 v3 M10)))))))))))
def qX11_shares (p1 : Int) (M : Mem) (Q : Int → Mem → Prop) : Prop := (((p1 < 0) → (Q (-1) M)) ∧
((¬ (p1 < 0)) → ((((p1 ≤ 30) → (qX7_weigh 1 p1 M (fun (x3 : Int) (M3 : Mem) => iR x3 → (
qX4_clear  M3 (fun (M4 : Mem) =>  (
∃ n16 : Nat, qX11_shares_L37 p1  Q n16 x3 0 0 M4)))))) ∧
((¬ (p1 ≤ 30)) → (Q (-1) M))))))
def qX11_strangers_J79  (R : Int → Int → Int → Mem → Prop) (X136 : Int → Int → Mem → Prop) (Q : Int → Mem → Prop) (v1 : Int) (v2 : Int) (v3 : Int) (t0 : Int) (M : Mem) : Prop := (0 ≤ v2) ∧ (
(v2 < 8) ∧ (
∀ x12 : Int, x12 = M 4 v2 → iR x12 → (
(0 ≤ v3) ∧ (
(v3 < 8) ∧ (
∀ x15 : Int, x15 = M 4 v3 → iR x15 → (
iR (x12 - x15) ∧ (
∀ x17 : Int, (0 ≤ (x12 - x15) → x17 = (x12 - x15)) → ((x12 - x15) < 0 → x17 = -(x12 - x15)) → (
iR t0 ∧ (
(((t0 = 0) → (R v1 v2 (v3 + 1) M)) ∧
((¬ (t0 = 0)) → (iR x17 ∧ (
iR v1 ∧ (
(((v1 ≤ x17) → (R v1 v2 (v3 + 1) M)) ∧
((¬ (v1 ≤ x17)) → (iR v2 ∧ (
iR v3 ∧ (
qX4_tellTwo v2 v3 M (fun (M25 : Mem) =>  (
R x17 v2 (v3 + 1) M25)))))))))))))))))))))
def qX11_strangers_J78  (R : Int → Int → Int → Mem → Prop) (X136 : Int → Int → Mem → Prop) (Q : Int → Mem → Prop) (v1 : Int) (v2 : Int) (v3 : Int) (M : Mem) : Prop := qX11_strangers_J79  (R) X136 Q v1 v2 v3 0 M
def qX11_strangers_L20  (X136 : Int → Int → Mem → Prop) (Q : Int → Mem → Prop) : Nat → Int → Int → Int → Mem → Prop
  | 0, _, _, _, _ => False
  | n + 1, v1, v2, v3, M => ∀ x4 : Int, x4 = M 1 7 → iR x4 → (
iR v3 ∧ (
(((x4 ≤ v3) → (X136 v1 v2 M)) ∧
((¬ (x4 ≤ v3)) → (iR v2 ∧ (
qX6_hasEnded 1 v2 M (fun (x8 : Int) (M8 : Mem) => iR x8 → (x8 = 0 ∨ x8 = 1) → (
(((¬ x8 = 0) → (qX11_strangers_J78  (qX11_strangers_L20  X136 Q n) X136 Q v1 v2 v3 M8)) ∧
((x8 = 0) → (qX6_hasEnded 1 v3 M8 (fun (x26 : Int) (M26 : Mem) => iR x26 → (x26 = 0 ∨ x26 = 1) → (
(((¬ x26 = 0) → (qX11_strangers_J78  (qX11_strangers_L20  X136 Q n) X136 Q v1 v2 v3 M26)) ∧
((x26 = 0) → ((0 ≤ v2) ∧ (
(v2 < 8) ∧ (
∀ x30 : Int, x30 = M26 5 v2 → iR x30 → (
(0 ≤ v3) ∧ (
(v3 < 8) ∧ (
∀ x33 : Int, x33 = M26 5 v3 → iR x33 → (
(((x30 = x33) → (qX11_strangers_J78  (qX11_strangers_L20  X136 Q n) X136 Q v1 v2 v3 M26)) ∧
((¬ (x30 = x33)) → (qX11_strangers_J79  (qX11_strangers_L20  X136 Q n) X136 Q v1 v2 v3 1 M26)))))))))))))))))))))))))
def qX11_strangers_L5  (X142 : Int → Mem → Prop) (Q : Int → Mem → Prop) : Nat → Int → Int → Mem → Prop
  | 0, _, _, _ => False
  | n + 1, v1, v2, M => ∀ x1 : Int, x1 = M 1 7 → iR x1 → (
iR v2 ∧ (
(((x1 ≤ v2) → (X142 v1 M)) ∧
((¬ (x1 ≤ v2)) → (∃ n35 : Nat, qX11_strangers_L20  (fun (v1 : Int) (v2 : Int) (M : Mem) => qX11_strangers_L5  X142 Q n v1 (v2 + 1) M) Q n35 v1 v2 (v2 + 1) M)))))
def qX11_strangers  (M : Mem) (Q : Int → Mem → Prop) : Prop := ∃ n36 : Nat, qX11_strangers_L5  (fun (v1 : Int) (M : Mem) => iR v1 ∧ (
(((30 ≤ v1) → (Q (-2) M)) ∧
((¬ (30 ≤ v1)) → (Q v1 M))))) Q n36 30 0 M
def qX6_isInDoubt (k0 : Nat) (p1 : Int) (M : Mem) (Q : Int → Mem → Prop) : Prop := (0 ≤ p1) ∧ (
(p1 < 8) ∧ (
∀ x3 : Int, x3 = M (k0 + 3) p1 → iR x3 → (
qX6_nearestTo k0 x3 M (fun (x4 : Int) (M4 : Mem) => iR x4 → (
(((¬ x4 = (-1)) → ((0 ≤ x4) ∧ (
(x4 < 6) ∧ (
∀ x8 : Int, x8 = M4 (k0 + 1) x4 → iR x8 → (
iR ((2 * x3) - x8) ∧ (
(((((2 * x3) - x8) < 0) → (Q 0 M4)) ∧
((¬ (((2 * x3) - x8) < 0)) → (∀ x11 : Int, x11 = M4 (k0 + 1) x4 → iR x11 → (
(((((2 * x3) - x8) = x11) → (Q 0 M4)) ∧
((¬ (((2 * x3) - x8) = x11)) → (qX6_hearseOn k0 ((2 * x3) - x8) M4 (fun (x13 : Int) (M13 : Mem) => iR x13 → (
(((x13 = (-1)) → (Q 0 M13)) ∧
((¬ (x13 = (-1))) → (Q 1 M13)))))))))))))))))) ∧
((x4 = (-1)) → (Q 0 M4))))))))
def qX11_doubts_L4  (X42 : Int → Mem → Prop) (Q : Int → Mem → Prop) : Nat → Int → Int → Mem → Prop
  | 0, _, _, _ => False
  | n + 1, v1, v2, M => ∀ x1 : Int, x1 = M 1 7 → iR x1 → (
iR v2 ∧ (
(((x1 ≤ v2) → (X42 v1 M)) ∧
((¬ (x1 ≤ v2)) → (qX6_isInDoubt 1 v2 M (fun (x4 : Int) (M4 : Mem) => iR x4 → (x4 = 0 ∨ x4 = 1) → (
(((x4 = 0) → (∀ x6 : Int, x6 = oI v1 0 → iR x6 → (
qX11_doubts_L4  X42 Q n x6 (v2 + 1) M4))) ∧
((¬ (x4 = 0)) → (∀ x7 : Int, x7 = slI 1 v2 → iR x7 → (
∀ x8 : Int, x8 = oI v1 x7 → iR x8 → (
qX11_doubts_L4  X42 Q n x8 (v2 + 1) M4))))))))))))
def qX11_doubts  (M : Mem) (Q : Int → Mem → Prop) : Prop := ∃ n9 : Nat, qX11_doubts_L4  (fun (v1 : Int) (M : Mem) => iR v1 ∧ (
qJ6_bitCount_0f7a4 v1 M (fun (x11 : Int) (M11 : Mem) => iR x11 → (
qX4_tellOne x11 M11 (fun (M12 : Mem) =>  (
Q v1 M12)))))) Q n9 0 0 M
def qX0_canBe (p0 : Int) (p1 : Int) (M : Mem) (Q : Int → Mem → Prop) : Prop := ((p0 = 0 → ((((p1 < 0) → (Q 0 M)) ∧
((¬ (p1 < 0)) → ((((8 < p1) → (Q 0 M)) ∧
((¬ (8 < p1)) → (Q 1 M)))))))) ∧
(p0 = 1 → ((((p1 < 1) → (Q 0 M)) ∧
((¬ (p1 < 1)) → ((((6 < p1) → (Q 0 M)) ∧
((¬ (6 < p1)) → (Q 1 M)))))))) ∧
(p0 = 2 → ((((p1 < 0) → (Q 0 M)) ∧
((¬ (p1 < 0)) → ((((8 < p1) → (Q 0 M)) ∧
((¬ (8 < p1)) → (Q 1 M)))))))) ∧
(p0 = 3 → ((((p1 = 0) → (Q 1 M)) ∧
((¬ (p1 = 0)) → ((((¬ p1 = 1) → (Q 0 M)) ∧
((p1 = 1) → (Q 1 M)))))))) ∧
((p0 < 0 ∨ 3 < p0) → (Q 0 M)))
def qX0_add (p1 : Int) (p2 : Int) (M : Mem) (Q : Int → Mem → Prop) : Prop := ∀ x1 : Int, x1 = M 182 2 → iR x1 → (
(((8 ≤ x1) → (Q 0 M)) ∧
((¬ (8 ≤ x1)) → (qX0_canBe p1 p2 M (fun (x3 : Int) (M3 : Mem) => iR x3 → (x3 = 0 ∨ x3 = 1) → (
(((¬ x3 = 0) → (∀ x5 : Int, x5 = M3 182 2 → iR x5 → (
(0 ≤ x5) ∧ (
(x5 < 8) ∧ (
∀ M8 : Mem, M8 = up2 M3 183 x5 p1 → (
∀ x9 : Int, x9 = M8 182 2 → iR x9 → (
(0 ≤ x9) ∧ (
(x9 < 8) ∧ (
∀ M12 : Mem, M12 = up2 M8 184 x9 p2 → (
∀ x13 : Int, x13 = M12 182 2 → iR x13 → (
iR (x13 + 1) ∧ (
∀ M15 : Mem, M15 = up2 M12 182 2 (x13 + 1) → (
Q 1 M15))))))))))))) ∧
((x3 = 0) → (Q 0 M3)))))))))
def qX11_heard (p1 : Int) (p2 : Int) (M : Mem) (Q : Int → Mem → Prop) : Prop := qX0_add p1 p2 M (fun (x1 : Int) (M1 : Mem) => iR x1 → (x1 = 0 ∨ x1 = 1) → (
(((x1 = 0) → (Q (-1) M1)) ∧
((¬ (x1 = 0)) → (∀ x3 : Int, x3 = M1 182 2 → iR x3 → (
Q x3 M1))))))
def qX11_forget  (M : Mem) (Q : Int → Mem → Prop) : Prop := ∀ x1 : Int, x1 = M 182 2 → iR x1 → (
∀ M2 : Mem, M2 = up2 M 182 2 0 → (
Q x1 M2))
def qX0_isOneTrueOf (k1 : Nat) (p2 : Int) (p3 : Int) (M : Mem) (Q : Int → Mem → Prop) : Prop := (0 ≤ p3) ∧ (
(p3 < 8) ∧ (
∀ x3 : Int, x3 = M 183 p3 → iR x3 → (
((x3 = 0 → (qX6_bitsOf k1 (k1 + 4) p2 M (fun (x5 : Int) (M5 : Mem) => iR x5 → (
qJ6_bitCount_0f7a4 x5 M5 (fun (x6 : Int) (M6 : Mem) => iR x6 → (
∀ x7 : Int, x7 = M6 184 p3 → iR x7 → (
(((x6 < x7) → (Q 0 M6)) ∧
((¬ (x6 < x7)) → (Q 1 M6)))))))))) ∧
(x3 = 1 → ((0 ≤ p2) ∧ (
(p2 < 6) ∧ (
∀ x11 : Int, x11 = M (k1 + 2) p2 → iR x11 → (
∀ x12 : Int, x12 = M 184 p3 → iR x12 → (
(((¬ x11 = x12) → (Q 0 M)) ∧
((x11 = x12) → (Q 1 M))))))))) ∧
(x3 = 2 → (qX6_bitsOf k1 (k1 + 6) p2 M (fun (x14 : Int) (M14 : Mem) => iR x14 → (
qJ6_bitCount_0f7a4 x14 M14 (fun (x15 : Int) (M15 : Mem) => iR x15 → (
∀ x16 : Int, x16 = M15 184 p3 → iR x16 → (
(((x15 < x16) → (Q 0 M15)) ∧
((¬ (x15 < x16)) → (Q 1 M15)))))))))) ∧
((x3 < 0 ∨ 2 < x3) → (∀ x18 : Int, x18 = rmI p2 2 → iR x18 → (
∀ x19 : Int, x19 = M 184 p3 → iR x19 → (
(((¬ x18 = x19) → (Q 0 M)) ∧
((x18 = x19) → (Q 1 M)))))))))))
def qX0_isTrueOf_L2 (k1 : Nat) (p2 : Int)  (Q : Int → Mem → Prop) : Nat → Int → Mem → Prop
  | 0, _, _ => False
  | n + 1, v3, M => ∀ x1 : Int, x1 = M 182 2 → iR x1 → (
iR v3 ∧ (
(((x1 ≤ v3) → (Q 1 M)) ∧
((¬ (x1 ≤ v3)) → (qX0_isOneTrueOf k1 p2 v3 M (fun (x4 : Int) (M4 : Mem) => iR x4 → (x4 = 0 ∨ x4 = 1) → (
(((¬ x4 = 0) → (qX0_isTrueOf_L2 k1 p2  Q n (v3 + 1) M4)) ∧
((x4 = 0) → (Q 0 M4))))))))))
def qX0_isTrueOf (k1 : Nat) (p2 : Int) (M : Mem) (Q : Int → Mem → Prop) : Prop := ∃ n6 : Nat, qX0_isTrueOf_L2 k1 p2  Q n6 0 M
def qX11_fits_L33  (X75 : Int → Mem → Prop) (Q : Int → Mem → Prop) : Nat → Int → Int → Mem → Prop
  | 0, _, _, _ => False
  | n + 1, v1, v2, M => ∀ x4 : Int, x4 = M 8 6 → iR x4 → (
iR v2 ∧ (
(((x4 ≤ v2) → (X75 v1 M)) ∧
((¬ (x4 ≤ v2)) → (qX0_isTrueOf 8 v2 M (fun (x7 : Int) (M7 : Mem) => iR x7 → (x7 = 0 ∨ x7 = 1) → (
(((x7 = 0) → (∀ x9 : Int, x9 = oI v1 0 → iR x9 → (
qX11_fits_L33  X75 Q n x9 (v2 + 1) M7))) ∧
((¬ (x7 = 0)) → (∀ x10 : Int, x10 = slI 1 v2 → iR x10 → (
∀ x11 : Int, x11 = oI v1 x10 → iR x11 → (
qX11_fits_L33  X75 Q n x11 (v2 + 1) M7))))))))))))
def qX11_fits  (M : Mem) (Q : Int → Mem → Prop) : Prop := qX6_copyFrom 8 1 M (fun (M1 : Mem) =>  (
isL (M1 155 16).toNat ∧ (
qX10_walk 8 (M1 155 16).toNat 200 M1 (fun (M3 : Mem) =>  (
∃ n12 : Nat, qX11_fits_L33  (fun (v1 : Int) (M : Mem) => iR v1 ∧ (
qJ6_bitCount_0f7a4 v1 M (fun (x14 : Int) (M14 : Mem) => iR x14 → (
qX4_tellOne x14 M14 (fun (M15 : Mem) =>  (
Q v1 M15)))))) Q n12 0 0 M3)))))
def qX11_commonDivisor_L9 (p0 : Int) (p2 : Int)  (Q : Int → Mem → Prop) : Nat → Int → Int → Int → Mem → Prop
  | 0, _, _, _, _ => False
  | n + 1, v4, v6, v8, M => iR v8 ∧ (
(((100 ≤ v8) → (lR v4 ∧ (
Q v4 M))) ∧
((¬ (100 ≤ v8)) → (lR v6 ∧ (
∀ x5 : Int, iR x5 → ((x5 = -1 ∧ v6 < 0) ∨ (x5 = 0 ∧ v6 = 0) ∨ (x5 = 1 ∧ 0 < v6)) → (
(((x5 ≤ 0) → (lR v4 ∧ (
Q v4 M))) ∧
((¬ (x5 ≤ 0)) → ((¬ v6 = 0) ∧ (
∀ x9 : Int, x9 = rmL v4 v6 → lR x9 → (
qX11_commonDivisor_L9 p0 p2  Q n v6 x9 (v8 + 1) M)))))))))))
def qX11_commonDivisor (p0 : Int) (p2 : Int) (M : Mem) (Q : Int → Mem → Prop) : Prop := ∃ n10 : Nat, qX11_commonDivisor_L9 p0 p2  Q n10 p0 p2 0 M
def qX11_power_L5 (p0 : Int) (p2 : Int)  (Q : Int → Mem → Prop) : Nat → Int → Int → Mem → Prop
  | 0, _, _, _ => False
  | n + 1, v3, v5, M => iR v5 ∧ (
(((p2 ≤ v5) → (lR v3 ∧ (
Q v3 M))) ∧
((¬ (p2 ≤ v5)) → (∀ x4 : Int, x4 = w64 (v3 * p0) → lR x4 → (
qX11_power_L5 p0 p2  Q n x4 (v5 + 1) M)))))
def qX11_power (p0 : Int) (p2 : Int) (M : Mem) (Q : Int → Mem → Prop) : Prop := ∃ n5 : Nat, qX11_power_L5 p0 p2  Q n5 1 0 M
def qX11_rains_J88 (p1 : Int) (p2 : Int) (p3 : Int) (R : Int → Int → Int → Mem → Prop) (X112 : Int → Mem → Prop) (Q : Int → Mem → Prop) (v4 : Int) (v6 : Int) (v8 : Int) (M : Mem) : Prop := ∀ x11 : Int, x11 = w32 (p1 - 1) → iR x11 → (
∀ x12 : Int, x12 = w32 (x11 - v8) → iR x12 → (
∀ x13 : Int, x13 = w64 (v6 * x12) → lR x13 → (
iR (v8 + 1) ∧ (
(¬ (v8 + 1) = 0) ∧ (
∀ x16 : Int, x16 = dvL x13 (v8 + 1) → lR x16 → (
R v4 x16 (v8 + 1) M))))))
def qX11_rains_L42 (p1 : Int) (p2 : Int) (p3 : Int) (X112 : Int → Mem → Prop) (Q : Int → Mem → Prop) : Nat → Int → Int → Int → Mem → Prop
  | 0, _, _, _, _ => False
  | n + 1, v4, v6, v8, M => iR v8 ∧ (
(((p1 ≤ v8) → (X112 v4 M)) ∧
((¬ (p1 ≤ v8)) → (iR (v8 + 1) ∧ (
((((v8 + 1) < p2) → (qX11_rains_J88 p1 p2 p3 (qX11_rains_L42 p1 p2 p3 X112 Q n) X112 Q v4 v6 v8 M)) ∧
((¬ ((v8 + 1) < p2)) → (qX11_power p3 (v8 + 1) M (fun (x17 : Int) (M17 : Mem) => lR x17 → (
∀ x18 : Int, x18 = w64 (v6 * x17) → lR x18 → (
∀ x19 : Int, x19 = w32 (10 - p3) → iR x19 → (
∀ x20 : Int, x20 = w32 (p1 - 1) → iR x20 → (
∀ x21 : Int, x21 = w32 (x20 - v8) → iR x21 → (
qX11_power x19 x21 M17 (fun (x22 : Int) (M22 : Mem) => lR x22 → (
∀ x23 : Int, x23 = w64 (x18 * x22) → lR x23 → (
∀ x24 : Int, x24 = w64 (v4 + x23) → lR x24 → (
qX11_rains_J88 p1 p2 p3 (qX11_rains_L42 p1 p2 p3 X112 Q n) X112 Q x24 v6 v8 M22))))))))))))))))))
def qX11_rains (p1 : Int) (p2 : Int) (p3 : Int) (M : Mem) (Q : Int → Mem → Prop) : Prop := (((p1 < 1) → (Q (-1) M)) ∧
((¬ (p1 < 1)) → ((((12 < p1) → (Q (-1) M)) ∧
((¬ (12 < p1)) → ((((p2 < 0) → (Q (-1) M)) ∧
((¬ (p2 < 0)) → ((((12 < p2) → (Q (-1) M)) ∧
((¬ (12 < p2)) → ((((p3 < 0) → (Q (-1) M)) ∧
((¬ (p3 < 0)) → ((((p3 ≤ 10) → (∃ n25 : Nat, qX11_rains_L42 p1 p2 p3 (fun (v4 : Int) (M : Mem) => qX11_power 10 p1 M (fun (x26 : Int) (M26 : Mem) => lR x26 → (
lR v4 ∧ (
qX11_commonDivisor v4 x26 M26 (fun (x28 : Int) (M28 : Mem) => lR x28 → (
∀ x29 : Int, iR x29 → ((x29 = -1 ∧ x28 < 1) ∨ (x29 = 0 ∧ x28 = 1) ∨ (x29 = 1 ∧ 1 < x28)) → (
(((0 ≤ x29) → ((¬ x28 = 0) ∧ (
∀ x32 : Int, x32 = dvL v4 x28 → lR x32 → (
(¬ x28 = 0) ∧ (
∀ x34 : Int, x34 = dvL x26 x28 → lR x34 → (
qX4_tellTwo x32 x34 M28 (fun (M35 : Mem) =>  (
Q 0 M35)))))))) ∧
((¬ (0 ≤ x29)) → (Q (-1) M28)))))))))) Q n25 0 1 0 M)) ∧
((¬ (p3 ≤ 10)) → (Q (-1) M))))))))))))))))))
def qX11_law  (M : Mem) (Q : Int → Mem → Prop) : Prop := isL (M 155 17).toNat ∧ (
qX5_read (M 155 17).toNat M (fun (x2 : Int) (M2 : Mem) => iR x2 → (
qX9_clear  M2 (fun (M3 : Mem) =>  (
(((x2 = (-1)) → (qX6_copyFrom 8 1 M3 (fun (M5 : Mem) =>  (
isL (M5 155 17).toNat ∧ (
qX11_rightOnesOfTrial (M5 155 17).toNat M5 (fun (x7 : Int) (M7 : Mem) => iR x7 → (
qJ6_bitCount_0f7a4 x7 M7 (fun (x8 : Int) (M8 : Mem) => iR x8 → (
qX6_copyFrom 8 1 M8 (fun (M9 : Mem) =>  (
isL (M9 155 16).toNat ∧ (
qX11_rightOnesOfTrial (M9 155 16).toNat M9 (fun (x11 : Int) (M11 : Mem) => iR x11 → (
qJ6_bitCount_0f7a4 x11 M11 (fun (x12 : Int) (M12 : Mem) => iR x12 → (
qX4_tellTwo x8 x12 M12 (fun (M13 : Mem) =>  (
iR (x8 - x12) ∧ (
Q (x8 - x12) M13))))))))))))))))))) ∧
((¬ (x2 = (-1))) → (iR ((-10000) - x2) ∧ (
Q ((-10000) - x2) M3)))))))))
def qX11_gain_J21 (p0 : Int) (p1 : Int) (p2 : Int) (Q : Int → Mem → Prop) (v3 : Int) (M : Mem) : Prop := iR (2 * p1) ∧ (
(((p0 ≤ (2 * p1)) → (iR ((v3 - p0) - 0) ∧ (
Q ((v3 - p0) - 0) M))) ∧
((¬ (p0 ≤ (2 * p1))) → (iR ((v3 - p0) - 3) ∧ (
Q ((v3 - p0) - 3) M)))))
def qX11_gain (p0 : Int) (p1 : Int) (p2 : Int) (M : Mem) (Q : Int → Mem → Prop) : Prop := (((p0 ≤ p1) → ((((¬ p0 = p1) → (qX11_gain_J21 p0 p1 p2 Q 0 M)) ∧
((p0 = p1) → (∀ x7 : Int, x7 = dvI p2 2 → iR x7 → (
qX11_gain_J21 p0 p1 p2 Q x7 M)))))) ∧
((¬ (p0 ≤ p1)) → (qX11_gain_J21 p0 p1 p2 Q p2 M)))
def qX11_isBestAnswer_L10 (p0 : Int) (p1 : Int) (p2 : Int)  (Q : Int → Mem → Prop) : Nat → Int → Int → Mem → Prop
  | 0, _, _, _ => False
  | n + 1, v3, v4, M => iR v4 ∧ (
(((9 < v4) → (Q 1 M)) ∧
((¬ (9 < v4)) → (qX11_gain v4 p1 p2 M (fun (x4 : Int) (M4 : Mem) => iR x4 → (
iR v3 ∧ (
(((x4 ≤ v3) → (qX11_isBestAnswer_L10 p0 p1 p2  Q n v3 (v4 + 1) M4)) ∧
((¬ (x4 ≤ v3)) → (Q 0 M4))))))))))
def qX11_isBestAnswer (p0 : Int) (p1 : Int) (p2 : Int) (M : Mem) (Q : Int → Mem → Prop) : Prop := qX11_gain p0 p1 p2 M (fun (x1 : Int) (M1 : Mem) => iR x1 → (
∃ n7 : Nat, qX11_isBestAnswer_L10 p0 p1 p2  Q n7 x1 0 M1))
def qX11_rests_L32 (p1 : Int) (X85 : Int → Int → Mem → Prop) (Q : Int → Mem → Prop) : Nat → Int → Int → Int → Mem → Prop
  | 0, _, _, _, _ => False
  | n + 1, v2, v3, v4, M => iR v4 ∧ (
(((9 < v4) → (X85 v2 v3 M)) ∧
((¬ (9 < v4)) → (iR v3 ∧ (
qX11_isBestAnswer v3 v4 p1 M (fun (x10 : Int) (M10 : Mem) => iR x10 → (x10 = 0 ∨ x10 = 1) → (
(((x10 = 0) → (qX11_rests_L32 p1 X85 Q n v2 v3 (v4 + 1) M10)) ∧
((¬ (x10 = 0)) → (qX11_isBestAnswer v4 v3 p1 M10 (fun (x12 : Int) (M12 : Mem) => iR x12 → (x12 = 0 ∨ x12 = 1) → (
(((x12 = 0) → (qX11_rests_L32 p1 X85 Q n v2 v3 (v4 + 1) M12)) ∧
((¬ (x12 = 0)) → (iR (v2 + 1) ∧ (
(((¬ (v2 + 1) = 1) → (qX11_rests_L32 p1 X85 Q n (v2 + 1) v3 (v4 + 1) M12)) ∧
(((v2 + 1) = 1) → (qX4_tellTwo v3 v4 M12 (fun (M16 : Mem) =>  (
qX11_rests_L32 p1 X85 Q n (v2 + 1) v3 (v4 + 1) M16)))))))))))))))))))))
def qX11_rests_L23 (p1 : Int)  (Q : Int → Mem → Prop) : Nat → Int → Int → Mem → Prop
  | 0, _, _, _ => False
  | n + 1, v2, v3, M => iR v3 ∧ (
(((9 < v3) → (iR v2 ∧ (
Q v2 M))) ∧
((¬ (9 < v3)) → (∃ n17 : Nat, qX11_rests_L32 p1 (fun (v2 : Int) (v3 : Int) (M : Mem) => qX11_rests_L23 p1  Q n v2 (v3 + 1) M) Q n17 v2 v3 0 M))))
def qX11_rests (p1 : Int) (M : Mem) (Q : Int → Mem → Prop) : Prop := (((p1 < 0) → (Q (-1) M)) ∧
((¬ (p1 < 0)) → ((((p1 ≤ 20) → (qX4_clear  M (fun (M3 : Mem) =>  (
∃ n18 : Nat, qX11_rests_L23 p1  Q n18 0 0 M3)))) ∧
((¬ (p1 ≤ 20)) → (Q (-1) M))))))
def qX11_draw (p1 : Int) (M : Mem) (Q : Int → Mem → Prop) : Prop := ∀ x1 : Int, x1 = M 155 15 → iR x1 → (
∀ x2 : Int, x2 = w32 (x1 * 1103515245) → iR x2 → (
∀ x3 : Int, x3 = w32 (x2 + 12345) → iR x3 → (
∀ M4 : Mem, M4 = up2 M 155 15 x3 → (
(((1 ≤ p1) → (∀ x6 : Int, x6 = M4 155 15 → iR x6 → (
∀ x7 : Int, x7 = usI x6 16 → iR x7 → (
(¬ p1 = 0) ∧ (
∀ x9 : Int, x9 = rmI x7 p1 → iR x9 → (
Q x9 M4)))))) ∧
((¬ (1 ≤ p1)) → (Q 0 M4)))))))
def qX11_years_L31 (p1 : Int) (p2 : Int) (X155 : Mem → Prop) (Q : Int → Mem → Prop) : Nat → Int → Mem → Prop
  | 0, _, _ => False
  | n + 1, v3, M => iR v3 ∧ (
(((p2 ≤ v3) → (X155  M)) ∧
((¬ (p2 ≤ v3)) → (qX11_draw 4 M (fun (x7 : Int) (M7 : Mem) => iR x7 → (
(((2 ≤ x7) → ((((¬ x7 = 2) → (∀ x10 : Int, x10 = M7 8 7 → iR x10 → (
(((x10 ≤ 0) → (qX11_years_L31 p1 p2 X155 Q n (v3 + 1) M7)) ∧
((¬ (x10 ≤ 0)) → (∀ x12 : Int, x12 = M7 8 7 → iR x12 → (
qX11_draw x12 M7 (fun (x13 : Int) (M13 : Mem) => iR x13 → (
qX11_draw 5 M13 (fun (x14 : Int) (M14 : Mem) => iR x14 → (
iR (x14 - 2) ∧ (
qX6_shove 8 x13 (x14 - 2) M14 (fun (x16 : Int) (M16 : Mem) => iR x16 → (
qX11_years_L31 p1 p2 X155 Q n (v3 + 1) M16)))))))))))))) ∧
((x7 = 2) → (∀ x17 : Int, x17 = M7 8 7 → iR x17 → (
(((x17 ≤ 0) → (qX11_years_L31 p1 p2 X155 Q n (v3 + 1) M7)) ∧
((¬ (x17 ≤ 0)) → (∀ x19 : Int, x19 = M7 8 7 → iR x19 → (
qX11_draw x19 M7 (fun (x20 : Int) (M20 : Mem) => iR x20 → (
qX6_turn 8 x20 M20 (fun (x21 : Int) (M21 : Mem) => iR x21 → (
qX11_years_L31 p1 p2 X155 Q n (v3 + 1) M21)))))))))))))) ∧
((¬ (2 ≤ x7)) → (isL (M7 155 16).toNat ∧ (
qX10_advance 8 (M7 155 16).toNat M7 (fun (M23 : Mem) =>  (
qX11_years_L31 p1 p2 X155 Q n (v3 + 1) M23))))))))))))
def qX11_years (p1 : Int) (p2 : Int) (M : Mem) (Q : Int → Mem → Prop) : Prop := (((p2 < 1) → (Q (-1) M)) ∧
((¬ (p2 < 1)) → ((((p2 ≤ 60) → (qX6_copyFrom 8 1 M (fun (M3 : Mem) =>  (
∀ M4 : Mem, M4 = up2 M3 155 15 p1 → (
∃ n24 : Nat, qX11_years_L31 p1 p2 (fun  (M : Mem) => ∀ x25 : Int, x25 = M 8 9 → iR x25 → (
qX6_rightBits 8 M (fun (x26 : Int) (M26 : Mem) => iR x26 → (
qJ6_bitCount_0f7a4 x26 M26 (fun (x27 : Int) (M27 : Mem) => iR x27 → (
qX4_tellTwo x25 x27 M27 (fun (M28 : Mem) =>  (
∀ x29 : Int, x29 = M28 8 8 → iR x29 → (
Q x29 M28))))))))) Q n24 0 M4))))) ∧
((¬ (p2 ≤ 60)) → (Q (-1) M))))))
def qX11_keep (p1 : Int) (M : Mem) (Q : Int → Mem → Prop) : Prop := (((p1 < 0) → (Q 0 M)) ∧
((¬ (p1 < 0)) → ((((p1 < 3) → ((0 ≤ p1) ∧ (
(p1 < 3) ∧ (
qX6_copyFrom (29 + 7 * p1.toNat) 1 M (fun (M5 : Mem) =>  (
∀ M6 : Mem, M6 = up2 M5 166 p1 1 → (
Q 1 M6))))))) ∧
((¬ (p1 < 3)) → (Q 0 M))))))
def qX11_again (p1 : Int) (M : Mem) (Q : Int → Mem → Prop) : Prop := (((p1 < 0) → (Q 0 M)) ∧
((¬ (p1 < 0)) → ((((3 ≤ p1) → (Q 0 M)) ∧
((¬ (3 ≤ p1)) → ((0 ≤ p1) ∧ (
(p1 < 3) ∧ (
∀ x5 : Int, x5 = M 166 p1 → iR x5 → (
(((¬ x5 = 0) → (∀ x7 : Int, x7 = M (29 + 7 * p1.toNat) 6 → iR x7 → (
∀ x8 : Int, x8 = M 1 6 → iR x8 → (
(((¬ x7 = x8) → (Q 0 M)) ∧
((x7 = x8) → (∀ x10 : Int, x10 = M (29 + 7 * p1.toNat) 7 → iR x10 → (
∀ x11 : Int, x11 = M 1 7 → iR x11 → (
(((x10 = x11) → (qX6_copyFrom 1 (29 + 7 * p1.toNat) M (fun (M13 : Mem) =>  (
qX1_clear  M13 (fun (M14 : Mem) =>  (
Q 1 M14)))))) ∧
((¬ (x10 = x11)) → (Q 0 M)))))))))))) ∧
((x5 = 0) → (Q 0 M))))))))))))
def qX11_count (p1 : Int) (M : Mem) (Q : Int → Mem → Prop) : Prop := ((p1 = 0 → (∀ x2 : Int, x2 = M 158 1 → iR x2 → (
Q x2 M))) ∧
(p1 = 1 → (∀ x3 : Int, x3 = M 1 6 → iR x3 → (
Q x3 M))) ∧
(p1 = 2 → (∀ x4 : Int, x4 = M 1 7 → iR x4 → (
Q x4 M))) ∧
(p1 = 3 → (∀ x5 : Int, x5 = M 1 10 → iR x5 → (
Q x5 M))) ∧
(p1 = 4 → (∀ x6 : Int, x6 = M 1 8 → iR x6 → (
Q x6 M))) ∧
(p1 = 5 → (∀ x7 : Int, x7 = M 1 9 → iR x7 → (
Q x7 M))) ∧
(p1 = 6 → (qX6_rightBits 1 M (fun (x8 : Int) (M8 : Mem) => iR x8 → (
qJ6_bitCount_0f7a4 x8 M8 (fun (x9 : Int) (M9 : Mem) => iR x9 → (
Q x9 M9)))))) ∧
(p1 = 7 → (∀ x10 : Int, x10 = M 158 2 → iR x10 → (
qJ6_bitCount_0f7a4 x10 M (fun (x11 : Int) (M11 : Mem) => iR x11 → (
Q x11 M11))))) ∧
(p1 = 8 → (∀ x12 : Int, x12 = M 1 10 → iR x12 → (
qX8_weatherAt x12 M (fun (x13 : Int) (M13 : Mem) => iR x13 → (
Q x13 M13))))) ∧
(p1 = 9 → (∀ x14 : Int, x14 = M 182 2 → iR x14 → (
Q x14 M))) ∧
(p1 = 10 → (∀ x15 : Int, x15 = M 163 2 → iR x15 → (
Q x15 M))) ∧
(p1 = 11 → (∀ x16 : Int, x16 = M 167 1 → iR x16 → (
Q x16 M))) ∧
(p1 = 12 → (∀ x17 : Int, x17 = M 156 1 → iR x17 → (
Q x17 M))) ∧
((p1 < 0 ∨ 12 < p1) → (Q (-100) M)))
def qX11_paceNow (p1 : Int) (M : Mem) (Q : Int → Mem → Prop) : Prop := qX6_hasArrived 1 p1 M (fun (x1 : Int) (M1 : Mem) => iR x1 → (x1 = 0 ∨ x1 = 1) → (
(((x1 = 0) → (isL (M1 155 16).toNat ∧ (
qX2_observe (M1 155 16).toNat 1 p1 M1 (fun (M4 : Mem) =>  (
isL (M4 155 16).toNat ∧ (
qX2_pace (M4 155 16).toNat M4 (fun (x6 : Int) (M6 : Mem) => iR x6 → (
Q x6 M6)))))))) ∧
((¬ (x1 = 0)) → (Q 0 M1)))))
