/-! the calls that throw -/
def qX11_hearse (p1 : Int) (p2 : Int) (M : Mem) (Q : Int → Mem → Prop) (E : Mem → Prop) : Prop := qX6_isHearse 1 p1 M (fun (x1 : Int) (M1 : Mem) => iR x1 → (x1 = 0 ∨ x1 = 1) → (
(((¬ x1 = 0) → (((p2 = 0 → ((0 ≤ p1) ∧ (
(p1 < 6) ∧ (
∀ x6 : Int, x6 = M1 2 p1 → iR x6 → (
Q x6 M1))))) ∧
(p2 = 1 → ((0 ≤ p1) ∧ (
(p1 < 6) ∧ (
∀ x9 : Int, x9 = M1 3 p1 → iR x9 → (
Q x9 M1))))) ∧
(p2 = 2 → (qX11_paceNow p1 M1 (fun (x10 : Int) (M10 : Mem) => iR x10 → (
Q x10 M10)))) ∧
(p2 = 3 → (qX6_bitsOf 1 6 p1 M1 (fun (x11 : Int) (M11 : Mem) => iR x11 → (
Q x11 M11)))) ∧
(p2 = 4 → (qX6_bitsOf 1 7 p1 M1 (fun (x12 : Int) (M12 : Mem) => iR x12 → (
Q x12 M12)))) ∧
(p2 = 5 → (qX6_bitsOf 1 5 p1 M1 (fun (x13 : Int) (M13 : Mem) => iR x13 → (
Q x13 M13)))) ∧
((p2 < 0 ∨ 5 < p2) → (E M1))))) ∧
((x1 = 0) → (E M1)))))
def qX11_mourner (p1 : Int) (p2 : Int) (M : Mem) (Q : Int → Mem → Prop) (E : Mem → Prop) : Prop := qX6_isMourner 1 p1 M (fun (x1 : Int) (M1 : Mem) => iR x1 → (x1 = 0 ∨ x1 = 1) → (
(((¬ x1 = 0) → (((p2 = 0 → ((0 ≤ p1) ∧ (
(p1 < 8) ∧ (
∀ x6 : Int, x6 = M1 4 p1 → iR x6 → (
Q x6 M1))))) ∧
(p2 = 1 → ((0 ≤ p1) ∧ (
(p1 < 8) ∧ (
∀ x9 : Int, x9 = M1 5 p1 → iR x9 → (
Q x9 M1))))) ∧
(p2 = 2 → ((0 ≤ p1) ∧ (
(p1 < 8) ∧ (
∀ x12 : Int, x12 = M1 6 p1 → iR x12 → (
Q x12 M1))))) ∧
(p2 = 3 → ((0 ≤ p1) ∧ (
(p1 < 8) ∧ (
∀ x15 : Int, x15 = M1 7 p1 → iR x15 → (
Q x15 M1))))) ∧
(p2 = 4 → ((0 ≤ p1) ∧ (
(p1 < 8) ∧ (
∀ x18 : Int, x18 = M1 4 p1 → iR x18 → (
qX6_nearestTo 1 x18 M1 (fun (x19 : Int) (M19 : Mem) => iR x19 → (
Q x19 M19))))))) ∧
((p2 < 0 ∨ 4 < p2) → (E M1))))) ∧
((x1 = 0) → (E M1)))))
def qX11_row (p1 : Int) (M : Mem) (Q : Int → Mem → Prop) (E : Mem → Prop) : Prop := (((p1 < 0) → (E M)) ∧
((¬ (p1 < 0)) → (∀ x2 : Int, x2 = M 167 1 → iR x2 → (
(((p1 < x2) → ((0 ≤ p1) ∧ (
(p1 < 8) ∧ (
∀ x6 : Int, x6 = M 0 p1 → lR x6 → (
Q x6 M))))) ∧
((¬ (p1 < x2)) → (E M)))))))
