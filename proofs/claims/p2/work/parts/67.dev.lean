def MX0 : Mem := fun k j => if k = 158 ∧ j = 1 then 4 else if k = 158 ∧ j = 3 then 1 else if k = 185 ∧ j = 3 then 1 else if k = 155 ∧ j = 16 then 187 else if k = 155 ∧ j = 17 then 192 else 0
def qInit (Q : Mem → Prop) : Prop := qX2_becomePlain 187 MX0 (fun M1 => isL (M1 155 17).toNat ∧ qX2_becomePlain (M1 155 17).toNat M1 (fun M2 => Q M2))
def MM0 : Mem := fun k j => if k = 1 ∧ j = 3 then 4 else if k = 1 ∧ j = 7 then 1 else 0
