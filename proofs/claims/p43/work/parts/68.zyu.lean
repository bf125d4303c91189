/-! THE RELATION, WITH THE ROW'S LENGTH AND THE CORNERS -/
def Rel2 (k : Nat) (MX MM : Mem) : Prop := Rel k MX MM ∧ MX 167 1 = MM 1 1 ∧ CNR MX
theorem Rel2_skip {k : Nat} {MX MM : Mem} (h : Rel2 k MX MM) : Rel2 (k + 1) MX MM := ⟨Rel_skip h.1, h.2⟩
