/-! THE END on both sides -/
theorem fol_it {E : Mem} {r : Int → Int} (hE : EBx E) (hW : WR E r) (hf : fol E r) (n : Nat) : fol E (itF E n r) := by
  cases n with
  | zero => exact hf
  | succ n => exact fol_st hE (hW.it hE n)
