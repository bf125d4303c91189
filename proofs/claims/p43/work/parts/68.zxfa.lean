/-! HOW MANY BITS -/
set_option maxRecDepth 100000 in
theorem bc_le0 : ∀ n : Nat, n ≤ 8 → ∀ b : Nat, b < 2 ^ n → bcF b ≤ n := by decide +kernel
theorem bc_le {n : Nat} {b : Int} (hn : n ≤ 8) (hb : 0 ≤ b ∧ b < 2 ^ n) : bcF b ≤ n := by
  have := bc_le0 n hn b.toNat (by
    have : ((b.toNat : Nat) : Int) < ((2 ^ n : Nat) : Int) := by
      rw [show ((b.toNat : Nat) : Int) = b from by omega, Int.natCast_pow]
      exact hb.2
    omega)
  rw [show ((b.toNat : Nat) : Int) = b from by omega] at this
  exact this
