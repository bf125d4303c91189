/-! a method's bytes as one number: what an opcode and its operands read -/
def fo (l : List UInt8) : Nat := l.foldr (fun b a => b.toNat + 256 * a) 0
def BY (c : ByteArray) (N L : Nat) : Prop := c.size = L ∧ ∀ (p : Nat) (h : p < c.size), (c[p]'h).toNat = N >>> (8 * p) % 256
theorem fo_at : ∀ (l : List UInt8) (p : Nat) (h : p < l.length), (l[p]'h).toNat = fo l / 256 ^ p % 256
  | [], _, h => absurd h (Nat.not_lt_zero _)
  | b :: t, 0, _ => by
    show b.toNat = (b.toNat + 256 * fo t) / 256 ^ 0 % 256
    have h8 : b.toNat < 256 := UInt8.toNat_lt b
    rw [Nat.pow_zero, Nat.div_one]
    omega
  | b :: t, p + 1, h => by
    show (t[p]'(Nat.lt_of_succ_lt_succ h)).toNat = (b.toNat + 256 * fo t) / 256 ^ (p + 1) % 256
    have h8 : b.toNat < 256 := UInt8.toNat_lt b
    have e : (b.toNat + 256 * fo t) / 256 = fo t := by omega
    rw [fo_at t p, Nat.pow_succ, Nat.mul_comm (256 ^ p) 256, ← Nat.div_div_eq_div_mul, e]
theorem BYm {c : ByteArray} {N L : Nat} (h : (Nat.beq c.size L && Nat.beq (fo c.data.toList) N) = true) : BY c N L := by
  have h := Bool.and_eq_true_iff.mp h
  have h1 := Nat.eq_of_beq_eq_true h.1
  have h2 := Nat.eq_of_beq_eq_true h.2
  refine ⟨h1, fun p hp => ?_⟩
  rw [Nat.shiftRight_eq_div_pow, Nat.pow_mul, ← h2]
  exact fo_at c.data.toList p hp
theorem b_sh (N p : Nat) : N >>> (8 * (p + 1)) = N >>> (8 * p) / 256 := by
  rw [Nat.mul_succ, Nat.shiftRight_add, Nat.shiftRight_eq_div_pow (N >>> (8 * p)) 8]
theorem e_bind {α β : Type} {x : Decoder α} {f : α → Decoder β} {c : ByteArray} {p q : Nat} {a : α} (e : x.runAt c p = .ok (a, q)) : (x >>= f).runAt c p = (f a).runAt c q := by
  have h : (x >>= f).runAt c p = (x.runAt c p >>= fun r => (f r.1).runAt c r.2) := rfl
  rw [h, e]
  rfl
theorem e_u1 {c : ByteArray} {N L p : Nat} (B : BY c N L) (hl : p < L) : (Reader.u1 : Decoder Nat).runAt c p = .ok (N >>> (8 * p) % 256, p + 1) := by
  have hp : p < c.size := by rw [B.1]; exact hl
  rw [← B.2 p hp]
  unfold Reader.u1
  refine (e_bind (a := c) (q := p) rfl).trans ?_
  refine (e_bind (a := p) (q := p) rfl).trans ?_
  rw [dif_pos hp]
  rfl
theorem e_u2 {c : ByteArray} {N L p : Nat} (B : BY c N L) (hl : p + 1 < L) : (Reader.u2 : Decoder Nat).runAt c p = .ok (N >>> (8 * p) % 256 * 256 + N >>> (8 * (p + 1)) % 256, p + 2) :=
  (e_bind (f := fun hi => (do let lo ← Reader.u1; pure (hi * 256 + lo) : Decoder Nat)) (e_u1 B (Nat.lt_of_succ_lt hl))).trans ((e_bind (e_u1 B hl)).trans rfl)
theorem e_map {α β : Type} {x : Decoder α} {g : α → β} {c : ByteArray} {p q : Nat} {a : α} (e : x.runAt c p = .ok (a, q)) : (g <$> x).runAt c p = .ok (g a, q) := by
  have h : (g <$> x).runAt c p = (x.runAt c p >>= fun r => pure (g r.1, r.2)) := rfl
  rw [h, e]
  rfl
theorem d_of {c : ByteArray} {p k : Nat} {i : Instr} (e : (Decoder.instr p).runAt c p = .ok (i, p + k)) : decode c p = .ok (i, k) := by
  have h : decode c p = ((Decoder.instr p).runAt c p >>= fun r => pure (r.1, r.2 - p)) := rfl
  rw [h, e]
  show Except.ok (i, p + k - p) = _
  rw [Nat.add_sub_cancel_left]
theorem d_u1 {c : ByteArray} {N L p b : Nat} (B : BY c N L) (hl : p < L) (h : N >>> (8 * p) % 256 = b) : (Reader.u1 : Decoder Nat).runAt c p = .ok (b, p + 1) := by
  rw [e_u1 B hl, h]
theorem bl {a b : Nat} (h : Nat.ble a b = true) : a ≤ b := Nat.le_of_ble_eq_true h
theorem b_lt {p L : Nat} (h : p + 3 ≤ L) : p < L := Nat.lt_of_lt_of_le (by omega) h
theorem b_sh2 (N p : Nat) : N >>> (8 * (p + 1 + 1)) = N >>> (8 * p) / 65536 := by
  rw [b_sh, b_sh, Nat.div_div_eq_div_mul]
theorem d_s1 {c : ByteArray} {N L p : Nat} (B : BY c N L) (hl : p + 2 ≤ L) {x : Int} (h : Reader.signed 8 (N >>> (8 * p) / 256 % 256) = x) : (Reader.s1 : Decoder Int).runAt c (p + 1) = .ok (x, p + 2) := by
  rw [← h, ← b_sh]
  exact e_map (g := Reader.signed 8) (e_u1 B hl)
theorem d_u2 {c : ByteArray} {N L p : Nat} (B : BY c N L) (hl : p + 3 ≤ L) {x : Nat} (h : N >>> (8 * p) / 256 % 256 * 256 + N >>> (8 * p) / 65536 % 256 = x) : (Reader.u2 : Decoder Nat).runAt c (p + 1) = .ok (x, p + 3) := by
  rw [← h, ← b_sh, ← b_sh2]
  exact e_u2 B hl
theorem d_s2 {c : ByteArray} {N L p : Nat} (B : BY c N L) (hl : p + 3 ≤ L) {x : Int} (h : Reader.signed 16 (N >>> (8 * p) / 256 % 256 * 256 + N >>> (8 * p) / 65536 % 256) = x) : (Reader.s2 : Decoder Int).runAt c (p + 1) = .ok (x, p + 3) := by
  rw [← h]
  exact e_map (g := Reader.signed 16) (d_u2 B hl rfl)
theorem o_2 {c : ByteArray} {N L p : Nat} (B : BY c N L) (hl : Nat.ble (p + 1) L = true) (h : N >>> (8 * p) % 256 = 2) : decode c p = .ok (.iconst (-1), 1) := d_of ((e_bind (d_u1 B (bl hl) h)).trans rfl)
theorem o_3 {c : ByteArray} {N L p : Nat} (B : BY c N L) (hl : Nat.ble (p + 1) L = true) (h : N >>> (8 * p) % 256 = 3) : decode c p = .ok (.iconst 0, 1) := d_of ((e_bind (d_u1 B (bl hl) h)).trans rfl)
theorem o_4 {c : ByteArray} {N L p : Nat} (B : BY c N L) (hl : Nat.ble (p + 1) L = true) (h : N >>> (8 * p) % 256 = 4) : decode c p = .ok (.iconst 1, 1) := d_of ((e_bind (d_u1 B (bl hl) h)).trans rfl)
theorem o_5 {c : ByteArray} {N L p : Nat} (B : BY c N L) (hl : Nat.ble (p + 1) L = true) (h : N >>> (8 * p) % 256 = 5) : decode c p = .ok (.iconst 2, 1) := d_of ((e_bind (d_u1 B (bl hl) h)).trans rfl)
theorem o_6 {c : ByteArray} {N L p : Nat} (B : BY c N L) (hl : Nat.ble (p + 1) L = true) (h : N >>> (8 * p) % 256 = 6) : decode c p = .ok (.iconst 3, 1) := d_of ((e_bind (d_u1 B (bl hl) h)).trans rfl)
theorem o_7 {c : ByteArray} {N L p : Nat} (B : BY c N L) (hl : Nat.ble (p + 1) L = true) (h : N >>> (8 * p) % 256 = 7) : decode c p = .ok (.iconst 4, 1) := d_of ((e_bind (d_u1 B (bl hl) h)).trans rfl)
theorem o_8 {c : ByteArray} {N L p : Nat} (B : BY c N L) (hl : Nat.ble (p + 1) L = true) (h : N >>> (8 * p) % 256 = 8) : decode c p = .ok (.iconst 5, 1) := d_of ((e_bind (d_u1 B (bl hl) h)).trans rfl)
theorem o_9 {c : ByteArray} {N L p : Nat} (B : BY c N L) (hl : Nat.ble (p + 1) L = true) (h : N >>> (8 * p) % 256 = 9) : decode c p = .ok (.lconst 0, 1) := d_of ((e_bind (d_u1 B (bl hl) h)).trans rfl)
theorem o_10 {c : ByteArray} {N L p : Nat} (B : BY c N L) (hl : Nat.ble (p + 1) L = true) (h : N >>> (8 * p) % 256 = 10) : decode c p = .ok (.lconst 1, 1) := d_of ((e_bind (d_u1 B (bl hl) h)).trans rfl)
theorem o_16 {c : ByteArray} {N L p : Nat} (B : BY c N L) (hl : Nat.ble (p + 2) L = true) (h : N >>> (8 * p) % 256 = 16) {x : Int} (h1 : Reader.signed 8 (N >>> (8 * p) / 256 % 256) = x) : decode c p = .ok (.bipush x, 2) := d_of ((e_bind (d_u1 B (Nat.lt_of_succ_lt (bl hl)) h)).trans ((e_bind (d_s1 B (bl hl) h1)).trans rfl))
theorem o_17 {c : ByteArray} {N L p : Nat} (B : BY c N L) (hl : Nat.ble (p + 3) L = true) (h : N >>> (8 * p) % 256 = 17) {x : Int} (h1 : Reader.signed 16 (N >>> (8 * p) / 256 % 256 * 256 + N >>> (8 * p) / 65536 % 256) = x) : decode c p = .ok (.sipush x, 3) := d_of ((e_bind (d_u1 B (b_lt (bl hl)) h)).trans ((e_bind (d_s2 B (bl hl) h1)).trans rfl))
theorem o_18 {c : ByteArray} {N L p : Nat} (B : BY c N L) (hl : Nat.ble (p + 2) L = true) (h : N >>> (8 * p) % 256 = 18) {x : Nat} (h1 : N >>> (8 * p) / 256 % 256 = x) : decode c p = .ok (.ldc x, 2) := d_of ((e_bind (d_u1 B (Nat.lt_of_succ_lt (bl hl)) h)).trans ((e_bind (d_u1 B (p := p + 1) (bl hl) ((congrArg (· % 256) (b_sh N p)).trans h1))).trans rfl))
theorem o_19 {c : ByteArray} {N L p : Nat} (B : BY c N L) (hl : Nat.ble (p + 3) L = true) (h : N >>> (8 * p) % 256 = 19) {x : Nat} (h1 : N >>> (8 * p) / 256 % 256 * 256 + N >>> (8 * p) / 65536 % 256 = x) : decode c p = .ok (.ldc_w x, 3) := d_of ((e_bind (d_u1 B (b_lt (bl hl)) h)).trans ((e_bind (d_u2 B (bl hl) h1)).trans rfl))
theorem o_20 {c : ByteArray} {N L p : Nat} (B : BY c N L) (hl : Nat.ble (p + 3) L = true) (h : N >>> (8 * p) % 256 = 20) {x : Nat} (h1 : N >>> (8 * p) / 256 % 256 * 256 + N >>> (8 * p) / 65536 % 256 = x) : decode c p = .ok (.ldc2_w x, 3) := d_of ((e_bind (d_u1 B (b_lt (bl hl)) h)).trans ((e_bind (d_u2 B (bl hl) h1)).trans rfl))
theorem o_21 {c : ByteArray} {N L p : Nat} (B : BY c N L) (hl : Nat.ble (p + 2) L = true) (h : N >>> (8 * p) % 256 = 21) {x : Nat} (h1 : N >>> (8 * p) / 256 % 256 = x) : decode c p = .ok (.iload x, 2) := d_of ((e_bind (d_u1 B (Nat.lt_of_succ_lt (bl hl)) h)).trans ((e_bind (d_u1 B (p := p + 1) (bl hl) ((congrArg (· % 256) (b_sh N p)).trans h1))).trans rfl))
theorem o_22 {c : ByteArray} {N L p : Nat} (B : BY c N L) (hl : Nat.ble (p + 2) L = true) (h : N >>> (8 * p) % 256 = 22) {x : Nat} (h1 : N >>> (8 * p) / 256 % 256 = x) : decode c p = .ok (.lload x, 2) := d_of ((e_bind (d_u1 B (Nat.lt_of_succ_lt (bl hl)) h)).trans ((e_bind (d_u1 B (p := p + 1) (bl hl) ((congrArg (· % 256) (b_sh N p)).trans h1))).trans rfl))
theorem o_25 {c : ByteArray} {N L p : Nat} (B : BY c N L) (hl : Nat.ble (p + 2) L = true) (h : N >>> (8 * p) % 256 = 25) {x : Nat} (h1 : N >>> (8 * p) / 256 % 256 = x) : decode c p = .ok (.aload x, 2) := d_of ((e_bind (d_u1 B (Nat.lt_of_succ_lt (bl hl)) h)).trans ((e_bind (d_u1 B (p := p + 1) (bl hl) ((congrArg (· % 256) (b_sh N p)).trans h1))).trans rfl))
theorem o_26 {c : ByteArray} {N L p : Nat} (B : BY c N L) (hl : Nat.ble (p + 1) L = true) (h : N >>> (8 * p) % 256 = 26) : decode c p = .ok (.iload_n 0, 1) := d_of ((e_bind (d_u1 B (bl hl) h)).trans rfl)
theorem o_27 {c : ByteArray} {N L p : Nat} (B : BY c N L) (hl : Nat.ble (p + 1) L = true) (h : N >>> (8 * p) % 256 = 27) : decode c p = .ok (.iload_n 1, 1) := d_of ((e_bind (d_u1 B (bl hl) h)).trans rfl)
theorem o_28 {c : ByteArray} {N L p : Nat} (B : BY c N L) (hl : Nat.ble (p + 1) L = true) (h : N >>> (8 * p) % 256 = 28) : decode c p = .ok (.iload_n 2, 1) := d_of ((e_bind (d_u1 B (bl hl) h)).trans rfl)
theorem o_29 {c : ByteArray} {N L p : Nat} (B : BY c N L) (hl : Nat.ble (p + 1) L = true) (h : N >>> (8 * p) % 256 = 29) : decode c p = .ok (.iload_n 3, 1) := d_of ((e_bind (d_u1 B (bl hl) h)).trans rfl)
theorem o_30 {c : ByteArray} {N L p : Nat} (B : BY c N L) (hl : Nat.ble (p + 1) L = true) (h : N >>> (8 * p) % 256 = 30) : decode c p = .ok (.lload_n 0, 1) := d_of ((e_bind (d_u1 B (bl hl) h)).trans rfl)
theorem o_31 {c : ByteArray} {N L p : Nat} (B : BY c N L) (hl : Nat.ble (p + 1) L = true) (h : N >>> (8 * p) % 256 = 31) : decode c p = .ok (.lload_n 1, 1) := d_of ((e_bind (d_u1 B (bl hl) h)).trans rfl)
theorem o_32 {c : ByteArray} {N L p : Nat} (B : BY c N L) (hl : Nat.ble (p + 1) L = true) (h : N >>> (8 * p) % 256 = 32) : decode c p = .ok (.lload_n 2, 1) := d_of ((e_bind (d_u1 B (bl hl) h)).trans rfl)
theorem o_33 {c : ByteArray} {N L p : Nat} (B : BY c N L) (hl : Nat.ble (p + 1) L = true) (h : N >>> (8 * p) % 256 = 33) : decode c p = .ok (.lload_n 3, 1) := d_of ((e_bind (d_u1 B (bl hl) h)).trans rfl)
theorem o_42 {c : ByteArray} {N L p : Nat} (B : BY c N L) (hl : Nat.ble (p + 1) L = true) (h : N >>> (8 * p) % 256 = 42) : decode c p = .ok (.aload_n 0, 1) := d_of ((e_bind (d_u1 B (bl hl) h)).trans rfl)
theorem o_43 {c : ByteArray} {N L p : Nat} (B : BY c N L) (hl : Nat.ble (p + 1) L = true) (h : N >>> (8 * p) % 256 = 43) : decode c p = .ok (.aload_n 1, 1) := d_of ((e_bind (d_u1 B (bl hl) h)).trans rfl)
theorem o_44 {c : ByteArray} {N L p : Nat} (B : BY c N L) (hl : Nat.ble (p + 1) L = true) (h : N >>> (8 * p) % 256 = 44) : decode c p = .ok (.aload_n 2, 1) := d_of ((e_bind (d_u1 B (bl hl) h)).trans rfl)
theorem o_45 {c : ByteArray} {N L p : Nat} (B : BY c N L) (hl : Nat.ble (p + 1) L = true) (h : N >>> (8 * p) % 256 = 45) : decode c p = .ok (.aload_n 3, 1) := d_of ((e_bind (d_u1 B (bl hl) h)).trans rfl)
theorem o_46 {c : ByteArray} {N L p : Nat} (B : BY c N L) (hl : Nat.ble (p + 1) L = true) (h : N >>> (8 * p) % 256 = 46) : decode c p = .ok (.iaload, 1) := d_of ((e_bind (d_u1 B (bl hl) h)).trans rfl)
theorem o_47 {c : ByteArray} {N L p : Nat} (B : BY c N L) (hl : Nat.ble (p + 1) L = true) (h : N >>> (8 * p) % 256 = 47) : decode c p = .ok (.laload, 1) := d_of ((e_bind (d_u1 B (bl hl) h)).trans rfl)
theorem o_50 {c : ByteArray} {N L p : Nat} (B : BY c N L) (hl : Nat.ble (p + 1) L = true) (h : N >>> (8 * p) % 256 = 50) : decode c p = .ok (.aaload, 1) := d_of ((e_bind (d_u1 B (bl hl) h)).trans rfl)
theorem o_51 {c : ByteArray} {N L p : Nat} (B : BY c N L) (hl : Nat.ble (p + 1) L = true) (h : N >>> (8 * p) % 256 = 51) : decode c p = .ok (.baload, 1) := d_of ((e_bind (d_u1 B (bl hl) h)).trans rfl)
theorem o_54 {c : ByteArray} {N L p : Nat} (B : BY c N L) (hl : Nat.ble (p + 2) L = true) (h : N >>> (8 * p) % 256 = 54) {x : Nat} (h1 : N >>> (8 * p) / 256 % 256 = x) : decode c p = .ok (.istore x, 2) := d_of ((e_bind (d_u1 B (Nat.lt_of_succ_lt (bl hl)) h)).trans ((e_bind (d_u1 B (p := p + 1) (bl hl) ((congrArg (· % 256) (b_sh N p)).trans h1))).trans rfl))
theorem o_55 {c : ByteArray} {N L p : Nat} (B : BY c N L) (hl : Nat.ble (p + 2) L = true) (h : N >>> (8 * p) % 256 = 55) {x : Nat} (h1 : N >>> (8 * p) / 256 % 256 = x) : decode c p = .ok (.lstore x, 2) := d_of ((e_bind (d_u1 B (Nat.lt_of_succ_lt (bl hl)) h)).trans ((e_bind (d_u1 B (p := p + 1) (bl hl) ((congrArg (· % 256) (b_sh N p)).trans h1))).trans rfl))
theorem o_58 {c : ByteArray} {N L p : Nat} (B : BY c N L) (hl : Nat.ble (p + 2) L = true) (h : N >>> (8 * p) % 256 = 58) {x : Nat} (h1 : N >>> (8 * p) / 256 % 256 = x) : decode c p = .ok (.astore x, 2) := d_of ((e_bind (d_u1 B (Nat.lt_of_succ_lt (bl hl)) h)).trans ((e_bind (d_u1 B (p := p + 1) (bl hl) ((congrArg (· % 256) (b_sh N p)).trans h1))).trans rfl))
theorem o_59 {c : ByteArray} {N L p : Nat} (B : BY c N L) (hl : Nat.ble (p + 1) L = true) (h : N >>> (8 * p) % 256 = 59) : decode c p = .ok (.istore_n 0, 1) := d_of ((e_bind (d_u1 B (bl hl) h)).trans rfl)
theorem o_60 {c : ByteArray} {N L p : Nat} (B : BY c N L) (hl : Nat.ble (p + 1) L = true) (h : N >>> (8 * p) % 256 = 60) : decode c p = .ok (.istore_n 1, 1) := d_of ((e_bind (d_u1 B (bl hl) h)).trans rfl)
theorem o_61 {c : ByteArray} {N L p : Nat} (B : BY c N L) (hl : Nat.ble (p + 1) L = true) (h : N >>> (8 * p) % 256 = 61) : decode c p = .ok (.istore_n 2, 1) := d_of ((e_bind (d_u1 B (bl hl) h)).trans rfl)
theorem o_62 {c : ByteArray} {N L p : Nat} (B : BY c N L) (hl : Nat.ble (p + 1) L = true) (h : N >>> (8 * p) % 256 = 62) : decode c p = .ok (.istore_n 3, 1) := d_of ((e_bind (d_u1 B (bl hl) h)).trans rfl)
theorem o_66 {c : ByteArray} {N L p : Nat} (B : BY c N L) (hl : Nat.ble (p + 1) L = true) (h : N >>> (8 * p) % 256 = 66) : decode c p = .ok (.lstore_n 3, 1) := d_of ((e_bind (d_u1 B (bl hl) h)).trans rfl)
theorem o_76 {c : ByteArray} {N L p : Nat} (B : BY c N L) (hl : Nat.ble (p + 1) L = true) (h : N >>> (8 * p) % 256 = 76) : decode c p = .ok (.astore_n 1, 1) := d_of ((e_bind (d_u1 B (bl hl) h)).trans rfl)
theorem o_77 {c : ByteArray} {N L p : Nat} (B : BY c N L) (hl : Nat.ble (p + 1) L = true) (h : N >>> (8 * p) % 256 = 77) : decode c p = .ok (.astore_n 2, 1) := d_of ((e_bind (d_u1 B (bl hl) h)).trans rfl)
theorem o_78 {c : ByteArray} {N L p : Nat} (B : BY c N L) (hl : Nat.ble (p + 1) L = true) (h : N >>> (8 * p) % 256 = 78) : decode c p = .ok (.astore_n 3, 1) := d_of ((e_bind (d_u1 B (bl hl) h)).trans rfl)
theorem o_79 {c : ByteArray} {N L p : Nat} (B : BY c N L) (hl : Nat.ble (p + 1) L = true) (h : N >>> (8 * p) % 256 = 79) : decode c p = .ok (.iastore, 1) := d_of ((e_bind (d_u1 B (bl hl) h)).trans rfl)
theorem o_80 {c : ByteArray} {N L p : Nat} (B : BY c N L) (hl : Nat.ble (p + 1) L = true) (h : N >>> (8 * p) % 256 = 80) : decode c p = .ok (.lastore, 1) := d_of ((e_bind (d_u1 B (bl hl) h)).trans rfl)
theorem o_83 {c : ByteArray} {N L p : Nat} (B : BY c N L) (hl : Nat.ble (p + 1) L = true) (h : N >>> (8 * p) % 256 = 83) : decode c p = .ok (.aastore, 1) := d_of ((e_bind (d_u1 B (bl hl) h)).trans rfl)
theorem o_84 {c : ByteArray} {N L p : Nat} (B : BY c N L) (hl : Nat.ble (p + 1) L = true) (h : N >>> (8 * p) % 256 = 84) : decode c p = .ok (.bastore, 1) := d_of ((e_bind (d_u1 B (bl hl) h)).trans rfl)
theorem o_87 {c : ByteArray} {N L p : Nat} (B : BY c N L) (hl : Nat.ble (p + 1) L = true) (h : N >>> (8 * p) % 256 = 87) : decode c p = .ok (.pop, 1) := d_of ((e_bind (d_u1 B (bl hl) h)).trans rfl)
theorem o_89 {c : ByteArray} {N L p : Nat} (B : BY c N L) (hl : Nat.ble (p + 1) L = true) (h : N >>> (8 * p) % 256 = 89) : decode c p = .ok (.dup, 1) := d_of ((e_bind (d_u1 B (bl hl) h)).trans rfl)
theorem o_92 {c : ByteArray} {N L p : Nat} (B : BY c N L) (hl : Nat.ble (p + 1) L = true) (h : N >>> (8 * p) % 256 = 92) : decode c p = .ok (.dup2, 1) := d_of ((e_bind (d_u1 B (bl hl) h)).trans rfl)
theorem o_96 {c : ByteArray} {N L p : Nat} (B : BY c N L) (hl : Nat.ble (p + 1) L = true) (h : N >>> (8 * p) % 256 = 96) : decode c p = .ok (.iadd, 1) := d_of ((e_bind (d_u1 B (bl hl) h)).trans rfl)
theorem o_97 {c : ByteArray} {N L p : Nat} (B : BY c N L) (hl : Nat.ble (p + 1) L = true) (h : N >>> (8 * p) % 256 = 97) : decode c p = .ok (.ladd, 1) := d_of ((e_bind (d_u1 B (bl hl) h)).trans rfl)
theorem o_100 {c : ByteArray} {N L p : Nat} (B : BY c N L) (hl : Nat.ble (p + 1) L = true) (h : N >>> (8 * p) % 256 = 100) : decode c p = .ok (.isub, 1) := d_of ((e_bind (d_u1 B (bl hl) h)).trans rfl)
theorem o_104 {c : ByteArray} {N L p : Nat} (B : BY c N L) (hl : Nat.ble (p + 1) L = true) (h : N >>> (8 * p) % 256 = 104) : decode c p = .ok (.imul, 1) := d_of ((e_bind (d_u1 B (bl hl) h)).trans rfl)
theorem o_105 {c : ByteArray} {N L p : Nat} (B : BY c N L) (hl : Nat.ble (p + 1) L = true) (h : N >>> (8 * p) % 256 = 105) : decode c p = .ok (.lmul, 1) := d_of ((e_bind (d_u1 B (bl hl) h)).trans rfl)
theorem o_108 {c : ByteArray} {N L p : Nat} (B : BY c N L) (hl : Nat.ble (p + 1) L = true) (h : N >>> (8 * p) % 256 = 108) : decode c p = .ok (.idiv, 1) := d_of ((e_bind (d_u1 B (bl hl) h)).trans rfl)
theorem o_109 {c : ByteArray} {N L p : Nat} (B : BY c N L) (hl : Nat.ble (p + 1) L = true) (h : N >>> (8 * p) % 256 = 109) : decode c p = .ok (.ldiv, 1) := d_of ((e_bind (d_u1 B (bl hl) h)).trans rfl)
theorem o_112 {c : ByteArray} {N L p : Nat} (B : BY c N L) (hl : Nat.ble (p + 1) L = true) (h : N >>> (8 * p) % 256 = 112) : decode c p = .ok (.irem, 1) := d_of ((e_bind (d_u1 B (bl hl) h)).trans rfl)
theorem o_113 {c : ByteArray} {N L p : Nat} (B : BY c N L) (hl : Nat.ble (p + 1) L = true) (h : N >>> (8 * p) % 256 = 113) : decode c p = .ok (.lrem, 1) := d_of ((e_bind (d_u1 B (bl hl) h)).trans rfl)
theorem o_116 {c : ByteArray} {N L p : Nat} (B : BY c N L) (hl : Nat.ble (p + 1) L = true) (h : N >>> (8 * p) % 256 = 116) : decode c p = .ok (.ineg, 1) := d_of ((e_bind (d_u1 B (bl hl) h)).trans rfl)
theorem o_120 {c : ByteArray} {N L p : Nat} (B : BY c N L) (hl : Nat.ble (p + 1) L = true) (h : N >>> (8 * p) % 256 = 120) : decode c p = .ok (.ishl, 1) := d_of ((e_bind (d_u1 B (bl hl) h)).trans rfl)
theorem o_122 {c : ByteArray} {N L p : Nat} (B : BY c N L) (hl : Nat.ble (p + 1) L = true) (h : N >>> (8 * p) % 256 = 122) : decode c p = .ok (.ishr, 1) := d_of ((e_bind (d_u1 B (bl hl) h)).trans rfl)
theorem o_124 {c : ByteArray} {N L p : Nat} (B : BY c N L) (hl : Nat.ble (p + 1) L = true) (h : N >>> (8 * p) % 256 = 124) : decode c p = .ok (.iushr, 1) := d_of ((e_bind (d_u1 B (bl hl) h)).trans rfl)
theorem o_126 {c : ByteArray} {N L p : Nat} (B : BY c N L) (hl : Nat.ble (p + 1) L = true) (h : N >>> (8 * p) % 256 = 126) : decode c p = .ok (.iand, 1) := d_of ((e_bind (d_u1 B (bl hl) h)).trans rfl)
theorem o_128 {c : ByteArray} {N L p : Nat} (B : BY c N L) (hl : Nat.ble (p + 1) L = true) (h : N >>> (8 * p) % 256 = 128) : decode c p = .ok (.ior, 1) := d_of ((e_bind (d_u1 B (bl hl) h)).trans rfl)
theorem o_130 {c : ByteArray} {N L p : Nat} (B : BY c N L) (hl : Nat.ble (p + 1) L = true) (h : N >>> (8 * p) % 256 = 130) : decode c p = .ok (.ixor, 1) := d_of ((e_bind (d_u1 B (bl hl) h)).trans rfl)
theorem o_132 {c : ByteArray} {N L p : Nat} (B : BY c N L) (hl : Nat.ble (p + 3) L = true) (h : N >>> (8 * p) % 256 = 132) {x : Nat} {y : Int} (h1 : N >>> (8 * p) / 256 % 256 = x) (h2 : Reader.signed 8 (N >>> (8 * p) / 65536 % 256) = y) : decode c p = .ok (.iinc x y, 3) := d_of ((e_bind (d_u1 B (b_lt (bl hl)) h)).trans ((e_bind (d_u1 B (p := p + 1) (Nat.lt_of_succ_lt (bl hl)) ((congrArg (· % 256) (b_sh N p)).trans h1))).trans ((e_bind (d_s1 B (p := p + 1) (bl hl) (by rw [b_sh, Nat.div_div_eq_div_mul]; exact h2))).trans rfl)))
theorem o_133 {c : ByteArray} {N L p : Nat} (B : BY c N L) (hl : Nat.ble (p + 1) L = true) (h : N >>> (8 * p) % 256 = 133) : decode c p = .ok (.i2l, 1) := d_of ((e_bind (d_u1 B (bl hl) h)).trans rfl)
theorem o_145 {c : ByteArray} {N L p : Nat} (B : BY c N L) (hl : Nat.ble (p + 1) L = true) (h : N >>> (8 * p) % 256 = 145) : decode c p = .ok (.i2b, 1) := d_of ((e_bind (d_u1 B (bl hl) h)).trans rfl)
theorem o_146 {c : ByteArray} {N L p : Nat} (B : BY c N L) (hl : Nat.ble (p + 1) L = true) (h : N >>> (8 * p) % 256 = 146) : decode c p = .ok (.i2c, 1) := d_of ((e_bind (d_u1 B (bl hl) h)).trans rfl)
theorem o_147 {c : ByteArray} {N L p : Nat} (B : BY c N L) (hl : Nat.ble (p + 1) L = true) (h : N >>> (8 * p) % 256 = 147) : decode c p = .ok (.i2s, 1) := d_of ((e_bind (d_u1 B (bl hl) h)).trans rfl)
theorem o_148 {c : ByteArray} {N L p : Nat} (B : BY c N L) (hl : Nat.ble (p + 1) L = true) (h : N >>> (8 * p) % 256 = 148) : decode c p = .ok (.lcmp, 1) := d_of ((e_bind (d_u1 B (bl hl) h)).trans rfl)
theorem o_153 {c : ByteArray} {N L p : Nat} (B : BY c N L) (hl : Nat.ble (p + 3) L = true) (h : N >>> (8 * p) % 256 = 153) {x : Int} (h1 : Reader.signed 16 (N >>> (8 * p) / 256 % 256 * 256 + N >>> (8 * p) / 65536 % 256) = x) : decode c p = .ok (.ifCond .eq x, 3) := d_of ((e_bind (d_u1 B (b_lt (bl hl)) h)).trans ((e_bind (d_s2 B (bl hl) h1)).trans rfl))
theorem o_154 {c : ByteArray} {N L p : Nat} (B : BY c N L) (hl : Nat.ble (p + 3) L = true) (h : N >>> (8 * p) % 256 = 154) {x : Int} (h1 : Reader.signed 16 (N >>> (8 * p) / 256 % 256 * 256 + N >>> (8 * p) / 65536 % 256) = x) : decode c p = .ok (.ifCond .ne x, 3) := d_of ((e_bind (d_u1 B (b_lt (bl hl)) h)).trans ((e_bind (d_s2 B (bl hl) h1)).trans rfl))
theorem o_155 {c : ByteArray} {N L p : Nat} (B : BY c N L) (hl : Nat.ble (p + 3) L = true) (h : N >>> (8 * p) % 256 = 155) {x : Int} (h1 : Reader.signed 16 (N >>> (8 * p) / 256 % 256 * 256 + N >>> (8 * p) / 65536 % 256) = x) : decode c p = .ok (.ifCond .lt x, 3) := d_of ((e_bind (d_u1 B (b_lt (bl hl)) h)).trans ((e_bind (d_s2 B (bl hl) h1)).trans rfl))
theorem o_156 {c : ByteArray} {N L p : Nat} (B : BY c N L) (hl : Nat.ble (p + 3) L = true) (h : N >>> (8 * p) % 256 = 156) {x : Int} (h1 : Reader.signed 16 (N >>> (8 * p) / 256 % 256 * 256 + N >>> (8 * p) / 65536 % 256) = x) : decode c p = .ok (.ifCond .ge x, 3) := d_of ((e_bind (d_u1 B (b_lt (bl hl)) h)).trans ((e_bind (d_s2 B (bl hl) h1)).trans rfl))
theorem o_157 {c : ByteArray} {N L p : Nat} (B : BY c N L) (hl : Nat.ble (p + 3) L = true) (h : N >>> (8 * p) % 256 = 157) {x : Int} (h1 : Reader.signed 16 (N >>> (8 * p) / 256 % 256 * 256 + N >>> (8 * p) / 65536 % 256) = x) : decode c p = .ok (.ifCond .gt x, 3) := d_of ((e_bind (d_u1 B (b_lt (bl hl)) h)).trans ((e_bind (d_s2 B (bl hl) h1)).trans rfl))
theorem o_158 {c : ByteArray} {N L p : Nat} (B : BY c N L) (hl : Nat.ble (p + 3) L = true) (h : N >>> (8 * p) % 256 = 158) {x : Int} (h1 : Reader.signed 16 (N >>> (8 * p) / 256 % 256 * 256 + N >>> (8 * p) / 65536 % 256) = x) : decode c p = .ok (.ifCond .le x, 3) := d_of ((e_bind (d_u1 B (b_lt (bl hl)) h)).trans ((e_bind (d_s2 B (bl hl) h1)).trans rfl))
theorem o_159 {c : ByteArray} {N L p : Nat} (B : BY c N L) (hl : Nat.ble (p + 3) L = true) (h : N >>> (8 * p) % 256 = 159) {x : Int} (h1 : Reader.signed 16 (N >>> (8 * p) / 256 % 256 * 256 + N >>> (8 * p) / 65536 % 256) = x) : decode c p = .ok (.if_icmp .eq x, 3) := d_of ((e_bind (d_u1 B (b_lt (bl hl)) h)).trans ((e_bind (d_s2 B (bl hl) h1)).trans rfl))
theorem o_160 {c : ByteArray} {N L p : Nat} (B : BY c N L) (hl : Nat.ble (p + 3) L = true) (h : N >>> (8 * p) % 256 = 160) {x : Int} (h1 : Reader.signed 16 (N >>> (8 * p) / 256 % 256 * 256 + N >>> (8 * p) / 65536 % 256) = x) : decode c p = .ok (.if_icmp .ne x, 3) := d_of ((e_bind (d_u1 B (b_lt (bl hl)) h)).trans ((e_bind (d_s2 B (bl hl) h1)).trans rfl))
theorem o_161 {c : ByteArray} {N L p : Nat} (B : BY c N L) (hl : Nat.ble (p + 3) L = true) (h : N >>> (8 * p) % 256 = 161) {x : Int} (h1 : Reader.signed 16 (N >>> (8 * p) / 256 % 256 * 256 + N >>> (8 * p) / 65536 % 256) = x) : decode c p = .ok (.if_icmp .lt x, 3) := d_of ((e_bind (d_u1 B (b_lt (bl hl)) h)).trans ((e_bind (d_s2 B (bl hl) h1)).trans rfl))
theorem o_162 {c : ByteArray} {N L p : Nat} (B : BY c N L) (hl : Nat.ble (p + 3) L = true) (h : N >>> (8 * p) % 256 = 162) {x : Int} (h1 : Reader.signed 16 (N >>> (8 * p) / 256 % 256 * 256 + N >>> (8 * p) / 65536 % 256) = x) : decode c p = .ok (.if_icmp .ge x, 3) := d_of ((e_bind (d_u1 B (b_lt (bl hl)) h)).trans ((e_bind (d_s2 B (bl hl) h1)).trans rfl))
theorem o_163 {c : ByteArray} {N L p : Nat} (B : BY c N L) (hl : Nat.ble (p + 3) L = true) (h : N >>> (8 * p) % 256 = 163) {x : Int} (h1 : Reader.signed 16 (N >>> (8 * p) / 256 % 256 * 256 + N >>> (8 * p) / 65536 % 256) = x) : decode c p = .ok (.if_icmp .gt x, 3) := d_of ((e_bind (d_u1 B (b_lt (bl hl)) h)).trans ((e_bind (d_s2 B (bl hl) h1)).trans rfl))
theorem o_164 {c : ByteArray} {N L p : Nat} (B : BY c N L) (hl : Nat.ble (p + 3) L = true) (h : N >>> (8 * p) % 256 = 164) {x : Int} (h1 : Reader.signed 16 (N >>> (8 * p) / 256 % 256 * 256 + N >>> (8 * p) / 65536 % 256) = x) : decode c p = .ok (.if_icmp .le x, 3) := d_of ((e_bind (d_u1 B (b_lt (bl hl)) h)).trans ((e_bind (d_s2 B (bl hl) h1)).trans rfl))
theorem o_167 {c : ByteArray} {N L p : Nat} (B : BY c N L) (hl : Nat.ble (p + 3) L = true) (h : N >>> (8 * p) % 256 = 167) {x : Int} (h1 : Reader.signed 16 (N >>> (8 * p) / 256 % 256 * 256 + N >>> (8 * p) / 65536 % 256) = x) : decode c p = .ok (.goto x, 3) := d_of ((e_bind (d_u1 B (b_lt (bl hl)) h)).trans ((e_bind (d_s2 B (bl hl) h1)).trans rfl))
theorem o_172 {c : ByteArray} {N L p : Nat} (B : BY c N L) (hl : Nat.ble (p + 1) L = true) (h : N >>> (8 * p) % 256 = 172) : decode c p = .ok (.ireturn, 1) := d_of ((e_bind (d_u1 B (bl hl) h)).trans rfl)
theorem o_173 {c : ByteArray} {N L p : Nat} (B : BY c N L) (hl : Nat.ble (p + 1) L = true) (h : N >>> (8 * p) % 256 = 173) : decode c p = .ok (.lreturn, 1) := d_of ((e_bind (d_u1 B (bl hl) h)).trans rfl)
theorem o_176 {c : ByteArray} {N L p : Nat} (B : BY c N L) (hl : Nat.ble (p + 1) L = true) (h : N >>> (8 * p) % 256 = 176) : decode c p = .ok (.areturn, 1) := d_of ((e_bind (d_u1 B (bl hl) h)).trans rfl)
theorem o_177 {c : ByteArray} {N L p : Nat} (B : BY c N L) (hl : Nat.ble (p + 1) L = true) (h : N >>> (8 * p) % 256 = 177) : decode c p = .ok (.return_, 1) := d_of ((e_bind (d_u1 B (bl hl) h)).trans rfl)
theorem o_178 {c : ByteArray} {N L p : Nat} (B : BY c N L) (hl : Nat.ble (p + 3) L = true) (h : N >>> (8 * p) % 256 = 178) {x : Nat} (h1 : N >>> (8 * p) / 256 % 256 * 256 + N >>> (8 * p) / 65536 % 256 = x) : decode c p = .ok (.getstatic x, 3) := d_of ((e_bind (d_u1 B (b_lt (bl hl)) h)).trans ((e_bind (d_u2 B (bl hl) h1)).trans rfl))
theorem o_180 {c : ByteArray} {N L p : Nat} (B : BY c N L) (hl : Nat.ble (p + 3) L = true) (h : N >>> (8 * p) % 256 = 180) {x : Nat} (h1 : N >>> (8 * p) / 256 % 256 * 256 + N >>> (8 * p) / 65536 % 256 = x) : decode c p = .ok (.getfield x, 3) := d_of ((e_bind (d_u1 B (b_lt (bl hl)) h)).trans ((e_bind (d_u2 B (bl hl) h1)).trans rfl))
theorem o_181 {c : ByteArray} {N L p : Nat} (B : BY c N L) (hl : Nat.ble (p + 3) L = true) (h : N >>> (8 * p) % 256 = 181) {x : Nat} (h1 : N >>> (8 * p) / 256 % 256 * 256 + N >>> (8 * p) / 65536 % 256 = x) : decode c p = .ok (.putfield x, 3) := d_of ((e_bind (d_u1 B (b_lt (bl hl)) h)).trans ((e_bind (d_u2 B (bl hl) h1)).trans rfl))
theorem o_182 {c : ByteArray} {N L p : Nat} (B : BY c N L) (hl : Nat.ble (p + 3) L = true) (h : N >>> (8 * p) % 256 = 182) {x : Nat} (h1 : N >>> (8 * p) / 256 % 256 * 256 + N >>> (8 * p) / 65536 % 256 = x) : decode c p = .ok (.invokevirtual x, 3) := d_of ((e_bind (d_u1 B (b_lt (bl hl)) h)).trans ((e_bind (d_u2 B (bl hl) h1)).trans rfl))
theorem o_183 {c : ByteArray} {N L p : Nat} (B : BY c N L) (hl : Nat.ble (p + 3) L = true) (h : N >>> (8 * p) % 256 = 183) {x : Nat} (h1 : N >>> (8 * p) / 256 % 256 * 256 + N >>> (8 * p) / 65536 % 256 = x) : decode c p = .ok (.invokespecial x, 3) := d_of ((e_bind (d_u1 B (b_lt (bl hl)) h)).trans ((e_bind (d_u2 B (bl hl) h1)).trans rfl))
theorem o_184 {c : ByteArray} {N L p : Nat} (B : BY c N L) (hl : Nat.ble (p + 3) L = true) (h : N >>> (8 * p) % 256 = 184) {x : Nat} (h1 : N >>> (8 * p) / 256 % 256 * 256 + N >>> (8 * p) / 65536 % 256 = x) : decode c p = .ok (.invokestatic x, 3) := d_of ((e_bind (d_u1 B (b_lt (bl hl)) h)).trans ((e_bind (d_u2 B (bl hl) h1)).trans rfl))
theorem o_187 {c : ByteArray} {N L p : Nat} (B : BY c N L) (hl : Nat.ble (p + 3) L = true) (h : N >>> (8 * p) % 256 = 187) {x : Nat} (h1 : N >>> (8 * p) / 256 % 256 * 256 + N >>> (8 * p) / 65536 % 256 = x) : decode c p = .ok (.new x, 3) := d_of ((e_bind (d_u1 B (b_lt (bl hl)) h)).trans ((e_bind (d_u2 B (bl hl) h1)).trans rfl))
theorem o_188_4 {c : ByteArray} {N L p : Nat} (B : BY c N L) (hl : Nat.ble (p + 2) L = true) (h : N >>> (8 * p) % 256 = 188) (h1 : N >>> (8 * p) / 256 % 256 = 4) : decode c p = .ok (.newarray .boolean, 2) := d_of ((e_bind (d_u1 B (Nat.lt_of_succ_lt (bl hl)) h)).trans ((e_bind (d_u1 B (p := p + 1) (bl hl) ((congrArg (· % 256) (b_sh N p)).trans h1))).trans rfl))
theorem o_188_8 {c : ByteArray} {N L p : Nat} (B : BY c N L) (hl : Nat.ble (p + 2) L = true) (h : N >>> (8 * p) % 256 = 188) (h1 : N >>> (8 * p) / 256 % 256 = 8) : decode c p = .ok (.newarray .byte, 2) := d_of ((e_bind (d_u1 B (Nat.lt_of_succ_lt (bl hl)) h)).trans ((e_bind (d_u1 B (p := p + 1) (bl hl) ((congrArg (· % 256) (b_sh N p)).trans h1))).trans rfl))
theorem o_188_10 {c : ByteArray} {N L p : Nat} (B : BY c N L) (hl : Nat.ble (p + 2) L = true) (h : N >>> (8 * p) % 256 = 188) (h1 : N >>> (8 * p) / 256 % 256 = 10) : decode c p = .ok (.newarray .int, 2) := d_of ((e_bind (d_u1 B (Nat.lt_of_succ_lt (bl hl)) h)).trans ((e_bind (d_u1 B (p := p + 1) (bl hl) ((congrArg (· % 256) (b_sh N p)).trans h1))).trans rfl))
theorem o_188_11 {c : ByteArray} {N L p : Nat} (B : BY c N L) (hl : Nat.ble (p + 2) L = true) (h : N >>> (8 * p) % 256 = 188) (h1 : N >>> (8 * p) / 256 % 256 = 11) : decode c p = .ok (.newarray .long, 2) := d_of ((e_bind (d_u1 B (Nat.lt_of_succ_lt (bl hl)) h)).trans ((e_bind (d_u1 B (p := p + 1) (bl hl) ((congrArg (· % 256) (b_sh N p)).trans h1))).trans rfl))
theorem o_189 {c : ByteArray} {N L p : Nat} (B : BY c N L) (hl : Nat.ble (p + 3) L = true) (h : N >>> (8 * p) % 256 = 189) {x : Nat} (h1 : N >>> (8 * p) / 256 % 256 * 256 + N >>> (8 * p) / 65536 % 256 = x) : decode c p = .ok (.anewarray x, 3) := d_of ((e_bind (d_u1 B (b_lt (bl hl)) h)).trans ((e_bind (d_u2 B (bl hl) h1)).trans rfl))
theorem o_190 {c : ByteArray} {N L p : Nat} (B : BY c N L) (hl : Nat.ble (p + 1) L = true) (h : N >>> (8 * p) % 256 = 190) : decode c p = .ok (.arraylength, 1) := d_of ((e_bind (d_u1 B (bl hl) h)).trans rfl)
theorem o_191 {c : ByteArray} {N L p : Nat} (B : BY c N L) (hl : Nat.ble (p + 1) L = true) (h : N >>> (8 * p) % 256 = 191) : decode c p = .ok (.athrow, 1) := d_of ((e_bind (d_u1 B (bl hl) h)).trans rfl)
