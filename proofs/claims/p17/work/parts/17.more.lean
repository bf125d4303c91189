/-! arrays of arrays are read -/
section RM2
variable {p : Program} {l : Launch} {e : Env} {R : Room} {s : State} {m : MethodId} {args : Array Value} {below : List Frame} {meth : Method} {c : Code} {H : Heap} {locs : List Loc} {cells slots : Nat} {Q : State → Prop}
variable {cc : ByteArray} {pc : Nat} {ls : Array Slot} {rest st0 : List Value} {D : va_G} {A : Nat → Prop} {a : Nat} {ws wc wr : va_W} {H0 : Heap} {τ : Nat → ClassId} {own : String}
theorem r_aaldM (hx : p.tables.exec = Jvm.exec) (hb : c.code = cc) (hC : cx D τ s m args own) (hw : wS D A H0 ws H locs) (q0 : Nat) {n : Nat} {f : Nat → Option Nat} {z : Int} {v : Value} (he : ws[q0]? = some (a, .inl (τ 4, n, rfs f))) (h0 : 0 ≤ z) (h1 : z < (n : Int)) (hn : n ≤ 2147483647) (hv : va_rf (f z.toNat) = v) (hd : decode cc pc = .ok (.aaload, 1)) (kk : W p l e R s m args below meth c H locs cells slots Q (F0 m (pc + 1) ls (v :: rest))) : W p l e R s m args below meth c H locs cells slots Q (F0 m pc ls (.int (iI z) :: .ref a :: rest)) := by
  have hc : (iI z).toNatClampNeg = z.toNat := iI_clamp ⟨by omega, by omega⟩
  have hin : vp_in (iI z) n := iI_in h0 h1 hn
  have hlt : (iI z).toNatClampNeg < n := by rw [hc]; omega
  refine W.aald (v := va_rf (f (iI z).toNatClampNeg)) (ty := .array .int) hx hb (hw.1 q0 _ he) ((hC.2.2.1.2 4 (τ 4, .array .int) rfl).1 n (fun j => va_rf (f j))) rfl (fun q => by cases q) (by show ¬ (iI z < 0 ∨ (arrV _ _ _).slots.size ≤ _); rw [arrV_size]; exact hin) (by show (arrV _ _ _).slots[_]? = _; rw [arrV_read _ _ hlt]) rfl rfl hd ?_
  rw [hc, hv]
  exact kk
end RM2
