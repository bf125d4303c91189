/-! MORE: members of library classes, wide constants -/
section RM3
variable {p : Program} {l : Launch} {e : Env} {R : Room} {s : State} {m : MethodId} {args : Array Value} {below : List Frame} {meth : Method} {c : Code} {H : Heap} {locs : List Loc} {cells slots : Nat} {Q : State → Prop}
variable {cc : ByteArray} {pc : Nat} {ls : Array Slot} {rest st0 : List Value} {D : va_G} {A : Nat → Prop} {a : Nat} {ws wc wr : va_W} {H0 : Heap} {τ : Nat → ClassId} {own : String} {index : Nat}
theorem r_ldcw (hx : p.tables.exec = Jvm.exec) (hb : c.code = cc) (hC : cx D τ s m args own) {v : Int32} {z : Int} (h : Cond.constant own index v ∈ lw_good) (hv : v = iI z) (hd : decode cc pc = .ok (.ldc_w index, 3)) (k : W p l e R s m args below meth c H locs cells slots Q (F0 m (pc + 3) ls (.int (iI z) :: rest))) : W p l e R s m args below meth c H locs cells slots Q (F0 m pc ls rest) := lv_ldcw hx hb hC.2.1 (hC.1 _ h) hd (by rw [hv]; exact k)
theorem lI_nz {z : Int} (h : lR z) (h0 : ¬ z = 0) : ¬ lI z = 0 := by rw [show (0 : Int64) = lI 0 from rfl, lI_eq h (by decide)]; exact h0
theorem r_ldiv (hx : p.tables.exec = Jvm.exec) (hb : c.code = cc) {a b : Int} (hd : decode cc pc = .ok (.ldiv, 1)) (hn : lR b) (hz : ¬ b = 0) (k : ∀ z : Int, lR z → lI a / lI b = lI z → W p l e R s m args below meth c H locs cells slots Q (F0 m (pc + 1) ls (.long (lI z) :: rest))) : W p l e R s m args below meth c H locs cells slots Q (F0 m pc ls (.long (lI b) :: .long (lI a) :: rest)) := by
  obtain ⟨z, h1, h2⟩ := lI_of (lI a / lI b)
  exact lv_ldiv hx hb hd (lI_nz hn hz) (by rw [h2]; exact k z h1 h2)
theorem r_lrem (hx : p.tables.exec = Jvm.exec) (hb : c.code = cc) {a b : Int} (hd : decode cc pc = .ok (.lrem, 1)) (hn : lR b) (hz : ¬ b = 0) (k : ∀ z : Int, lR z → lI a - lI a / lI b * lI b = lI z → W p l e R s m args below meth c H locs cells slots Q (F0 m (pc + 1) ls (.long (lI z) :: rest))) : W p l e R s m args below meth c H locs cells slots Q (F0 m pc ls (.long (lI b) :: .long (lI a) :: rest)) := by
  obtain ⟨z, h1, h2⟩ := lI_of (lI a - lI a / lI b * lI b)
  exact lv_lrem hx hb hd (lI_nz hn hz) (by rw [h2]; exact k z h1 h2)
end RM3
