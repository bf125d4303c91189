/-! QUESTIONS that go to THE END, alike on both sides -/
theorem Rel.tb {k : Nat} {MX MM : Mem} (h : Rel k MX MM) : TB (cut MM) MX (MX 155 16).toNat :=
  ⟨h.1, rfl, h.1.l16, h.S.1, h.S.2.1, h.W, ((cut_CE MM).w h.2.1).2⟩
