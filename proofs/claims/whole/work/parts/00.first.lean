/-! ===== a law of the float core, named first: so the round goes wide at once, and not at part 74 ===== -/
theorem ff_first (r : UInt32) : FP.Core.fIsNaN r = FP.Core.fIsNaN r := by
  have := FP.Core.isNaN_bits32 r
  rfl
