/-! ===== LAYER 3: quotients that are numbers ===== -/
theorem nn32_of {r : UInt32} (h : FP.Core.fIsNaN r = false) : nn32 r = true := by
  have h1 : ¬ 2139095040 < r.toNat % 2 ^ 31 := fun q => by
    have := (FP.Core.isNaN_bits32 r).mpr q
    rw [h] at this; cases this
  unfold nn32
  refine decide_eq_true ?_
  rw [UInt32.le_iff_toNat_le, UInt32.toNat_and, show (0x7fffffff : UInt32).toNat = 2 ^ 31 - 1 from rfl, show (0x7f800000 : UInt32).toNat = 2139095040 from rfl, Nat.and_two_pow_sub_one_eq_mod]
  omega
theorem nn64_of {r : UInt64} (h : FP.Core.dIsNaN r = false) : nn64 r = true := by
  have h1 : ¬ 9218868437227405312 < r.toNat % 2 ^ 63 := fun q => by
    have := (FP.Core.isNaN_bits r).mpr q
    rw [h] at this; cases this
  unfold nn64
  refine decide_eq_true ?_
  rw [UInt64.le_iff_toNat_le, UInt64.toNat_and, show (0x7fffffffffffffff : UInt64).toNat = 2 ^ 63 - 1 from rfl, show (0x7ff0000000000000 : UInt64).toNat = 9218868437227405312 from rfl, Nat.and_two_pow_sub_one_eq_mod]
  omega
theorem useN {l p : Nat} (h0 : 0 < p) (hp : p < 2147483648) : FP.Core.fIsNaN (FP.fdiv (FP.i2f (nI l)) (FP.i2f (nI p))) = false := by
  have hn : nI p ≠ 0 := by rw [Ne, i_0, i_eq (by omega) (by omega)]; omega
  have hf := FP.Core.i2f_fin (nI l)
  refine FP.Core.fdiv_out ?_ (FP.Core.i2f_fin (nI p)) (fun z => FP.Core.i2f_ne_zero hn ((FP.Core.zero_bits232 _).mp z))
  rw [FP.Core.notNaN_iff32]; exact hf.ne_nan
theorem meanN {l p : Nat} (h0 : 0 < p) (hp : p < 2147483648) : FP.Core.dIsNaN (FP.ddiv (FP.i2d (nI l)) (FP.i2d (nI p))) = false := by
  have hn : nI p ≠ 0 := by rw [Ne, i_0, i_eq (by omega) (by omega)]; omega
  exact FP.Core.ddiv_out (FP.Core.i2d_fin (nI l)).notNaN (FP.Core.i2d_fin (nI p)) (fun z => FP.Core.i2d_ne_zero hn ((FP.Core.zero_bits2 _).mp z))
theorem f2dN {r : UInt32} (h : FP.Core.fIsNaN r = false) : FP.Core.dIsNaN (FP.f2d r) = false := by
  rw [FP.f2d_core h]; exact FP.Core.f2d_out h
theorem dcmp0 {r : UInt64} (h : FP.Core.dIsNaN r = false) : Op.cmpValue (FP.dcmp r r) CmpOp.l = 0 := by
  have : FP.dcmp r r = some .eq := FP.Core.dcmp_self ((FP.Core.notNaN_iff r).mp h)
  rw [this]; rfl
theorem cap_pos : ∀ k, k < 2001 → 0 < k → ¬ (Op.cmpValue (FP.fcmp (FP.i2f (nI k)) (0 : UInt32)) CmpOp.l) ≤ 0 := by decide +kernel
