/-! ===== NUMBERS: what is divided by four is a number ===== -/
theorem z_num {a : UInt64} (h : FP.Core.dIsNaN a = false) : a &&& 0x7fffffffffffffff ≤ 0x7ff0000000000000 := by
  refine UInt64.le_iff_toNat_le.mpr ?_
  rw [FP.Core.mask_toNat]
  exact (FP.Core.ne_nan a).mp ((FP.Core.notNaN_iff a).mp h)
theorem z_4fin : FP.Core.DFin (4616189618054758400 : UInt64) := (FP.Core.fin_bits _).mpr (by decide)
theorem z_4nz : ¬ FP.Core.DZero (4616189618054758400 : UInt64) := fun h => absurd ((FP.Core.zero_bits2 _).mp h) (by decide)
theorem z_div4n (x : Int32) : FP.Core.dIsNaN (FP.ddiv (FP.i2d x) (4616189618054758400 : UInt64)) = false := FP.Core.ddiv_out (FP.Core.i2d_fin x).notNaN z_4fin z_4nz
theorem z_div4 (x : Int32) : FP.ddiv (FP.i2d x) (4616189618054758400 : UInt64) &&& 0x7fffffffffffffff ≤ 0x7ff0000000000000 := z_num (z_div4n x)
theorem z_sub4n (x y : Int32) : FP.Core.dIsNaN (FP.dsub (FP.i2d x) (FP.ddiv (FP.i2d y) (4616189618054758400 : UInt64))) = false := FP.Core.dsub_out' (FP.Core.i2d_fin x) (z_div4n y)
theorem z_sub4 (x y : Int32) : FP.dsub (FP.i2d x) (FP.ddiv (FP.i2d y) (4616189618054758400 : UInt64)) &&& 0x7fffffffffffffff ≤ 0x7ff0000000000000 := z_num (z_sub4n x y)
theorem z_mul4n {a : UInt64} (h : FP.Core.dIsNaN a = false) : FP.Core.dIsNaN (FP.dmul (4616189618054758400 : UInt64) a) = false := by
  refine FP.Core.not_true (FP.Core.dmul_nan_iff _ a) ?_
  rw [FP.Core.notNaN_iff] at h
  rintro (z | z | ⟨s, z1, z2⟩ | ⟨s, z1, z2⟩)
  · exact z_4fin.ne_nan z
  · exact h z
  · exact z_4fin.ne_inf _ z1
  · exact z_4nz z1
theorem z_mul4 {a : UInt64} (h : FP.Core.dIsNaN a = false) : FP.dmul (4616189618054758400 : UInt64) a &&& 0x7fffffffffffffff ≤ 0x7ff0000000000000 := z_num (z_mul4n h)
