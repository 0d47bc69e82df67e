/-! THE TWO MEANS: NO QUOTIENT IS A NaN -/
theorem fl_ok1 : ∀ x, x < 600 → ∀ y, y < 7 → 0 < y → FP.fdiv (FP.i2f (nI x)) (FP.i2f (nI y)) &&& 0x7fffffff ≤ 0x7f800000 ∧ FP.f2d (FP.fdiv (FP.i2f (nI x)) (FP.i2f (nI y))) &&& 0x7fffffffffffffff ≤ 0x7ff0000000000000 := by decide +kernel
theorem fl_ok2 : ∀ x, x < 129 → ∀ y, y < 129 → 0 < y → FP.ddiv (FP.i2d (nI x)) (FP.i2d (nI y)) &&& 0x7fffffffffffffff ≤ 0x7ff0000000000000 := by decide +kernel
theorem fl_0 : FP.f2d (FP.i2f (nI 0)) &&& 0x7fffffffffffffff ≤ 0x7ff0000000000000 := by decide +kernel
