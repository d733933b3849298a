/-! share's doubles: sums of small whole numbers, and their quotients -/
theorem fl_n64 {a : UInt64} (h : FP.Core.val64 a ≠ .nan) : vf_n64 a := by
  have h1 := (FP.Core.ne_nan a).mp h
  unfold vf_n64
  rw [UInt64.le_iff_toNat_le, UInt64.toNat_and]
  rw [show (0x7fffffffffffffff : UInt64).toNat = 2 ^ 63 - 1 from rfl, Nat.and_two_pow_sub_one_eq_mod]
  exact h1
theorem fl_out {a : UInt64} (h : FP.Core.dIsNaN a = false) : vf_n64 a := fl_n64 ((FP.Core.notNaN_iff a).mp h)
theorem fl_zero : FP.Core.DInt 0 FP.dconst0 := by
  have h := FP.Core.i2d_int 0
  rw [show FP.Core.i2d 0 = FP.dconst0 from by decide +kernel] at h
  exact h
theorem fl_ne0 {x : Int32} (h : x ≠ 0) : ¬ FP.Core.DZero (FP.Core.i2d x) := fun h1 => FP.Core.i2d_ne_zero h ((FP.Core.zero_bits2 _).mp h1)
theorem fls : FLs := by
  intro a b hab
  have D1 : FP.Core.DInt (a : Int) (FP.i2d (nI a)) := by
    have h := FP.Core.i2d_int (nI a)
    rw [nI_toInt (by omega)] at h
    exact h
  have D2 : FP.Core.DInt (b : Int) (FP.i2d (nI b)) := by
    have h := FP.Core.i2d_int (nI b)
    rw [nI_toInt (by omega)] at h
    exact h
  have DS : FP.Core.DInt ((a : Int) + (b : Int)) (dS (nI a) (nI b)) := FP.Core.dadd_int D1 D2 (by omega)
  have hc : FP.dcmp (dS (nI a) (nI b)) FP.dconst0 = some (compare ((a : Int) + (b : Int)) 0) := FP.Core.dcmp_int DS fl_zero
  refine ⟨fl_out (FP.Core.dadd_out (FP.Core.i2d_fin _).notNaN (FP.Core.i2d_fin _)), fun h0 => ?_, fun h0 => ⟨?_, ?_, ?_⟩⟩
  · rw [hc, show ((a : Int) + (b : Int)) = 0 by omega]
    decide
  · rw [hc, FP.Core.compare_congr (a' := 1) (b' := 0) (by omega) (by omega)]
    decide
  · have h := FP.Core.i2d_int (nI (a + b))
    rw [nI_toInt (by omega)] at h
    rw [nI_add]
    refine FP.Core.dint_unique (i := (a : Int) + (b : Int)) (by omega) DS ?_
    rw [show ((a : Int) + (b : Int)) = ((a + b : Nat) : Int) by omega]
    exact h
  · rw [nI_add]
    exact fl_out (FP.Core.ddiv_out (FP.Core.i2d_fin _).notNaN (FP.Core.i2d_fin _) (fl_ne0 (nI_ne0 (by omega) (by omega))))
