-- a quotient of two longs as doubles is a number
theorem y_nan {U L : Int64} (h : ¬ L = 0) : xn64 (FP.ddiv (FP.l2d U) (FP.l2d L)) = true := by
  have hz : ¬ Jvm.FP.Core.DZero (FP.l2d L) := fun q => Jvm.FP.Core.l2d_ne_zero h ((Jvm.FP.Core.zero_bits2 _).mp q)
  have ha : Jvm.FP.Core.dIsNaN (FP.l2d U) = false := (Jvm.FP.Core.notNaN_iff _).mpr (by
    obtain ⟨s, c, q, e⟩ := Jvm.FP.Core.l2d_fin U
    intro z
    rw [show FP.l2d U = Jvm.FP.Core.l2d U from rfl] at z
    rw [e] at z
    cases z)
  have q := (Jvm.FP.Core.ne_nan _).mp ((Jvm.FP.Core.notNaN_iff _).mp (Jvm.FP.Core.ddiv_out ha (Jvm.FP.Core.l2d_fin L) hz))
  unfold xn64
  rw [decide_eq_true_iff, UInt64.le_iff_toNat_le, UInt64.toNat_and]
  show (FP.ddiv (FP.l2d U) (FP.l2d L)).toNat &&& (2 ^ 63 - 1) ≤ 9218868437227405312
  rw [Nat.and_two_pow_sub_one_eq_mod]
  exact q
