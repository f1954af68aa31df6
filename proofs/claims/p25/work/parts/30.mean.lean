/-! means -/
theorem n64_of {r : UInt64} (h : Jvm.FP.Core.dIsNaN r = false) : vf_n64 r := by
  have h1 : ¬ 9218868437227405312 < r.toNat % 2 ^ 63 := fun z => by
    rw [(Jvm.FP.Core.isNaN_bits r).mpr z] at h
    cases h
  show r &&& 0x7fffffffffffffff ≤ 0x7ff0000000000000
  rw [UInt64.le_iff_toNat_le, UInt64.toNat_and]
  show r.toNat &&& 2 ^ 63 - 1 ≤ 9218868437227405312
  rw [Nat.and_two_pow_sub_one_eq_mod]
  omega
theorem n64_div {a b : Int32} (hb : b ≠ 0) : vf_n64 (FP.ddiv (FP.i2d a) (FP.i2d b)) :=
  n64_of (Jvm.FP.Core.ddiv_out (Jvm.FP.Core.DFin.notNaN (Jvm.FP.Core.i2d_fin a)) (Jvm.FP.Core.i2d_fin b) (fun z => Jvm.FP.Core.i2d_ne_zero hb ((Jvm.FP.Core.zero_bits2 _).mp z)))
abbrev mnF (σ : St) : UInt64 := if sN σ = 0 then FP.dconst0 else FP.ddiv (FP.i2d (sumF (sW σ) 192)) (FP.i2d (nI (24 * sN σ)))
