/-! ROUNDING -/
theorem vp_lt {i : Int32} {n : Nat} (h : vp_in i n) : i.toNatClampNeg < n := Nat.not_le.mp fun q => h (Or.inr q)
theorem vp_nb1 : vp_nar .boolean 1 = 1 := by decide
theorem vp_nb0 : vp_nar .boolean 0 = 0 := by decide
theorem rounded_abs {v : Int64} (h : v.toInt.natAbs ≤ 2147483648) : (f_rounded v).toInt.natAbs ≤ 2147483648 := by
  sorry
theorem sum_small {x y : Int64} (hx : x.toInt.natAbs ≤ 2147483648) (hy : y.toInt.natAbs ≤ 2147483648) : (x + y).toInt.natAbs < 1099511627776 := by
  rw [Jvm.FP.Core.int64_add (by omega) (by omega)]
  omega
theorem c_X9_rounded (l : Launch) (D : va_G) (dA : Nat → ClassId) (z : Nat) (M : Mp) (x0 : Int64) (hv : x0.toInt.natAbs < 1099511627776) : CQ l D dA z yX9_rounded cX9_rounded 13 (some .long) [.long x0] (rmN 0 0) M (Ql D dA z (fun r M' => M' = M ∧ r = f_rounded x0)) := by
  sorry
