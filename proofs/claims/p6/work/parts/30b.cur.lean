theorem cn_of {x : Int32} {t : Nat} (h : x.toInt = (t : Int)) : x.toNatClampNeg = t := by
  have := cl_nat (x := x) (by omega)
  omega
theorem ti_add {x y z : Int32} {a b : Int} (e : z = x + y) (hx : x.toInt = a) (hy : y.toInt = b) (h0 : -2147483648 ≤ a + b) (h1 : a + b < 2147483648) : z.toInt = a + b := by
  rw [e, i_add, hx, hy]
  omega
theorem ti_sub {x y z : Int32} {a b : Int} (e : z = x - y) (hx : x.toInt = a) (hy : y.toInt = b) (h0 : -2147483648 ≤ a - b) (h1 : a - b < 2147483648) : z.toInt = a - b := by
  rw [e, i_sub, hx, hy]
  omega
