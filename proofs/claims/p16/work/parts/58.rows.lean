
theorem sum_k {a b T t0 t1 t2 l f0 f2 : Int} (h1 : a ≤ 2 * (t0 - T) + l + 2 * f0) (h2 : b ≤ t2 - t1 + 200 * f2) (h3 : t0 ≤ t1) (h5 : f0 ≤ f2) (h6 : t0 + 1 ≤ t2 + f2) (h7 : f2 ≤ 1) (h8 : 0 ≤ f2) : a + 1 + b ≤ 2 * (t2 - T) + l + 299 * f2 := by omega
theorem sum_k2 {a b T t0 t1 t2 l f0 f2 : Int} (h1 : a ≤ 2 * (t0 - T) + l + 1 + 2 * f0) (h2 : b ≤ t2 - t1 + 200 * f2) (h3 : t0 ≤ t1) (h5 : f0 ≤ f2) (h6 : t0 + 1 ≤ t2 + f2) (h7 : f2 ≤ 1) (h8 : 0 ≤ f2) : a + b ≤ 2 * (t2 - T) + l + 299 * f2 := by omega
theorem sum_k3 {a b T t0 t1 t2 l f0 f2 : Int} (h1 : a ≤ 2 * (t0 - T) + l + 299 * f0) (h2 : b ≤ t2 - t1 + 200 * f2) (h3 : t0 ≤ t1) (h5 : f0 = 0) (h6 : t0 ≤ t2) (h7 : f2 ≤ 1) (h8 : 0 ≤ f2) : a + b ≤ 2 * (t2 - T) + l + 299 * f2 := by omega
