theorem oz_2334575e67 {a0 a1 a2 a3 a4 a5 a6 : Int} (h0 : 0 ≤ a0) (h1 : a0 < a1) (h2 : a2 ≤ a3) (h3 : a1 ≤ a4) (h4 : a5 < a2) (h5 : a3 ≤ 2100) (h6 : a4 ≤ a6) (h7 : a6 ≤ a5) : 0 ≤ a0 ∧ a0 < ((2100 : Nat) : Int) := by omega
theorem oz_3535899054 {a0 a1 a2 a3 : Int} (h0 : a1 ≤ a0) (h1 : a2 ≤ a1) (h2 : 0 ≤ a3) (h3 : a3 < a2) : 0 ≤ a0 := by omega
theorem oz_a82e7868d0 {a0 a1 a2 a3 a4 a5 : Int} (h0 : 6 * a0 + a2 ≤ 6540) (h1 : a3 + a4 + a5 + a1 + 5 ≤ a2) (h2 : 0 ≤ a3) (h3 : 0 ≤ a4) (h4 : 0 ≤ a5) : 6 * a0 + a1 ≤ 6540 := by omega
theorem oz_0a7d18f368 {n0 : Nat}  : (6 * n0 + 27) + 1 ≤ (6 * n0 + 29) := by omega
theorem oz_884c966d29 {n0 : Nat}  : 8 + (2 + 11) + (260 * n0 + 940) ≤ (260 * n0 + 1020) := by omega
theorem oz_cfa904bb27 {n0 : Nat}  : 0 + 1 ≤ (6 * n0 + 29) := by omega
theorem oz_480c6b4fdb {n0 : Nat}  : 8 + (3 + 11) + 0 ≤ (260 * n0 + 1020) := by omega
theorem oz_f69aaf80ca {a0 a1 a2 a3 a4 a5 a6 a7 : Int} (h0 : a3 + a4 + a5 + a6 + 5 ≤ a2) (h1 : 6 * a7 ≤ 6 * a1 + (a6)) (h2 : a0 = a7) (h3 : 0 ≤ a3) (h4 : 0 ≤ a4) (h5 : 0 ≤ a5) : 6 * a0 ≤ 6 * a1 + (a2) := by omega
theorem oz_0ab3c77e19 {n0 : Nat}  : (4 * n0 + 13) + 1 ≤ (6 * n0 + 29) := by omega
theorem oz_6434b70a93 {n0 : Nat}  : 8 + (3 + 11) + (200 * n0 + 460) ≤ (260 * n0 + 1020) := by omega
theorem oz_cbc45a6c70 {a0 a1 a2 a3 a4 a5 a6 : Int} (h0 : a2 + a3 + a4 + a1 + 5 ≤ a5) (h1 : a0 = a6) (h2 : 6 * a6 + a5 ≤ 6540) (h3 : 0 ≤ a2) (h4 : 0 ≤ a3) (h5 : 0 ≤ a4) : 6 * a0 + a1 ≤ 6540 := by omega
theorem oz_964e82b9f4 {a0 a1 a2 a3 : Int} (h0 : a1 = a2) (h1 : a0 = a3) (h2 : a3 ≤ 4096 * a2) : a0 ≤ 4096 * a1 := by omega
theorem oz_0fa6d939a6 {a0 a1 a2 a3 : Int} (h0 : a1 = a2) (h1 : a0 = a3) (h2 : a3 ≤ 4 + 4096 * a2) : a0 ≤ 4 + 4096 * a1 := by omega
theorem oz_d272872612 {a0 a2 : Int} {n1 : Nat} (h0 : a2 + (n1 : Int) + 1 ≤ 400) (h1 : a0 = a2) : a0 + (n1 : Int) ≤ 400 := by omega
theorem oz_4d2bb0c431 {a0 a2 : Int} {n1 : Nat} (h0 : a2 + (n1 : Int) + 1 ≤ 400) (h1 : a0 = a2) : a0 + (n1 : Int) + 1 ≤ 400 := by omega
theorem oz_78ec9d60fa {a0 a1 a2 a3 : Int} (h0 : a2 = a0) (h1 : a1 = a3) (h2 : a2 ≤ a3) : a0 ≤ a1 := by omega
theorem oz_7b195f597e {a0 a1 a2 a3 a4 a5 a6 a7 a8 : Int} (h0 : a3 + a4 + a5 + a6 + 5 ≤ a2) (h1 : a7 = a1) (h2 : a0 = a8) (h3 : 0 ≤ a3) (h4 : 0 ≤ a4) (h5 : 0 ≤ a5) (h6 : 6 * a8 ≤ 6 * a7 + (a6)) : 6 * a0 ≤ 6 * a1 + (a2) := by omega
theorem oz_abec796424 {a0 a1 a2 a3 a4 a5 a6 a7 : Int} (h0 : a4 = a3) (h1 : a5 = a1) (h2 : a2 = a6) (h3 : a0 = a7) (h4 : a7 - a5 ≤ 4 * (a6 - a4)) : a0 - a1 ≤ 4 * (a2 - a3) := by omega
theorem oz_f98fea81d9 {a0 a1 a2 a3 a4 a5 a6 a7 : Int} (h0 : a4 = a3) (h1 : a5 = a1) (h2 : a2 = a6) (h3 : a0 = a7) (h4 : a7 - a5 ≤ 4096 * (a6 - a4)) : a0 - a1 ≤ 4096 * (a2 - a3) := by omega
theorem oz_0420a6770c {a0 a1 a2 a3 a4 a5 a6 a7 : Int} (h0 : a4 = a3) (h1 : a5 = a1) (h2 : a0 = a6) (h3 : a2 = a7) (h4 : a6 - a5 ≤ 4096 * (a7 - a4)) : a0 - a1 ≤ 4096 * (a2 - a3) := by omega
theorem oz_cabfece9a2 {a0 a1 a2 a3 a4 : Int} (h0 : a2 ≤ a1) (h1 : a0 ≤ a3) (h2 : a3 ≤ a4) (h3 : a4 < a2) : a0 ≤ a1 := by omega
theorem oz_368b1ff356 {n0 : Nat}  : (4 * n0 + 12) + 1 ≤ (6 * n0 + 29) := by omega
theorem oz_2a3a86d2be {n0 : Nat}  : 8 + (8 + 11) + (200 * n0 + 420) ≤ (260 * n0 + 1020) := by omega
theorem oz_cc030681f7 {a0 a1 a2 a3 a4 a5 a6 a7 : Int} (h0 : a2 + a3 + a4 + a1 + 5 ≤ a5) (h1 : a0 = a6) (h2 : 6 * a7 + a5 ≤ 6540) (h3 : 0 ≤ a2) (h4 : 0 ≤ a3) (h5 : 0 ≤ a4) (h6 : a6 = a7) : 6 * a0 + a1 ≤ 6540 := by omega
theorem oz_f6f5eb07dd {a0 a1 a2 a3 : Int} (h0 : a0 = a1) (h1 : a1 = a2) (h2 : a3 ≤ 4 + 4096 * a2) (h3 : 0 ≤ a3) : 0 ≤ a0 := by omega
theorem oz_7ed347e8ad {a0 a1 a2 a3 a4 a5 : Int} (h0 : a1 = a2) (h1 : a0 = a3) (h2 : a2 = a4) (h3 : a3 = a5) (h4 : a5 ≤ 4096 * a4) : a0 ≤ 4096 * a1 := by omega
theorem oz_da2a904354 {a0 a1 a2 a3 a4 a5 : Int} (h0 : a1 = a2) (h1 : a0 = a3) (h2 : a2 = a4) (h3 : a3 = a5) (h4 : a5 ≤ 4 + 4096 * a4) : a0 ≤ 4 + 4096 * a1 := by omega
theorem oz_1d9764fd28 {a0 a2 a3 : Int} {n1 : Nat} (h0 : a2 + (n1 : Int) + 1 ≤ 400) (h1 : a0 = a3) (h2 : a3 = a2) : a0 + (n1 : Int) ≤ 400 := by omega
theorem oz_740a8b247c {a0 a1 a2 : Int} (h0 : a0 = a1) (h1 : a1 = a2) (h2 : a2 < 2100) : a0 < 2100 := by omega
theorem oz_e363459920 {a0 a2 a3 : Int} {n1 : Nat} (h0 : a2 + (n1 : Int) + 1 ≤ 400) (h1 : a0 = a3) (h2 : a3 = a2) : a0 + (n1 : Int) + 1 ≤ 400 := by omega
theorem oz_d0877684c2 {a0 a1 a2 a3 a4 : Int} (h0 : a2 = a0) (h1 : a1 = a3) (h2 : a4 = a2) (h3 : a4 ≤ a3) : a0 ≤ a1 := by omega
theorem oz_b8572a6ae1 {a0 a1 a2 a3 a4 a5 a6 a7 a8 a9 : Int} (h0 : a3 + a4 + a5 + a6 + 5 ≤ a2) (h1 : a7 = a1) (h2 : a0 = a8) (h3 : 0 ≤ a3) (h4 : 0 ≤ a4) (h5 : 0 ≤ a5) (h6 : a9 = a7) (h7 : 6 * a8 ≤ 6 * a9 + (a6)) : 6 * a0 ≤ 6 * a1 + (a2) := by omega
theorem oz_5978ffc030 {a0 a1 a2 a3 a4 a5 a6 a7 a8 a9 : Int} (h0 : a4 = a3) (h1 : a5 = a1) (h2 : a2 = a6) (h3 : a0 = a7) (h4 : a8 = a4) (h5 : a9 = a5) (h6 : a7 - a9 ≤ 4 * (a6 - a8)) : a0 - a1 ≤ 4 * (a2 - a3) := by omega
theorem oz_926a44a7a6 {a0 a1 a2 a3 a4 a5 a6 a7 a8 a9 : Int} (h0 : a4 = a3) (h1 : a5 = a1) (h2 : a2 = a6) (h3 : a0 = a7) (h4 : a8 = a4) (h5 : a9 = a5) (h6 : a7 - a9 ≤ 4096 * (a6 - a8)) : a0 - a1 ≤ 4096 * (a2 - a3) := by omega
theorem oz_6cae6533da {a0 a1 a2 a3 a4 a5 a6 a7 a8 a9 : Int} (h0 : a4 = a3) (h1 : a5 = a1) (h2 : a0 = a6) (h3 : a2 = a7) (h4 : a8 = a4) (h5 : a9 = a5) (h6 : a6 - a9 ≤ 4096 * (a7 - a8)) : a0 - a1 ≤ 4096 * (a2 - a3) := by omega
theorem oz_9219fb40fa {a0 a1 a2 a3 a4 : Int} (h0 : a2 ≤ a1) (h1 : a0 ≤ a3) (h2 : a3 ≤ a4) (h3 : a4 ≤ a2) : a0 ≤ a1 := by omega
theorem oz_eae155ffdf {a0 a1 a2 a3 a4 a5 : Int} (h0 : 6 * a0 + a2 ≤ 6540) (h1 : a1 + a3 + a4 + a5 + 5 ≤ a2) (h2 : 0 ≤ a3) (h3 : 0 ≤ a4) (h4 : 0 ≤ a5) : 6 * a0 + a1 ≤ 6540 := by omega
theorem oz_00b995d557 {n0 : Nat}  : (6 * n0 + 26) + 1 ≤ (6 * n0 + 29) := by omega
theorem oz_feae7da00e {n0 : Nat}  : 8 + (3 + 11) + (260 * n0 + 900) ≤ (260 * n0 + 1020) := by omega
theorem oz_376db002e6 {a0 a1 a2 a3 a4 a5 a6 a7 : Int} (h0 : 0 ≤ a0) (h1 : (a0 + 1) ≤ a1) (h2 : a2 ≤ a3) (h3 : a4 ≤ a5) (h4 : a6 < a2) (h5 : a1 < a4) (h6 : a3 ≤ 2100) (h7 : a5 ≤ a7) (h8 : a7 ≤ a6) : 0 ≤ a0 ∧ a0 < ((2100 : Nat) : Int) := by omega
theorem oz_df1d141c94 {a0 a1 a2 a3 a4 : Int} (h0 : a1 ≤ a0) (h1 : a2 ≤ a1) (h2 : 0 ≤ a3) (h3 : (a3 + 1) ≤ a4) (h4 : a4 < a2) : 0 ≤ a0 := by omega
theorem oz_24f37080f5 {a0 a1 a2 a3 a4 a5 a6 : Int} (h0 : a2 + a3 + a4 + a1 + 5 ≤ a5) (h1 : 6 * a0 ≤ 6 * a6 + (a2)) (h2 : 6 * a6 + a5 ≤ 6540) (h3 : 0 ≤ a3) (h4 : 0 ≤ a4) : 6 * a0 + a1 ≤ 6540 := by omega
theorem oz_8f0709eef7 {a0 a1 a2 a3 a4 a5 a6 : Int} (h0 : a2 - a3 ≤ 4096 * (a4 - a0)) (h1 : a1 = a5) (h2 : a3 ≤ a2) (h3 : a2 ≤ a6) (h4 : a6 - a2 ≤ 4096 * (a5 - a4)) : a0 ≤ a1 := by omega
theorem oz_070889f416 {a0 a1 a2 a3 a4 a5 a6 a7 a8 : Int} (h0 : a3 + a4 + a5 + a6 + 5 ≤ a2) (h1 : 6 * a7 ≤ 6 * a1 + (a3)) (h2 : a0 = a8) (h3 : 0 ≤ a4) (h4 : 0 ≤ a5) (h5 : 6 * a8 ≤ 6 * a7 + (a6)) : 6 * a0 ≤ 6 * a1 + (a2) := by omega
theorem oz_d08cb9f65e {a0 a1 a2 a3 a4 a5 a6 a7 : Int} (h0 : a4 - a1 ≤ 4 * (a5 - a3)) (h1 : a2 = a6) (h2 : a0 = a7) (h3 : a7 - a4 ≤ 4 * (a6 - a5)) : a0 - a1 ≤ 4 * (a2 - a3) := by omega
theorem oz_ffe07573fc {a0 a1 a2 a3 a4 a5 a6 a7 : Int} (h0 : a4 - a1 ≤ 4096 * (a5 - a3)) (h1 : a2 = a6) (h2 : a0 = a7) (h3 : a7 - a4 ≤ 4096 * (a6 - a5)) : a0 - a1 ≤ 4096 * (a2 - a3) := by omega
theorem oz_7d1305fdee {a0 a1 a2 a3 a4 a5 a6 a7 : Int} (h0 : a4 - a1 ≤ 4096 * (a5 - a3)) (h1 : a0 = a6) (h2 : a2 = a7) (h3 : a6 - a4 ≤ 4096 * (a7 - a5)) : a0 - a1 ≤ 4096 * (a2 - a3) := by omega
theorem oz_5ba337ca74 {a0 a1 a2 a3 : Int} (h0 : a1 ≤ a0) (h1 : a2 < a1) (h2 : 0 ≤ a3) (h3 : (a3 + 1) ≤ a2) : 0 ≤ a0 := by omega
theorem oz_e7df975688 {a0 a1 a2 a3 a4 a5 a6 a7 : Int} (h0 : a2 + a3 + a4 + a1 + 5 ≤ a5) (h1 : a0 = a6) (h2 : 6 * a7 + a5 ≤ 6540) (h3 : 0 ≤ a3) (h4 : 0 ≤ a4) (h5 : 6 * a6 ≤ 6 * a7 + (a2)) : 6 * a0 + a1 ≤ 6540 := by omega
theorem oz_de1de8abaa {a0 a1 a2 a3 a4 a5 a6 : Int} (h0 : a2 - a3 ≤ 4096 * (a4 - a0)) (h1 : a1 = a5) (h2 : a3 ≤ a2) (h3 : a6 = a4) (h4 : a6 ≤ a5) : a0 ≤ a1 := by omega
theorem oz_28aba2ef1b {a0 a1 a2 a3 a4 a5 a6 a7 a8 a9 : Int} (h0 : a3 + a4 + a5 + a6 + 5 ≤ a2) (h1 : 6 * a7 ≤ 6 * a1 + (a3)) (h2 : a0 = a8) (h3 : 0 ≤ a4) (h4 : 0 ≤ a5) (h5 : a9 = a7) (h6 : 6 * a8 ≤ 6 * a9 + (a6)) : 6 * a0 ≤ 6 * a1 + (a2) := by omega
theorem oz_177e2427a4 {a0 a1 a2 a3 a4 a5 a6 : Int} (h0 : a2 - a3 ≤ 4 * (a4 - a0)) (h1 : a1 = a5) (h2 : a3 ≤ a2) (h3 : a6 = a4) (h4 : a6 ≤ a5) : a0 ≤ a1 := by omega
theorem oz_d1adcf9e6d {a0 a1 a2 a3 a4 a5 a6 a7 a8 a9 : Int} (h0 : a4 - a1 ≤ 4 * (a5 - a3)) (h1 : a2 = a6) (h2 : a0 = a7) (h3 : a8 = a5) (h4 : a9 = a4) (h5 : a7 - a9 ≤ 4 * (a6 - a8)) : a0 - a1 ≤ 4 * (a2 - a3) := by omega
theorem oz_517c5935f5 {a0 a1 a2 a3 a4 a5 a6 a7 a8 a9 : Int} (h0 : a4 - a1 ≤ 4096 * (a5 - a3)) (h1 : a2 = a6) (h2 : a0 = a7) (h3 : a8 = a5) (h4 : a9 = a4) (h5 : a7 - a9 ≤ 4096 * (a6 - a8)) : a0 - a1 ≤ 4096 * (a2 - a3) := by omega
theorem oz_ec93b785c0 {a0 a1 a2 a3 a4 a5 a6 a7 a8 a9 : Int} (h0 : a4 - a1 ≤ 4096 * (a5 - a3)) (h1 : a0 = a6) (h2 : a2 = a7) (h3 : a8 = a5) (h4 : a9 = a4) (h5 : a6 - a9 ≤ 4096 * (a7 - a8)) : a0 - a1 ≤ 4096 * (a2 - a3) := by omega
theorem oz_5b675c0aaa {a0 a1 a2 : Int} (h0 : a1 < a0) (h1 : 0 ≤ a2) (h2 : (a2 + 1) ≤ a1) : 0 ≤ a0 := by omega
theorem oz_79e828879f {a0 a1 a2 a3 a4 a5 a6 a7 a8 : Int} (h0 : a2 + a3 + a4 + a1 + 5 ≤ a5) (h1 : a0 = a6) (h2 : 6 * a7 + a5 ≤ 6540) (h3 : 0 ≤ a3) (h4 : 0 ≤ a4) (h5 : 6 * a8 ≤ 6 * a7 + (a2)) (h6 : a6 = a8) : 6 * a0 + a1 ≤ 6540 := by omega
theorem oz_a85aeab2ff {a0 a1 a2 a3 a4 a5 a6 a7 : Int} (h0 : a1 = a2) (h1 : a0 = a3) (h2 : a2 = a4) (h3 : a3 = a5) (h4 : a5 - a6 ≤ 4096 * (a4 - a7)) (h5 : a6 ≤ 4096 * a7) : a0 ≤ 4096 * a1 := by omega
theorem oz_640603e5ba {a0 a1 a2 a3 a4 a5 : Int} (h0 : a0 = a1) (h1 : a1 = a2) (h2 : a3 - a4 ≤ 4 * (a2 - a5)) (h3 : 0 ≤ a5) (h4 : a4 ≤ a3) : 0 ≤ a0 := by omega
theorem oz_640efea5dc {a0 a1 a2 a3 a4 a5 a6 a7 : Int} (h0 : a1 = a2) (h1 : a0 = a3) (h2 : a2 = a4) (h3 : a3 = a5) (h4 : a5 - a6 ≤ 4096 * (a4 - a7)) (h5 : a6 ≤ 4 + 4096 * a7) : a0 ≤ 4 + 4096 * a1 := by omega
theorem oz_ce6628c031 {a0 a1 a2 a3 : Int} (h0 : a0 = a1) (h1 : a1 = a2) (h2 : a2 = a3) (h3 : a3 ≤ 1) : a0 ≤ 1 := by omega
theorem oz_7c5913e3de {a0 a2 a3 a4 : Int} {n1 : Nat} (h0 : a2 + (n1 : Int) + 1 ≤ 400) (h1 : a0 = a3) (h2 : a4 = a2) (h3 : a3 = a4) : a0 + (n1 : Int) ≤ 400 := by omega
theorem oz_68526bafb7 {a0 a1 a2 a3 : Int} (h0 : a0 = a1) (h1 : a1 = a2) (h2 : a2 = a3) (h3 : a3 < 2100) : a0 < 2100 := by omega
theorem oz_a9caacca9b {a0 a2 a3 a4 : Int} {n1 : Nat} (h0 : a2 + (n1 : Int) + 1 ≤ 400) (h1 : a0 = a3) (h2 : a4 = a2) (h3 : a3 = a4) : a0 + (n1 : Int) + 1 ≤ 400 := by omega
theorem oz_ef72e214d7 {a0 a1 a2 a3 a4 a5 a6 a7 a8 a9 a10 a11 a12 a13 : Int} (h0 : a2 - a3 ≤ 4096 * (a4 - a0)) (h1 : a1 = a5) (h2 : a6 ≤ a7) (h3 : a7 - a6 ≤ 4 * (a2 - a3)) (h4 : a8 = a4) (h5 : a9 - a10 ≤ 4096 * (a5 - a11)) (h6 : a11 = a8) (h7 : a12 ≤ a13) (h8 : a13 - a12 ≤ 4 * (a9 - a10)) : a0 ≤ a1 := by omega
theorem oz_f130b30b4c {a0 a1 a2 a3 a4 a5 a6 a7 a8 a9 a10 : Int} (h0 : a3 + a4 + a5 + a6 + 5 ≤ a2) (h1 : 6 * a7 ≤ 6 * a1 + (a3)) (h2 : a0 = a8) (h3 : 0 ≤ a4) (h4 : 0 ≤ a5) (h5 : a9 = a7) (h6 : 6 * a8 ≤ 6 * a10 + (a6)) (h7 : a10 = a9) : 6 * a0 ≤ 6 * a1 + (a2) := by omega
theorem oz_0b35b90db2 {a0 a1 a2 a3 a4 a5 a6 a7 a8 a9 : Int} (h0 : a2 - a3 ≤ 4 * (a4 - a0)) (h1 : a1 = a5) (h2 : a3 ≤ a2) (h3 : a6 = a4) (h4 : a7 - a8 ≤ 4 * (a5 - a9)) (h5 : a9 = a6) (h6 : a8 ≤ a7) : a0 ≤ a1 := by omega
theorem oz_2d1a592502 {a0 a1 a2 a3 a4 a5 a6 a7 a8 a9 a10 a11 : Int} (h0 : a4 - a1 ≤ 4 * (a5 - a3)) (h1 : a2 = a6) (h2 : a0 = a7) (h3 : a8 = a5) (h4 : a9 = a4) (h5 : a7 - a10 ≤ 4 * (a6 - a11)) (h6 : a11 = a8) (h7 : a10 = a9) : a0 - a1 ≤ 4 * (a2 - a3) := by omega
theorem oz_f0e6974812 {a0 a1 a2 a3 a4 a5 a6 a7 a8 a9 a10 a11 : Int} (h0 : a4 - a1 ≤ 4096 * (a5 - a3)) (h1 : a2 = a6) (h2 : a0 = a7) (h3 : a8 = a5) (h4 : a9 = a4) (h5 : a7 - a10 ≤ 4096 * (a6 - a11)) (h6 : a11 = a8) (h7 : a10 = a9) : a0 - a1 ≤ 4096 * (a2 - a3) := by omega
theorem oz_abac3b7fa3 {a0 a1 a2 a3 a4 a5 a6 a7 a8 a9 a10 a11 : Int} (h0 : a4 - a1 ≤ 4096 * (a5 - a3)) (h1 : a0 = a6) (h2 : a2 = a7) (h3 : a8 = a5) (h4 : a9 = a4) (h5 : a6 - a10 ≤ 4096 * (a7 - a11)) (h6 : a11 = a8) (h7 : a10 = a9) : a0 - a1 ≤ 4096 * (a2 - a3) := by omega
theorem m13_34 : Cond.methodLink "HomeSystemModel$Program" 655 ⟨"HomeSystemModel$Program", "checkBody", "(I)V"⟩ ∈ AL := AL_13 (List.mem_of_getElem? (i := 34) rfl) rfl
theorem m13_37 : Cond.code ⟨"HomeSystemModel$Program", "checkBody", "(I)V"⟩ prog_16_method_93_code 2 (Option.none : Option Jvm.ClassFile.FieldType) ∈ AL := AL_13 (List.mem_of_getElem? (i := 37) rfl) rfl
theorem ms_13_6 : Cond.selects "HomeSystemModel$Program" ⟨"HomeSystemModel$Program", "checkBody", "(I)V"⟩ ⟨"HomeSystemModel$Program", "checkBody", "(I)V"⟩ ∈ AL := AL_p (q := (⟨"HomeSystemModel$Program", "checkBody", "(I)V"⟩, 69)) (by unfold lw_privs; exact List.mem_append_right _ (List.mem_append_right _ (List.mem_append_right _ (List.mem_append_right _ (List.mem_append_right _ (List.mem_append_right _ (List.mem_append_right _ (List.mem_append_right _ (List.mem_append_right _ (List.mem_append_right _ (List.mem_append_right _ (List.mem_append_right _ (List.mem_append_left _ (List.mem_of_getElem? (i := 6) rfl))))))))))))))
theorem m13_36 : Cond.instanceMethod ⟨"HomeSystemModel$Program", "checkBody", "(I)V"⟩ ∈ AL := AL_13 (List.mem_of_getElem? (i := 36) rfl) rfl
theorem m12_210 : Cond.methodLink "HomeSystemModel$Program" 648 ⟨"HomeSystemModel$Program", "checkAlone", "(I)V"⟩ ∈ AL := AL_12 (List.mem_of_getElem? (i := 210) rfl) rfl
theorem m12_213 : Cond.code ⟨"HomeSystemModel$Program", "checkAlone", "(I)V"⟩ prog_16_method_92_code 3 (Option.none : Option Jvm.ClassFile.FieldType) ∈ AL := AL_12 (List.mem_of_getElem? (i := 213) rfl) rfl
theorem ms_12_6 : Cond.selects "HomeSystemModel$Program" ⟨"HomeSystemModel$Program", "checkAlone", "(I)V"⟩ ⟨"HomeSystemModel$Program", "checkAlone", "(I)V"⟩ ∈ AL := AL_p (q := (⟨"HomeSystemModel$Program", "checkAlone", "(I)V"⟩, 69)) (by unfold lw_privs; exact List.mem_append_right _ (List.mem_append_right _ (List.mem_append_right _ (List.mem_append_right _ (List.mem_append_right _ (List.mem_append_right _ (List.mem_append_right _ (List.mem_append_right _ (List.mem_append_right _ (List.mem_append_right _ (List.mem_append_right _ (List.mem_append_left _ (List.mem_of_getElem? (i := 6) rfl)))))))))))))
theorem m12_212 : Cond.instanceMethod ⟨"HomeSystemModel$Program", "checkAlone", "(I)V"⟩ ∈ AL := AL_12 (List.mem_of_getElem? (i := 212) rfl) rfl
abbrev b_Mpg_checkFor : ByteArray := prog_16_method_94_code
def y_Mpg_checkFor : MethodName := ⟨"HomeSystemModel$Program", "checkFor", "(I)V"⟩
theorem d_Mpg_checkFor_0 : decode b_Mpg_checkFor 0 = .ok (.aload_n 0, 1) := by decide +kernel
theorem d_Mpg_checkFor_1 : decode b_Mpg_checkFor 1 = .ok (.getfield 528, 3) := by decide +kernel
theorem d_Mpg_checkFor_4 : decode b_Mpg_checkFor 4 = .ok (.istore_n 2, 1) := by decide +kernel
theorem d_Mpg_checkFor_5 : decode b_Mpg_checkFor 5 = .ok (.aload_n 0, 1) := by decide +kernel
theorem d_Mpg_checkFor_6 : decode b_Mpg_checkFor 6 = .ok (.getfield 556, 3) := by decide +kernel
theorem d_Mpg_checkFor_9 : decode b_Mpg_checkFor 9 = .ok (.istore_n 3, 1) := by decide +kernel
theorem d_Mpg_checkFor_10 : decode b_Mpg_checkFor 10 = .ok (.aload_n 0, 1) := by decide +kernel
theorem d_Mpg_checkFor_11 : decode b_Mpg_checkFor 11 = .ok (.aload_n 0, 1) := by decide +kernel
theorem d_Mpg_checkFor_12 : decode b_Mpg_checkFor 12 = .ok (.getfield 528, 3) := by decide +kernel
theorem d_Mpg_checkFor_15 : decode b_Mpg_checkFor 15 = .ok (.putfield 556, 3) := by decide +kernel
theorem d_Mpg_checkFor_18 : decode b_Mpg_checkFor 18 = .ok (.aload_n 0, 1) := by decide +kernel
theorem d_Mpg_checkFor_19 : decode b_Mpg_checkFor 19 = .ok (.getfield 216, 3) := by decide +kernel
theorem d_Mpg_checkFor_22 : decode b_Mpg_checkFor 22 = .ok (.iload_n 1, 1) := by decide +kernel
theorem d_Mpg_checkFor_23 : decode b_Mpg_checkFor 23 = .ok (.iaload, 1) := by decide +kernel
theorem d_Mpg_checkFor_24 : decode b_Mpg_checkFor 24 = .ok (.ifCond .lt 13, 3) := by decide +kernel
theorem d_Mpg_checkFor_27 : decode b_Mpg_checkFor 27 = .ok (.aload_n 0, 1) := by decide +kernel
theorem d_Mpg_checkFor_28 : decode b_Mpg_checkFor 28 = .ok (.aload_n 0, 1) := by decide +kernel
theorem d_Mpg_checkFor_29 : decode b_Mpg_checkFor 29 = .ok (.getfield 216, 3) := by decide +kernel
theorem d_Mpg_checkFor_32 : decode b_Mpg_checkFor 32 = .ok (.iload_n 1, 1) := by decide +kernel
theorem d_Mpg_checkFor_33 : decode b_Mpg_checkFor 33 = .ok (.iaload, 1) := by decide +kernel
theorem d_Mpg_checkFor_34 : decode b_Mpg_checkFor 34 = .ok (.invokevirtual 636, 3) := by decide +kernel
theorem d_Mpg_checkFor_37 : decode b_Mpg_checkFor 37 = .ok (.aload_n 0, 1) := by decide +kernel
theorem d_Mpg_checkFor_38 : decode b_Mpg_checkFor 38 = .ok (.getfield 219, 3) := by decide +kernel
theorem d_Mpg_checkFor_41 : decode b_Mpg_checkFor 41 = .ok (.iload_n 1, 1) := by decide +kernel
theorem d_Mpg_checkFor_42 : decode b_Mpg_checkFor 42 = .ok (.iaload, 1) := by decide +kernel
theorem d_Mpg_checkFor_43 : decode b_Mpg_checkFor 43 = .ok (.ifCond .lt 15, 3) := by decide +kernel
theorem d_Mpg_checkFor_46 : decode b_Mpg_checkFor 46 = .ok (.aload_n 0, 1) := by decide +kernel
theorem d_Mpg_checkFor_47 : decode b_Mpg_checkFor 47 = .ok (.aload_n 0, 1) := by decide +kernel
theorem d_Mpg_checkFor_48 : decode b_Mpg_checkFor 48 = .ok (.getfield 219, 3) := by decide +kernel
theorem d_Mpg_checkFor_51 : decode b_Mpg_checkFor 51 = .ok (.iload_n 1, 1) := by decide +kernel
theorem d_Mpg_checkFor_52 : decode b_Mpg_checkFor 52 = .ok (.iaload, 1) := by decide +kernel
theorem d_Mpg_checkFor_53 : decode b_Mpg_checkFor 53 = .ok (.iconst 1, 1) := by decide +kernel
theorem d_Mpg_checkFor_54 : decode b_Mpg_checkFor 54 = .ok (.invokevirtual 577, 3) := by decide +kernel
theorem d_Mpg_checkFor_57 : decode b_Mpg_checkFor 57 = .ok (.pop, 1) := by decide +kernel
theorem d_Mpg_checkFor_58 : decode b_Mpg_checkFor 58 = .ok (.aload_n 0, 1) := by decide +kernel
theorem d_Mpg_checkFor_59 : decode b_Mpg_checkFor 59 = .ok (.getfield 222, 3) := by decide +kernel
theorem d_Mpg_checkFor_62 : decode b_Mpg_checkFor 62 = .ok (.iload_n 1, 1) := by decide +kernel
theorem d_Mpg_checkFor_63 : decode b_Mpg_checkFor 63 = .ok (.iaload, 1) := by decide +kernel
theorem d_Mpg_checkFor_64 : decode b_Mpg_checkFor 64 = .ok (.ifCond .lt 13, 3) := by decide +kernel
theorem d_Mpg_checkFor_67 : decode b_Mpg_checkFor 67 = .ok (.aload_n 0, 1) := by decide +kernel
theorem d_Mpg_checkFor_68 : decode b_Mpg_checkFor 68 = .ok (.aload_n 0, 1) := by decide +kernel
theorem d_Mpg_checkFor_69 : decode b_Mpg_checkFor 69 = .ok (.getfield 222, 3) := by decide +kernel
theorem d_Mpg_checkFor_72 : decode b_Mpg_checkFor 72 = .ok (.iload_n 1, 1) := by decide +kernel
theorem d_Mpg_checkFor_73 : decode b_Mpg_checkFor 73 = .ok (.iaload, 1) := by decide +kernel
theorem d_Mpg_checkFor_74 : decode b_Mpg_checkFor 74 = .ok (.invokevirtual 648, 3) := by decide +kernel
theorem d_Mpg_checkFor_77 : decode b_Mpg_checkFor 77 = .ok (.aload_n 0, 1) := by decide +kernel
theorem d_Mpg_checkFor_78 : decode b_Mpg_checkFor 78 = .ok (.aload_n 0, 1) := by decide +kernel
theorem d_Mpg_checkFor_79 : decode b_Mpg_checkFor 79 = .ok (.getfield 225, 3) := by decide +kernel
theorem d_Mpg_checkFor_82 : decode b_Mpg_checkFor 82 = .ok (.iload_n 1, 1) := by decide +kernel
theorem d_Mpg_checkFor_83 : decode b_Mpg_checkFor 83 = .ok (.iaload, 1) := by decide +kernel
theorem d_Mpg_checkFor_84 : decode b_Mpg_checkFor 84 = .ok (.invokevirtual 655, 3) := by decide +kernel
theorem d_Mpg_checkFor_87 : decode b_Mpg_checkFor 87 = .ok (.aload_n 0, 1) := by decide +kernel
theorem d_Mpg_checkFor_88 : decode b_Mpg_checkFor 88 = .ok (.iload_n 2, 1) := by decide +kernel
theorem d_Mpg_checkFor_89 : decode b_Mpg_checkFor 89 = .ok (.iload_n 3, 1) := by decide +kernel
theorem d_Mpg_checkFor_90 : decode b_Mpg_checkFor 90 = .ok (.invokevirtual 642, 3) := by decide +kernel
theorem d_Mpg_checkFor_93 : decode b_Mpg_checkFor 93 = .ok (.return_, 1) := by decide +kernel
theorem q_Mpg_checkFor : px_y y_Mpg_checkFor 1 := by unfold px_y; decide +kernel
set_option maxHeartbeats 4000000 in
set_option maxRecDepth 100000 in
theorem c_mp_checkFor (l : Launch) (D : va_G) (cs : Nat → ClassId) (ma0 : Nat → Nat → Int32) (ys : Int) (nf : Int) (tx : Int) (d : Nat) (lo : Int) (hi : Int) (w : Int) (h : Nat) (r : Nat → Nat) (g : Nat → Nat → Option Nat) (tf : Nat → Int32) (ta : Nat → Nat → Int32) (pf : Nat → Int32) (na : Nat → Nat → Int32) (wa : Nat → Nat → Int32) (ef : Nat → Int32) (ea : Nat → Nat → Int32) (xf : Nat → Int32) (xa : Nat → Nat → Int32) (ma : Nat → Nat → Int32) (cf : Nat → Int32) (ca : Nat → Nat → Int32) (p0 : Int32)  (g0 : 0 ≤ lo) (g1 : hi ≤ (pf 13).toInt) (g2 : (pf 13).toInt ≤ 2100) (g3 : (tf 6).toInt ≤ 2049) (g4 : 0 ≤ (cf 33).toInt) (g5 : 0 ≤ w) (g6 : 6 * (cf 33).toInt + w ≤ 6540) (g7 : 0 ≤ (cf 48).toInt) (g8 : 6 * (cf 48).toInt + w ≤ 6540) (g9 : (cf 38).toInt = nf) (g10 : 0 ≤ nf) (g11 : 0 ≤ (cf 37).toInt) (g12 : 0 ≤ (cf 54).toInt) (g13 : (cf 54).toInt ≤ 4096 * (cf 48).toInt) (g14 : 0 ≤ (cf 42).toInt) (g15 : (cf 42).toInt ≤ 4 + 4096 * (cf 48).toInt) (g16 : 0 ≤ (cf 44).toInt) (g17 : 0 ≤ (cf 45).toInt) (g18 : ys ≤ (cf 48).toInt ∨ tx = 1) (g19 : 0 ≤ (cf 46).toInt) (g20 : (cf 46).toInt ≤ 1) (g21 : 0 ≤ (cf 47).toInt) (g22 : (cf 47).toInt ≤ 1) (g23 : (cf 44).toInt + (d : Int) ≤ 400) (g24 : (cf 45).toInt + (d : Int) ≤ 400) (g25 : 0 ≤ (cf 43).toInt) (g26 : (cf 43).toInt < 2100) (g27 : tx = 0) (g28 : (na 14 p0.toNatClampNeg).toInt = 27) (g29 : (cf 44).toInt + (d : Int) + 1 ≤ 400) (g30 : (cf 45).toInt + (d : Int) + 1 ≤ 400) (htk : TkI tf ta) (hfs : FsI (tf 6).toInt (pf 13).toInt na) (hwr : WrV cf (tf 6).toInt) (hkt : KnT (tf 6).toInt ca (cf 33).toInt) (hft : FnT (tf 6).toInt na ca (cf 38).toInt) (hks : KnS ca (cf 33).toInt (cf 48).toInt ys) (hfp : FnP na ca nf) (hsr : SyR ca ys (cf 48).toInt (cf 54).toInt tx) (han : Ann na ma0 ma) (htx : txo (cf 43).toInt = tx) (hsc : ScV ta (tf 6).toInt na ma0 (d + 1) lo hi w p0) (hLS : StC l D cs d) : MetV l y_Mpg_checkFor b_Mpg_checkFor 4 D cs (6 * d + 29) (260 * d + 1020) (0) (0) [.ref h, .int p0] [wdP cs h r g tf ta pf na ma wa cf ca ef ea xf xa] (oX (fun A U H => (oP A g U H)) [wdP cs h r g tf ta pf na ma wa cf ca ef ea xf xa]) (fun ps => ∃ (ma' : Nat → Nat → Int32) (cf' : Nat → Int32) (ca' : Nat → Nat → Int32), (ps = [wdP cs h r g tf ta pf na ma' wa cf' ca' ef ea xf xa]) ∧ ((cf' 30).toInt = 0 → (cf 30).toInt = 0) ∧ (WrV cf' (tf 6).toInt) ∧ ((cf' 37).toInt = (cf 37).toInt) ∧ ((cf' 38).toInt = (cf 38).toInt) ∧ ((cf' 43).toInt = (cf 43).toInt) ∧ ((cf' 44).toInt = (cf 44).toInt) ∧ ((cf' 45).toInt = (cf 45).toInt) ∧ ((cf' 46).toInt = (cf 46).toInt) ∧ ((cf' 47).toInt = (cf 47).toInt) ∧ ((cf' 41).toInt = (cf 41).toInt) ∧ ((cf' 55).toInt = (cf 55).toInt) ∧ ((cf' 59).toInt = (cf 59).toInt) ∧ ((cf' 33).toInt = (cf 33).toInt) ∧ ((cf 48).toInt ≤ (cf' 48).toInt) ∧ (6 * (cf' 48).toInt ≤ 6 * (cf 48).toInt + (w)) ∧ ((cf 54).toInt ≤ (cf' 54).toInt) ∧ ((cf 42).toInt ≤ (cf' 42).toInt) ∧ ((cf' 54).toInt - (cf 54).toInt ≤ 4 * ((cf' 42).toInt - (cf 42).toInt)) ∧ ((cf' 54).toInt - (cf 54).toInt ≤ 4096 * ((cf' 48).toInt - (cf 48).toInt)) ∧ ((cf' 42).toInt - (cf 42).toInt ≤ 4096 * ((cf' 48).toInt - (cf 48).toInt)) ∧ (KnT (tf 6).toInt ca' (cf' 33).toInt) ∧ (KnS ca' (cf' 33).toInt (cf' 48).toInt ys) ∧ (CaG ca ca' (cf 33).toInt (cf 48).toInt) ∧ (SyR ca' ys (cf' 48).toInt (cf' 54).toInt tx) ∧ (Ann na ma0 ma') ∧ (FrC lo hi ma ma') ∧ (ZTe cf' ta ca' na ma0 (cf' 48).toInt ys nf ma' lo hi p0 (tgv (cf 44).toInt (cf 45).toInt)) ∧ (R_mp_checkFor (RL_mp_checkStatement d) tf ta na p0 ma cf ca ma' cf' ca')) := by
  refine px_enter (by decide) (Nat.le_of_ble_eq_true rfl) ?_
  intro p e s m below meth c A ls hAe S hr hlk hnm hA hT hX hw hl
  have hl : lv_has ls 4 [(0, .ref h), (1, .int p0)] := hl
  have lp0 := Int32.le_toInt p0
  have up0 := Int32.toInt_lt p0
  have cst1 : (1 : Int32).toInt = 1 := rfl
  have hX : (fun A U H => (oP A g U H)) A s s.heap := by rw [hAe]; exact hX
  have hP := hX
  have hZ := hP.1
  have hF0 := hP.2.1
  have hfc : FrC lo hi ma ma := FrC.rf
  have hwr0 := hwr.1
  have hk11 := hkt.1
  have hf11 := hft.1
  have hcg : CaG ca ca (cf 33).toInt (cf 48).toInt := CaG.rf
  have hkt0 := hkt
  have hks0 := hks
  have hsr0 := ScV.rng hsc
  have hsc_p0 := hsc
  obtain ⟨m1, m2, m3, w1, w2, w3, w5, hm1, hm2, hm3, hm4, hoa, hob, hoc, hse, hws, hw1, hw2, hw3, hw5⟩ := ScV.s27 hsc (by omega) (z := na 17 p0.toNatClampNeg) (y := ma0 18 p0.toNatClampNeg) (x := ma0 19 p0.toNatClampNeg) (u := ma0 20 p0.toNatClampNeg) rfl rfl rfl rfl
  have hru := ScV.rng hse
  refine lv_aload_n S.x S.b d_Mpg_checkFor_0 rfl (lv_at hl 0 rfl) ?_
  refine px_get S k_Mpg hT hw 0 0 33 (v := .int (cf 33)) rfl rfl rfl (by decide) m10_22 d_Mpg_checkFor_1 ?_
  refine lv_istore_n (lv' := [(2, .int (cf 33)), (0, .ref h), (1, .int p0)]) S.x S.b d_Mpg_checkFor_4 rfl hl (by decide) rfl (fun ls hl => ?_)
  refine lv_aload_n S.x S.b d_Mpg_checkFor_5 rfl (lv_at hl 1 rfl) ?_
  refine px_get S k_Mpg hT hw 0 0 37 (v := .int (cf 37)) rfl rfl rfl (by decide) m10_26 d_Mpg_checkFor_6 ?_
  refine lv_istore_n (lv' := [(3, .int (cf 37)), (2, .int (cf 33)), (0, .ref h), (1, .int p0)]) S.x S.b d_Mpg_checkFor_9 rfl hl (by decide) rfl (fun ls hl => ?_)
  refine lv_aload_n S.x S.b d_Mpg_checkFor_10 rfl (lv_at hl 2 rfl) ?_
  refine lv_aload_n S.x S.b d_Mpg_checkFor_11 rfl (lv_at hl 2 rfl) ?_
  refine px_get S k_Mpg hT hw 0 0 33 (v := .int (cf 33)) rfl rfl rfl (by decide) m10_22 d_Mpg_checkFor_12 ?_
  refine px_put S k_Mpg hT hw 0 0 37 rfl rfl (by decide) m10_26 rfl rfl rfl (Nat.le_of_ble_eq_true rfl) d_Mpg_checkFor_15 (w' := wdP cs h r g tf ta pf na ma wa (upd cf 37 (cf 33)) ca ef ea xf xa) (ps' := [wdP cs h r g tf ta pf na ma wa (upd cf 37 (cf 33)) ca ef ea xf xa]) rfl rfl (fun H locs hw => ?_)
  refine lv_aload_n S.x S.b d_Mpg_checkFor_18 rfl (lv_at hl 2 rfl) ?_
  refine px_get S k_Mpg hT hw 0 0 17 (v := .ref (r 17)) rfl rfl rfl (by decide) m10_1 d_Mpg_checkFor_19 ?_
  refine lv_iload_n S.x S.b d_Mpg_checkFor_22 rfl (lv_at hl 3 rfl) ?_
  refine px_iald S hT hw 0 13 (n := 2100) (f := (na 17)) rfl gp_17 (x := p0) (vp_in_iff.mpr (by first | exact oz_2334575e67 hsr0.2.2.1 hm1 g1 hm2 hru.2.1 g2 hm3 hru.1 | (constructor <;> omega))) d_Mpg_checkFor_23 ?_
  refine lv_topi (fun z1 ez1 => ?_)
  have lz1 := Int32.le_toInt z1
  have uz1 := Int32.toInt_lt z1
  have ha_z1 : z1 = na 17 p0.toNatClampNeg := ez1; have hn_z1 : z1.toInt = (na 17 p0.toNatClampNeg).toInt := (by rw [ha_z1])
  refine lv_if_lt (tgt := 37) S.x S.b d_Mpg_checkFor_24 (by decide) (fun c2 => ?_) (fun c2 => ?_)
  · have nc2 : z1.toInt < (0 : Int) := (i_lt (x := z1) (y := 0)).mp c2
    refine lv_aload_n S.x S.b d_Mpg_checkFor_37 rfl (lv_at hl 2 rfl) ?_
    refine px_get S k_Mpg hT hw 0 0 18 (v := .ref (r 18)) rfl rfl rfl (by decide) m10_3 d_Mpg_checkFor_38 ?_
    refine lv_iload_n S.x S.b d_Mpg_checkFor_41 rfl (lv_at hl 3 rfl) ?_
    refine px_iald S hT hw 0 14 (n := 2100) (f := (ma 18)) rfl gp_18 (x := p0) (vp_in_iff.mpr (by first | exact oz_2334575e67 hsr0.2.2.1 hm1 g1 hm2 hru.2.1 g2 hm3 hru.1 | (constructor <;> omega))) d_Mpg_checkFor_42 ?_
    refine lv_topi (fun z4 ez4 => ?_)
    have lz4 := Int32.le_toInt z4
    have uz4 := Int32.toInt_lt z4
    have ha_z4 : z4 = ma0 18 p0.toNatClampNeg := ez4.trans (Ann.b18 han (by omega)); have hn_z4 : z4.toInt = (ma0 18 p0.toNatClampNeg).toInt := (by rw [ha_z4])
    refine lv_if_lt (tgt := 58) S.x S.b d_Mpg_checkFor_43 (by decide) (fun c5 => ?_) (fun c5 => ?_)
    · have nc5 : z4.toInt < (0 : Int) := (i_lt (x := z4) (y := 0)).mp c5
      refine lv_aload_n S.x S.b d_Mpg_checkFor_58 rfl (lv_at hl 2 rfl) ?_
      refine px_get S k_Mpg hT hw 0 0 19 (v := .ref (r 19)) rfl rfl rfl (by decide) m10_5 d_Mpg_checkFor_59 ?_
      refine lv_iload_n S.x S.b d_Mpg_checkFor_62 rfl (lv_at hl 3 rfl) ?_
      refine px_iald S hT hw 0 15 (n := 2100) (f := (ma 19)) rfl gp_19 (x := p0) (vp_in_iff.mpr (by first | exact oz_2334575e67 hsr0.2.2.1 hm1 g1 hm2 hru.2.1 g2 hm3 hru.1 | (constructor <;> omega))) d_Mpg_checkFor_63 ?_
      refine lv_topi (fun z7 ez7 => ?_)
      have lz7 := Int32.le_toInt z7
      have uz7 := Int32.toInt_lt z7
      have ha_z7 : z7 = ma0 19 p0.toNatClampNeg := ez7.trans (Ann.b19 han (by omega)); have hn_z7 : z7.toInt = (ma0 19 p0.toNatClampNeg).toInt := (by rw [ha_z7])
      refine lv_if_lt (tgt := 77) S.x S.b d_Mpg_checkFor_64 (by decide) (fun c8 => ?_) (fun c8 => ?_)
      · have nc8 : z7.toInt < (0 : Int) := (i_lt (x := z7) (y := 0)).mp c8
        refine lv_aload_n S.x S.b d_Mpg_checkFor_77 rfl (lv_at hl 2 rfl) ?_
        refine lv_aload_n S.x S.b d_Mpg_checkFor_78 rfl (lv_at hl 2 rfl) ?_
        refine px_get S k_Mpg hT hw 0 0 20 (v := .ref (r 20)) rfl rfl rfl (by decide) m10_6 d_Mpg_checkFor_79 ?_
        refine lv_iload_n S.x S.b d_Mpg_checkFor_82 rfl (lv_at hl 3 rfl) ?_
        refine px_iald S hT hw 0 16 (n := 2100) (f := (ma 20)) rfl gp_20 (x := p0) (vp_in_iff.mpr (by first | exact oz_2334575e67 hsr0.2.2.1 hm1 g1 hm2 hru.2.1 g2 hm3 hru.1 | (constructor <;> omega))) d_Mpg_checkFor_83 ?_
        refine lv_topi (fun z10 ez10 => ?_)
        have lz10 := Int32.le_toInt z10
        have uz10 := Int32.toInt_lt z10
        have ha_z10 : z10 = ma0 20 p0.toNatClampNeg := ez10.trans (Ann.b20 han (by omega) (by omega)); have hn_z10 : z10.toInt = (ma0 20 p0.toNatClampNeg).toInt := (by rw [ha_z10]); have hsc_z10 : ScV ta (tf 6).toInt na ma0 d m3 hi w5 z10 := (by rw [ha_z10]; exact hse); have hrg_z10 := ScV.rng hsc_z10
        refine px_callv (pr := []) (px_runV (As := [.int z10]) (rest := []) S (c_mp_checkBody l D cs ma0 ys nf tx d m3 hi w5 h r g tf ta pf na wa ef ea xf xa ma (upd cf 37 (cf 33)) ca z10  (show 0 ≤ m3 from by first | exact oz_3535899054 hm3 hm2 hsr0.2.2.1 hm1 | omega) (show hi ≤ (pf 13).toInt from by first | exact g1 | omega) (show (pf 13).toInt ≤ 2100 from by first | exact g2 | omega) (show (tf 6).toInt ≤ 2049 from by first | exact g3 | omega) (show 0 ≤ (cf 33).toInt from by first | exact g4 | omega) (show 0 ≤ w5 from by first | exact hw5 | omega) (show 6 * (cf 33).toInt + w5 ≤ 6540 from by first | exact oz_a82e7868d0 g6 hws hw1 hw2 hw3 | omega) (show 0 ≤ (cf 48).toInt from by first | exact g7 | omega) (show 6 * (cf 48).toInt + w5 ≤ 6540 from by first | exact oz_a82e7868d0 g8 hws hw1 hw2 hw3 | omega) (show (cf 38).toInt = nf from by first | exact g9 | omega) (show 0 ≤ nf from by first | exact g10 | omega) (show 0 ≤ (cf 33).toInt from by first | exact g4 | omega) (show 0 ≤ (cf 54).toInt from by first | exact g12 | omega) (show (cf 54).toInt ≤ 4096 * (cf 48).toInt from by first | exact g13 | omega) (show 0 ≤ (cf 42).toInt from by first | exact g14 | omega) (show (cf 42).toInt ≤ 4 + 4096 * (cf 48).toInt from by first | exact g15 | omega) (show 0 ≤ (cf 44).toInt from by first | exact g16 | omega) (show 0 ≤ (cf 45).toInt from by first | exact g17 | omega) (show ys ≤ (cf 48).toInt ∨ tx = 1 from by first | exact g18 | omega) (show 0 ≤ (cf 46).toInt from by first | exact g19 | omega) (show (cf 46).toInt ≤ 1 from by first | exact g20 | omega) (show 0 ≤ (cf 47).toInt from by first | exact g21 | omega) (show (cf 47).toInt ≤ 1 from by first | exact g22 | omega) (show (cf 44).toInt + (d : Int) ≤ 400 from by first | exact g23 | omega) (show (cf 45).toInt + (d : Int) ≤ 400 from by first | exact g24 | omega) (show 0 ≤ (cf 43).toInt from by first | exact g25 | omega) (show (cf 43).toInt < 2100 from by first | exact g26 | omega) (show tx = 0 from by first | exact g27 | omega) (show (cf 44).toInt + (d : Int) + 1 ≤ 400 from by first | exact g29 | omega) htk (FsI.le (N' := (pf 13).toInt) hfs (by omega)) (WrV.u hwr (by decide) (by decide)) (KnT.eq hkt (show _ = (cf 33).toInt by omega)) (FnT.eq hft (show _ = (cf 38).toInt by omega)) (KnS.eq hks (show _ = (cf 33).toInt by omega) (show _ = (cf 48).toInt by omega)) hfp (SyR.eq hsr (show _ = (cf 48).toInt by omega) (show _ = (cf 54).toInt by omega)) han (show txo (cf 43).toInt = tx from by rw [show (cf 43).toInt = (cf 43).toInt by omega]; exact htx) hsc_z10 hLS _) hT (pr := []) (pcs := [wdP cs h r g tf ta pf na ma wa (upd cf 37 (cf 33)) ca ef ea xf xa]) hw (oX_call (P := (fun A U H => (oP A g U H))) (pr := []) oG_P hw hA hP) (px_recv hT hw 0 0 rfl rfl rfl) m13_37 m13_34 m13_36 ms_13_6 m1_21 q_Mpg_checkBody ⟨show (6 * d + 27) + 1 ≤ (6 * d + 29) from (by first | exact oz_0a7d18f368 | omega), show 8 + (2 + 11) + (260 * d + 940) ≤ (260 * d + 1020) from (by first | exact oz_884c966d29 | omega)⟩ hl.1 rfl (Nat.le_of_ble_eq_true rfl) d_Mpg_checkFor_84 ⟨Nat.le_of_ble_eq_true rfl, Nat.le_of_ble_eq_true rfl⟩) hw hA (fun p17 H locs hp17 hw => ?_)
        obtain ⟨ma14, cf15, ca16, rfl, e19, e20, e21, e22, e23, e24, e25, e26, e27, e28, e29, e30, e31, e32, e33, e34, e35, e36, e37, e38, e39, e40, e41, e42, e43, e44, e45, e46, e47⟩ := hp17
        have e19 : (cf15 30).toInt = 0 → (cf 30).toInt = 0 := e19
        have e20 : WrV cf15 (tf 6).toInt := e20
        have hwr := e20
        have hw0_e20 := hwr.1
        have e21 : (cf15 37).toInt = (cf 33).toInt := e21
        have e22 : (cf15 38).toInt = (cf 38).toInt := e22
        have e23 : (cf15 43).toInt = (cf 43).toInt := e23
        have e24 : (cf15 44).toInt = (cf 44).toInt := e24
        have e25 : (cf15 45).toInt = (cf 45).toInt := e25
        have e26 : (cf15 46).toInt = (cf 46).toInt := e26
        have e27 : (cf15 47).toInt = (cf 47).toInt := e27
        have e28 : (cf15 41).toInt = (cf 41).toInt := e28
        have e29 : (cf15 55).toInt = (cf 55).toInt := e29
        have e30 : (cf15 59).toInt = (cf 59).toInt := e30
        have e31 : (cf 33).toInt ≤ (cf15 33).toInt := e31
        have e32 : 6 * (cf15 33).toInt ≤ 6 * (cf 33).toInt + (w5) := e32
        have e33 : (cf 48).toInt ≤ (cf15 48).toInt := e33
        have e34 : 6 * (cf15 48).toInt ≤ 6 * (cf 48).toInt + (w5) := e34
        have e35 : (cf 54).toInt ≤ (cf15 54).toInt := e35
        have e36 : (cf 42).toInt ≤ (cf15 42).toInt := e36
        have e37 : (cf15 54).toInt - (cf 54).toInt ≤ 4 * ((cf15 42).toInt - (cf 42).toInt) := e37
        have e38 : (cf15 54).toInt - (cf 54).toInt ≤ 4096 * ((cf15 48).toInt - (cf 48).toInt) := e38
        have e39 : (cf15 42).toInt - (cf 42).toInt ≤ 4096 * ((cf15 48).toInt - (cf 48).toInt) := e39
        have e40 : KnT (tf 6).toInt ca16 (cf15 33).toInt := e40
        have hkt := e40
        have hk11_e40 := hkt.1
        have e41 : KnS ca16 (cf15 33).toInt (cf15 48).toInt ys := e41
        have hks := e41
        have e42 : CaG ca ca16 (cf 33).toInt (cf 48).toInt := e42
        have hcg := hcg.tr e42 (by omega) (by omega)
        have hft := hft.cg e42
        have hfp := hfp.cg e42
        have e43 : SyR ca16 ys (cf15 48).toInt (cf15 54).toInt tx := e43
        have hsr := e43
        have e44 : Ann na ma0 ma14 := e44
        have han := e44
        have e45 : FrC m3 hi ma ma14 := e45
        have hfc := hfc.tr e45 (by omega) (by omega)
        have e46 : ZTe cf15 ta ca16 na ma0 (cf15 48).toInt ys nf ma14 m3 hi z10 4 := e46
        have hts_z10 : ZTe cf15 ta ca16 na ma0 (cf15 48).toInt ys nf ma14 m3 hi z10 4 := ZTe.to e46 (fun q => by omega) (by omega) (Int.le_refl _) (Int.le_refl _) rfl
        have e47 : R_mp_checkBody (RL_mp_checkStatement d) tf ta na z10 ma (upd cf 37 (cf 33)) ca ma14 cf15 ca16 := e47
        have hw : pw D A s.heap H locs [wdP cs h r g tf ta pf na ma14 wa cf15 ca16 ef ea xf xa] := hw
        refine lv_aload_n S.x S.b d_Mpg_checkFor_87 rfl (lv_at hl 2 rfl) ?_
        refine lv_iload_n S.x S.b d_Mpg_checkFor_88 rfl (lv_at hl 1 rfl) ?_
        refine lv_iload_n S.x S.b d_Mpg_checkFor_89 rfl (lv_at hl 0 rfl) ?_
        refine px_callv (pr := []) (px_runV (As := [.int (cf 33), .int (cf 37)]) (rest := []) S (c_mp_leave l D cs h r g tf ta pf na ma14 wa ca16 ef ea xf xa cf15 (cf 33) (cf 37)  htk _) hT (pr := []) (pcs := [wdP cs h r g tf ta pf na ma14 wa cf15 ca16 ef ea xf xa]) hw px_X.tt (px_recv hT hw 0 0 rfl rfl rfl) m12_209 m12_206 m12_208 ms_12_5 m1_21 q_Mpg_leave ⟨show 0 + 1 ≤ (6 * d + 29) from (by first | exact oz_cfa904bb27 | omega), show 8 + (3 + 11) + 0 ≤ (260 * d + 1020) from (by first | exact oz_480c6b4fdb | omega)⟩ hl.1 rfl (Nat.le_of_ble_eq_true rfl) d_Mpg_checkFor_90 ⟨Nat.le_of_ble_eq_true rfl, Nat.le_of_ble_eq_true rfl⟩) hw hA (fun p50 H locs hp50 hw => ?_)
        obtain ⟨cf49, rfl, e52, e53, e54, e55, e56, e57, e58, e59, e60, e61, e62, e63, e64, e65, e66, e67, e68, e69, e70⟩ := hp50
        have e52 : (cf49 33).toInt = (cf 33).toInt := e52
        have e53 : (cf49 37).toInt = (cf 37).toInt := e53
        have e54 : (cf49 30).toInt = (cf15 30).toInt := e54
        have e55 : (cf49 31).toInt = (cf15 31).toInt := e55
        have e56 : (cf49 38).toInt = (cf15 38).toInt := e56
        have e57 : (cf49 41).toInt = (cf15 41).toInt := e57
        have e58 : (cf49 42).toInt = (cf15 42).toInt := e58
        have e59 : (cf49 43).toInt = (cf15 43).toInt := e59
        have e60 : (cf49 44).toInt = (cf15 44).toInt := e60
        have e61 : (cf49 45).toInt = (cf15 45).toInt := e61
        have e62 : (cf49 46).toInt = (cf15 46).toInt := e62
        have e63 : (cf49 47).toInt = (cf15 47).toInt := e63
        have e64 : (cf49 48).toInt = (cf15 48).toInt := e64
        have e65 : (cf49 54).toInt = (cf15 54).toInt := e65
        have e66 : (cf49 55).toInt = (cf15 55).toInt := e66
        have e67 : (cf49 57).toInt = (cf15 57).toInt := e67
        have e68 : (cf49 58).toInt = (cf15 58).toInt := e68
        have e69 : (cf49 59).toInt = (cf15 59).toInt := e69
        have e70 : R_mp_leave (cf 33) (cf 37) cf15 cf49 := e70
        have hwr : WrV cf49 (tf 6).toInt := WrV.eq hwr (by omega) (by omega)
        have hkt := KnT.eq (n' := (cf49 33).toInt) (KnT.cg hkt0 hcg (Int.le_refl _)) (by omega)
        have hks := KnS.eq (n' := (cf49 33).toInt) (KnS.cg hks0 hcg (Int.le_refl _) (Int.le_refl _) (n2 := (cf49 48).toInt) (by omega)) (by omega) rfl
        have hts_z10 : ZTe cf49 ta ca16 na ma0 (cf49 48).toInt ys nf ma14 m3 hi z10 4 := ZTe.to hts_z10 (fun q => by omega) (by omega) (Int.le_refl _) (Int.le_refl _) rfl
        have hw : pw D A s.heap H locs [wdP cs h r g tf ta pf na ma14 wa cf49 ca16 ef ea xf xa] := hw
        exact px_vret S hr hlk hAe hw (Nat.le_of_ble_eq_true rfl) (Nat.le_of_ble_eq_true rfl) (⟨ma14, cf49, ca16, rfl, (show (cf49 30).toInt = 0 → (cf 30).toInt = 0 from by omega), (show WrV cf49 (tf 6).toInt from hwr), (show (cf49 37).toInt = (cf 37).toInt from by first | exact e53 | omega), (show (cf49 38).toInt = (cf 38).toInt from by first | exact oz_1687f4cc65 e22 e56 | omega), (show (cf49 43).toInt = (cf 43).toInt from by first | exact oz_1687f4cc65 e23 e59 | omega), (show (cf49 44).toInt = (cf 44).toInt from by first | exact oz_1687f4cc65 e24 e60 | omega), (show (cf49 45).toInt = (cf 45).toInt from by first | exact oz_1687f4cc65 e25 e61 | omega), (show (cf49 46).toInt = (cf 46).toInt from by first | exact oz_1687f4cc65 e26 e62 | omega), (show (cf49 47).toInt = (cf 47).toInt from by first | exact oz_1687f4cc65 e27 e63 | omega), (show (cf49 41).toInt = (cf 41).toInt from by first | exact oz_1687f4cc65 e28 e57 | omega), (show (cf49 55).toInt = (cf 55).toInt from by first | exact oz_1687f4cc65 e29 e66 | omega), (show (cf49 59).toInt = (cf 59).toInt from by first | exact oz_1687f4cc65 e30 e69 | omega), (show (cf49 33).toInt = (cf 33).toInt from by first | exact e52 | omega), (show (cf 48).toInt ≤ (cf49 48).toInt from by first | exact oz_73dc218776 e39 e64 e35 e37 | omega), (show 6 * (cf49 48).toInt ≤ 6 * (cf 48).toInt + (w) from by first | exact oz_f69aaf80ca hws e34 e64 hw1 hw2 hw3 | omega), (show (cf 54).toInt ≤ (cf49 54).toInt from by first | exact oz_b1a9dcfb4c e35 e65 | omega), (show (cf 42).toInt ≤ (cf49 42).toInt from by first | exact oz_94ff7ee8ed e37 e58 e35 | omega), (show (cf49 54).toInt - (cf 54).toInt ≤ 4 * ((cf49 42).toInt - (cf 42).toInt) from by first | exact oz_4001d13b45 e37 e58 e65 | omega), (show (cf49 54).toInt - (cf 54).toInt ≤ 4096 * ((cf49 48).toInt - (cf 48).toInt) from by first | exact oz_761fc723f5 e38 e64 e65 | omega), (show (cf49 42).toInt - (cf 42).toInt ≤ 4096 * ((cf49 48).toInt - (cf 48).toInt) from by first | exact oz_0e7a26fe4a e39 e58 e64 | omega), (show KnT (tf 6).toInt ca16 (cf49 33).toInt from (KnT.eq hkt (by omega))), (show KnS ca16 (cf49 33).toInt (cf49 48).toInt ys from (KnS.eq hks (by omega) (by omega))), (show CaG ca ca16 (cf 33).toInt (cf 48).toInt from (hcg.le (by omega) (by omega))), (show SyR ca16 ys (cf49 48).toInt (cf49 54).toInt tx from (SyR.eq hsr (by omega) (by omega))), (show Ann na ma0 ma14 from han), (show FrC lo hi ma ma14 from hfc), (show ZTe cf49 ta ca16 na ma0 (cf49 48).toInt ys nf ma14 lo hi p0 (tgv (cf 44).toInt (cf 45).toInt) from (fun zz => by exact tys_27 ⟨by omega, by omega, by omega⟩ tgv_rng (by omega) ha_z1 (ha_z4.trans (Ann.b18 han (by omega)).symm) (ha_z7.trans (Ann.b19 han (by omega)).symm) (ha_z10.trans (Ann.b20 han (by omega) (by omega)).symm) (Or.inl (by omega)) (Or.inl (by omega)) (Or.inl (by omega)) (ZTe.at hts_z10 (by omega) (by omega) (by omega) (by omega) rfl))), (show R_mp_checkFor (RL_mp_checkStatement d) tf ta na p0 ma cf ca ma14 cf49 ca16 from (Or.inl ⟨z1, ez1, Or.inl ⟨nc2, z4, ez4, Or.inl ⟨nc5, z7, ez7, Or.inl ⟨nc8, z10, ez10, ma14, cf15, ca16, e47, cf49, e70, rfl, rfl, rfl⟩⟩⟩⟩))⟩) d_Mpg_checkFor_93
      · have nc8 : ¬ z7.toInt < (0 : Int) := mt (i_lt (x := z7) (y := 0)).mpr c8
        refine lv_aload_n S.x S.b d_Mpg_checkFor_67 rfl (lv_at hl 2 rfl) ?_
        refine lv_aload_n S.x S.b d_Mpg_checkFor_68 rfl (lv_at hl 2 rfl) ?_
        refine px_get S k_Mpg hT hw 0 0 19 (v := .ref (r 19)) rfl rfl rfl (by decide) m10_5 d_Mpg_checkFor_69 ?_
        refine lv_iload_n S.x S.b d_Mpg_checkFor_72 rfl (lv_at hl 3 rfl) ?_
        refine px_iald S hT hw 0 15 (n := 2100) (f := (ma 19)) rfl gp_19 (x := p0) (vp_in_iff.mpr (by first | exact oz_2334575e67 hsr0.2.2.1 hm1 g1 hm2 hru.2.1 g2 hm3 hru.1 | (constructor <;> omega))) d_Mpg_checkFor_73 ?_
        refine lv_topi (fun z71 ez71 => ?_)
        have lz71 := Int32.le_toInt z71
        have uz71 := Int32.toInt_lt z71
        have ha_z71 : z71 = ma0 19 p0.toNatClampNeg := ez71.trans (Ann.b19 han (by omega)); have hn_z71 : z71.toInt = (ma0 19 p0.toNatClampNeg).toInt := (by rw [ha_z71]); have hev_z71 : ErV ta (tf 6).toInt na ma0 d m2 m3 w3 z71 := (by rw [ha_z71]; exact (hoc.get (by omega))); obtain ⟨hec_z71, h20_z71, hw_z71⟩ := hev_z71.ec; have hrg_z71 := EcV.rng hec_z71
        refine px_callv (pr := []) (px_runV (As := [.int z71]) (rest := []) S (c_mp_checkAlone l D cs ma0 ys (cf 48).toInt nf (cf 33).toInt d m2 m3 h r g tf ta pf na wa ca ef ea xf xa ma (upd cf 37 (cf 33)) z71  (show 0 ≤ m2 from by first | exact oz_8df2b9da5a hm2 hm1 hsr0.2.2.1 | omega) (show m3 ≤ (pf 13).toInt from by first | exact oz_8d1dd37214 g1 hru.1 hru.2.1 | omega) (show (pf 13).toInt ≤ 2100 from by first | exact g2 | omega) (show (tf 6).toInt ≤ 2049 from by first | exact g3 | omega) (show (cf 33).toInt = (cf 33).toInt from rfl) (show 0 ≤ (cf 33).toInt from by first | exact g4 | omega) (show (cf 48).toInt = (cf 48).toInt from rfl) (show (cf 38).toInt = nf from by first | exact g9 | omega) (show 0 ≤ nf from by first | exact g10 | omega) htk (FsI.le (N' := (pf 13).toInt) hfs (by omega)) (WrV.u hwr (by decide) (by decide)) (KnT.eq hkt (show _ = (cf 33).toInt by omega)) (FnT.eq hft (show _ = (cf 38).toInt by omega)) (KnS.eq hks (by omega) (by omega)) hfp han hec_z71 _) hT (pr := []) (pcs := [wdP cs h r g tf ta pf na ma wa (upd cf 37 (cf 33)) ca ef ea xf xa]) hw (oX_call (P := (fun A U H => (oP A g U H))) (pr := []) oG_P hw hA hP) (px_recv hT hw 0 0 rfl rfl rfl) m12_213 m12_210 m12_212 ms_12_6 m1_21 q_Mpg_checkAlone ⟨show (4 * d + 13) + 1 ≤ (6 * d + 29) from (by first | exact oz_0ab3c77e19 | omega), show 8 + (3 + 11) + (200 * d + 460) ≤ (260 * d + 1020) from (by first | exact oz_6434b70a93 | omega)⟩ hl.1 rfl (Nat.le_of_ble_eq_true rfl) d_Mpg_checkFor_74 ⟨Nat.le_of_ble_eq_true rfl, Nat.le_of_ble_eq_true rfl⟩) hw hA (fun p76 H locs hp76 hw => ?_)
        obtain ⟨ma74, cf75, rfl, e78, e79, e80, e81, e82, e83, e84, e85, e86, e87, e88, e89⟩ := hp76
        have e78 : KpE (upd cf 37 (cf 33)) cf75 := e78
        have hkz_e78 : (cf75 30).toInt = 0 → (cf 30).toInt = 0 := e78.2
        have hkk37_e78 : (cf75 37).toInt = (cf 33).toInt := (by rw [e78.1 37 (by decide) (by decide) (by decide) (by decide) (by decide)] <;> rfl)
        have hkk43_e78 : (cf75 43).toInt = (cf 43).toInt := (by rw [e78.1 43 (by decide) (by decide) (by decide) (by decide) (by decide)] <;> rfl)
        have hkk44_e78 : (cf75 44).toInt = (cf 44).toInt := (by rw [e78.1 44 (by decide) (by decide) (by decide) (by decide) (by decide)] <;> rfl)
        have hkk45_e78 : (cf75 45).toInt = (cf 45).toInt := (by rw [e78.1 45 (by decide) (by decide) (by decide) (by decide) (by decide)] <;> rfl)
        have hkk41_e78 : (cf75 41).toInt = (cf 41).toInt := (by rw [e78.1 41 (by decide) (by decide) (by decide) (by decide) (by decide)] <;> rfl)
        have hkk55_e78 : (cf75 55).toInt = (cf 55).toInt := (by rw [e78.1 55 (by decide) (by decide) (by decide) (by decide) (by decide)] <;> rfl)
        have hkk59_e78 : (cf75 59).toInt = (cf 59).toInt := (by rw [e78.1 59 (by decide) (by decide) (by decide) (by decide) (by decide)] <;> rfl)
        have hkk42_e78 : (cf75 42).toInt = (cf 42).toInt := (by rw [e78.1 42 (by decide) (by decide) (by decide) (by decide) (by decide)] <;> rfl)
        have hkk54_e78 : (cf75 54).toInt = (cf 54).toInt := (by rw [e78.1 54 (by decide) (by decide) (by decide) (by decide) (by decide)] <;> rfl)
        have hkk58_e78 : (cf75 58).toInt = (cf 58).toInt := (by rw [e78.1 58 (by decide) (by decide) (by decide) (by decide) (by decide)] <;> rfl)
        have e79 : WrV cf75 (tf 6).toInt := e79
        have hwr := e79
        have hw0_e79 := hwr.1
        have e80 : (cf75 33).toInt = (cf 33).toInt := e80
        have e81 : (cf75 38).toInt = (cf 38).toInt := e81
        have e82 : (cf75 48).toInt = (cf 48).toInt := e82
        have e83 : (cf75 46).toInt = (cf 46).toInt := e83
        have e84 : (cf75 47).toInt = (cf 47).toInt := e84
        have e85 : (cf75 57).toInt = (cf 57).toInt := e85
        have e86 : Ann na ma0 ma74 := e86
        have han := e86
        have e87 : FrC m2 m3 ma ma74 := e87
        have hfc := hfc.tr e87 (by omega) (by omega)
        have e88 : ZT0 cf75 (Gk ta ca na ma0 (cf 48).toInt ys nf) na ma74 m2 m3 z71 := e88
        have hty_z71 : ZTe cf75 ta ca na ma0 (cf75 48).toInt ys nf ma74 m2 m3 z71 0 := ZTe.to (t := 0) e88 (fun q => by omega) (by omega) (Int.le_refl _) (Int.le_refl _) rfl
        have e89 : R_mp_checkAlone tf ta na ca z71 ma (upd cf 37 (cf 33)) ma74 cf75 := e89
        have hw : pw D A s.heap H locs [wdP cs h r g tf ta pf na ma74 wa cf75 ca ef ea xf xa] := hw
        refine lv_aload_n S.x S.b d_Mpg_checkFor_77 rfl (lv_at hl 2 rfl) ?_
        refine lv_aload_n S.x S.b d_Mpg_checkFor_78 rfl (lv_at hl 2 rfl) ?_
        refine px_get S k_Mpg hT hw 0 0 20 (v := .ref (r 20)) rfl rfl rfl (by decide) m10_6 d_Mpg_checkFor_79 ?_
        refine lv_iload_n S.x S.b d_Mpg_checkFor_82 rfl (lv_at hl 3 rfl) ?_
        refine px_iald S hT hw 0 16 (n := 2100) (f := (ma74 20)) rfl gp_20 (x := p0) (vp_in_iff.mpr (by first | exact oz_2334575e67 hsr0.2.2.1 hm1 g1 hm2 hru.2.1 g2 hm3 hru.1 | (constructor <;> omega))) d_Mpg_checkFor_83 ?_
        refine lv_topi (fun z90 ez90 => ?_)
        have lz90 := Int32.le_toInt z90
        have uz90 := Int32.toInt_lt z90
        have ha_z90 : z90 = ma0 20 p0.toNatClampNeg := ez90.trans (Ann.b20 han (by omega) (by omega)); have hn_z90 : z90.toInt = (ma0 20 p0.toNatClampNeg).toInt := (by rw [ha_z90]); have hsc_z90 : ScV ta (tf 6).toInt na ma0 d m3 hi w5 z90 := (by rw [ha_z90]; exact hse); have hrg_z90 := ScV.rng hsc_z90
        refine px_callv (pr := []) (px_runV (As := [.int z90]) (rest := []) S (c_mp_checkBody l D cs ma0 ys nf tx d m3 hi w5 h r g tf ta pf na wa ef ea xf xa ma74 cf75 ca z90  (show 0 ≤ m3 from by first | exact oz_3535899054 hm3 hm2 hsr0.2.2.1 hm1 | omega) (show hi ≤ (pf 13).toInt from by first | exact g1 | omega) (show (pf 13).toInt ≤ 2100 from by first | exact g2 | omega) (show (tf 6).toInt ≤ 2049 from by first | exact g3 | omega) (show 0 ≤ (cf75 33).toInt from by first | exact oz_f3ebed1ad0 e80 g4 | omega) (show 0 ≤ w5 from by first | exact hw5 | omega) (show 6 * (cf75 33).toInt + w5 ≤ 6540 from by first | exact oz_cbc45a6c70 hws e80 g6 hw1 hw2 hw3 | omega) (show 0 ≤ (cf75 48).toInt from by first | exact oz_f3ebed1ad0 e82 g7 | omega) (show 6 * (cf75 48).toInt + w5 ≤ 6540 from by first | exact oz_cbc45a6c70 hws e82 g8 hw1 hw2 hw3 | omega) (show (cf75 38).toInt = nf from by first | exact oz_1687f4cc65 g9 e81 | omega) (show 0 ≤ nf from by first | exact g10 | omega) (show 0 ≤ (cf75 37).toInt from by first | exact oz_f3ebed1ad0 hkk37_e78 g4 | omega) (show 0 ≤ (cf75 54).toInt from by first | exact oz_f3ebed1ad0 hkk54_e78 g12 | omega) (show (cf75 54).toInt ≤ 4096 * (cf75 48).toInt from by first | exact oz_964e82b9f4 e82 hkk54_e78 g13 | omega) (show 0 ≤ (cf75 42).toInt from by first | exact oz_f3ebed1ad0 hkk42_e78 g14 | omega) (show (cf75 42).toInt ≤ 4 + 4096 * (cf75 48).toInt from by first | exact oz_0fa6d939a6 e82 hkk42_e78 g15 | omega) (show 0 ≤ (cf75 44).toInt from by first | exact oz_f3ebed1ad0 hkk44_e78 g16 | omega) (show 0 ≤ (cf75 45).toInt from by first | exact oz_f3ebed1ad0 hkk45_e78 g17 | omega) (show ys ≤ (cf75 48).toInt ∨ tx = 1 from by omega) (show 0 ≤ (cf75 46).toInt from by first | exact oz_f3ebed1ad0 e83 g19 | omega) (show (cf75 46).toInt ≤ 1 from by first | exact oz_878017becc e83 g20 | omega) (show 0 ≤ (cf75 47).toInt from by first | exact oz_f3ebed1ad0 e84 g21 | omega) (show (cf75 47).toInt ≤ 1 from by first | exact oz_878017becc e84 g22 | omega) (show (cf75 44).toInt + (d : Int) ≤ 400 from by first | exact oz_d272872612 g29 hkk44_e78 | omega) (show (cf75 45).toInt + (d : Int) ≤ 400 from by first | exact oz_d272872612 g30 hkk45_e78 | omega) (show 0 ≤ (cf75 43).toInt from by first | exact oz_f3ebed1ad0 hkk43_e78 g25 | omega) (show (cf75 43).toInt < 2100 from by first | exact oz_b365134983 hkk43_e78 g26 | omega) (show tx = 0 from by first | exact g27 | omega) (show (cf75 44).toInt + (d : Int) + 1 ≤ 400 from by first | exact oz_4d2bb0c431 g29 hkk44_e78 | omega) htk (FsI.le (N' := (pf 13).toInt) hfs (by omega)) hwr (KnT.eq hkt (by omega)) (FnT.eq hft (by omega)) (KnS.eq hks (by omega) (by omega)) hfp (SyR.eq hsr (by omega) (by omega)) han (show txo (cf75 43).toInt = tx from by rw [show (cf75 43).toInt = (cf 43).toInt by omega]; exact htx) hsc_z90 hLS _) hT (pr := []) (pcs := [wdP cs h r g tf ta pf na ma74 wa cf75 ca ef ea xf xa]) hw (oX_call (P := (fun A U H => (oP A g U H))) (pr := []) oG_P hw hA hP) (px_recv hT hw 0 0 rfl rfl rfl) m13_37 m13_34 m13_36 ms_13_6 m1_21 q_Mpg_checkBody ⟨show (6 * d + 27) + 1 ≤ (6 * d + 29) from (by first | exact oz_0a7d18f368 | omega), show 8 + (2 + 11) + (260 * d + 940) ≤ (260 * d + 1020) from (by first | exact oz_884c966d29 | omega)⟩ hl.1 rfl (Nat.le_of_ble_eq_true rfl) d_Mpg_checkFor_84 ⟨Nat.le_of_ble_eq_true rfl, Nat.le_of_ble_eq_true rfl⟩) hw hA (fun p97 H locs hp97 hw => ?_)
        obtain ⟨ma94, cf95, ca96, rfl, e99, e100, e101, e102, e103, e104, e105, e106, e107, e108, e109, e110, e111, e112, e113, e114, e115, e116, e117, e118, e119, e120, e121, e122, e123, e124, e125, e126, e127⟩ := hp97
        have e99 : (cf95 30).toInt = 0 → (cf75 30).toInt = 0 := e99
        have e100 : WrV cf95 (tf 6).toInt := e100
        have hwr := e100
        have hw0_e100 := hwr.1
        have e101 : (cf95 37).toInt = (cf75 37).toInt := e101
        have e102 : (cf95 38).toInt = (cf75 38).toInt := e102
        have e103 : (cf95 43).toInt = (cf75 43).toInt := e103
        have e104 : (cf95 44).toInt = (cf75 44).toInt := e104
        have e105 : (cf95 45).toInt = (cf75 45).toInt := e105
        have e106 : (cf95 46).toInt = (cf75 46).toInt := e106
        have e107 : (cf95 47).toInt = (cf75 47).toInt := e107
        have e108 : (cf95 41).toInt = (cf75 41).toInt := e108
        have e109 : (cf95 55).toInt = (cf75 55).toInt := e109
        have e110 : (cf95 59).toInt = (cf75 59).toInt := e110
        have e111 : (cf75 33).toInt ≤ (cf95 33).toInt := e111
        have e112 : 6 * (cf95 33).toInt ≤ 6 * (cf75 33).toInt + (w5) := e112
        have e113 : (cf75 48).toInt ≤ (cf95 48).toInt := e113
        have e114 : 6 * (cf95 48).toInt ≤ 6 * (cf75 48).toInt + (w5) := e114
        have e115 : (cf75 54).toInt ≤ (cf95 54).toInt := e115
        have e116 : (cf75 42).toInt ≤ (cf95 42).toInt := e116
        have e117 : (cf95 54).toInt - (cf75 54).toInt ≤ 4 * ((cf95 42).toInt - (cf75 42).toInt) := e117
        have e118 : (cf95 54).toInt - (cf75 54).toInt ≤ 4096 * ((cf95 48).toInt - (cf75 48).toInt) := e118
        have e119 : (cf95 42).toInt - (cf75 42).toInt ≤ 4096 * ((cf95 48).toInt - (cf75 48).toInt) := e119
        have e120 : KnT (tf 6).toInt ca96 (cf95 33).toInt := e120
        have hkt := e120
        have hk11_e120 := hkt.1
        have e121 : KnS ca96 (cf95 33).toInt (cf95 48).toInt ys := e121
        have hks := e121
        have e122 : CaG ca ca96 (cf75 33).toInt (cf75 48).toInt := e122
        have hcg := hcg.tr e122 (by omega) (by omega)
        have hft := hft.cg e122
        have hfp := hfp.cg e122
        have e123 : SyR ca96 ys (cf95 48).toInt (cf95 54).toInt tx := e123
        have hsr := e123
        have e124 : Ann na ma0 ma94 := e124
        have han := e124
        have e125 : FrC m3 hi ma74 ma94 := e125
        have hfc := hfc.tr e125 (by omega) (by omega)
        have hty_z71 : ZTe cf95 ta ca96 na ma0 (cf95 48).toInt ys nf ma94 m2 m3 z71 0 := ZTe.tr hty_z71 (fun q => by omega) e125 (by omega) e122 (by omega) (by omega)
        have e126 : ZTe cf95 ta ca96 na ma0 (cf95 48).toInt ys nf ma94 m3 hi z90 4 := e126
        have hts_z90 : ZTe cf95 ta ca96 na ma0 (cf95 48).toInt ys nf ma94 m3 hi z90 4 := ZTe.to e126 (fun q => by omega) (by omega) (Int.le_refl _) (Int.le_refl _) rfl
        have e127 : R_mp_checkBody (RL_mp_checkStatement d) tf ta na z90 ma74 cf75 ca ma94 cf95 ca96 := e127
        have hw : pw D A s.heap H locs [wdP cs h r g tf ta pf na ma94 wa cf95 ca96 ef ea xf xa] := hw
        refine lv_aload_n S.x S.b d_Mpg_checkFor_87 rfl (lv_at hl 2 rfl) ?_
        refine lv_iload_n S.x S.b d_Mpg_checkFor_88 rfl (lv_at hl 1 rfl) ?_
        refine lv_iload_n S.x S.b d_Mpg_checkFor_89 rfl (lv_at hl 0 rfl) ?_
        refine px_callv (pr := []) (px_runV (As := [.int (cf 33), .int (cf 37)]) (rest := []) S (c_mp_leave l D cs h r g tf ta pf na ma94 wa ca96 ef ea xf xa cf95 (cf 33) (cf 37)  htk _) hT (pr := []) (pcs := [wdP cs h r g tf ta pf na ma94 wa cf95 ca96 ef ea xf xa]) hw px_X.tt (px_recv hT hw 0 0 rfl rfl rfl) m12_209 m12_206 m12_208 ms_12_5 m1_21 q_Mpg_leave ⟨show 0 + 1 ≤ (6 * d + 29) from (by first | exact oz_cfa904bb27 | omega), show 8 + (3 + 11) + 0 ≤ (260 * d + 1020) from (by first | exact oz_480c6b4fdb | omega)⟩ hl.1 rfl (Nat.le_of_ble_eq_true rfl) d_Mpg_checkFor_90 ⟨Nat.le_of_ble_eq_true rfl, Nat.le_of_ble_eq_true rfl⟩) hw hA (fun p130 H locs hp130 hw => ?_)
        obtain ⟨cf129, rfl, e132, e133, e134, e135, e136, e137, e138, e139, e140, e141, e142, e143, e144, e145, e146, e147, e148, e149, e150⟩ := hp130
        have e132 : (cf129 33).toInt = (cf 33).toInt := e132
        have e133 : (cf129 37).toInt = (cf 37).toInt := e133
        have e134 : (cf129 30).toInt = (cf95 30).toInt := e134
        have e135 : (cf129 31).toInt = (cf95 31).toInt := e135
        have e136 : (cf129 38).toInt = (cf95 38).toInt := e136
        have e137 : (cf129 41).toInt = (cf95 41).toInt := e137
        have e138 : (cf129 42).toInt = (cf95 42).toInt := e138
        have e139 : (cf129 43).toInt = (cf95 43).toInt := e139
        have e140 : (cf129 44).toInt = (cf95 44).toInt := e140
        have e141 : (cf129 45).toInt = (cf95 45).toInt := e141
        have e142 : (cf129 46).toInt = (cf95 46).toInt := e142
        have e143 : (cf129 47).toInt = (cf95 47).toInt := e143
        have e144 : (cf129 48).toInt = (cf95 48).toInt := e144
        have e145 : (cf129 54).toInt = (cf95 54).toInt := e145
        have e146 : (cf129 55).toInt = (cf95 55).toInt := e146
        have e147 : (cf129 57).toInt = (cf95 57).toInt := e147
        have e148 : (cf129 58).toInt = (cf95 58).toInt := e148
        have e149 : (cf129 59).toInt = (cf95 59).toInt := e149
        have e150 : R_mp_leave (cf 33) (cf 37) cf95 cf129 := e150
        have hwr : WrV cf129 (tf 6).toInt := WrV.eq hwr (by omega) (by omega)
        have hkt := KnT.eq (n' := (cf129 33).toInt) (KnT.cg hkt0 hcg (Int.le_refl _)) (by omega)
        have hks := KnS.eq (n' := (cf129 33).toInt) (KnS.cg hks0 hcg (Int.le_refl _) (Int.le_refl _) (n2 := (cf129 48).toInt) (by omega)) (by omega) rfl
        have hty_z71 : ZTe cf129 ta ca96 na ma0 (cf129 48).toInt ys nf ma94 m2 m3 z71 0 := ZTe.to hty_z71 (fun q => by omega) (by omega) (Int.le_refl _) (Int.le_refl _) rfl
        have hts_z90 : ZTe cf129 ta ca96 na ma0 (cf129 48).toInt ys nf ma94 m3 hi z90 4 := ZTe.to hts_z90 (fun q => by omega) (by omega) (Int.le_refl _) (Int.le_refl _) rfl
        have hw : pw D A s.heap H locs [wdP cs h r g tf ta pf na ma94 wa cf129 ca96 ef ea xf xa] := hw
        exact px_vret S hr hlk hAe hw (Nat.le_of_ble_eq_true rfl) (Nat.le_of_ble_eq_true rfl) (⟨ma94, cf129, ca96, rfl, (show (cf129 30).toInt = 0 → (cf 30).toInt = 0 from by omega), (show WrV cf129 (tf 6).toInt from hwr), (show (cf129 37).toInt = (cf 37).toInt from by first | exact e133 | omega), (show (cf129 38).toInt = (cf 38).toInt from by first | exact oz_e13fc83238 e81 e136 e102 | omega), (show (cf129 43).toInt = (cf 43).toInt from by first | exact oz_e13fc83238 hkk43_e78 e139 e103 | omega), (show (cf129 44).toInt = (cf 44).toInt from by first | exact oz_e13fc83238 hkk44_e78 e140 e104 | omega), (show (cf129 45).toInt = (cf 45).toInt from by first | exact oz_e13fc83238 hkk45_e78 e141 e105 | omega), (show (cf129 46).toInt = (cf 46).toInt from by first | exact oz_e13fc83238 e83 e142 e106 | omega), (show (cf129 47).toInt = (cf 47).toInt from by first | exact oz_e13fc83238 e84 e143 e107 | omega), (show (cf129 41).toInt = (cf 41).toInt from by first | exact oz_e13fc83238 hkk41_e78 e137 e108 | omega), (show (cf129 55).toInt = (cf 55).toInt from by first | exact oz_e13fc83238 hkk55_e78 e146 e109 | omega), (show (cf129 59).toInt = (cf 59).toInt from by first | exact oz_e13fc83238 hkk59_e78 e149 e110 | omega), (show (cf129 33).toInt = (cf 33).toInt from by first | exact e132 | omega), (show (cf 48).toInt ≤ (cf129 48).toInt from by first | exact oz_78ec9d60fa e82 e144 e113 | omega), (show 6 * (cf129 48).toInt ≤ 6 * (cf 48).toInt + (w) from by first | exact oz_7b195f597e hws e82 e144 hw1 hw2 hw3 e114 | omega), (show (cf 54).toInt ≤ (cf129 54).toInt from by first | exact oz_78ec9d60fa hkk54_e78 e145 e115 | omega), (show (cf 42).toInt ≤ (cf129 42).toInt from by first | exact oz_78ec9d60fa hkk42_e78 e138 e116 | omega), (show (cf129 54).toInt - (cf 54).toInt ≤ 4 * ((cf129 42).toInt - (cf 42).toInt) from by first | exact oz_abec796424 hkk42_e78 hkk54_e78 e138 e145 e117 | omega), (show (cf129 54).toInt - (cf 54).toInt ≤ 4096 * ((cf129 48).toInt - (cf 48).toInt) from by first | exact oz_f98fea81d9 e82 hkk54_e78 e144 e145 e118 | omega), (show (cf129 42).toInt - (cf 42).toInt ≤ 4096 * ((cf129 48).toInt - (cf 48).toInt) from by first | exact oz_0420a6770c e82 hkk42_e78 e138 e144 e119 | omega), (show KnT (tf 6).toInt ca96 (cf129 33).toInt from (KnT.eq hkt (by omega))), (show KnS ca96 (cf129 33).toInt (cf129 48).toInt ys from (KnS.eq hks (by omega) (by omega))), (show CaG ca ca96 (cf 33).toInt (cf 48).toInt from (hcg.le (by omega) (by omega))), (show SyR ca96 ys (cf129 48).toInt (cf129 54).toInt tx from (SyR.eq hsr (by omega) (by omega))), (show Ann na ma0 ma94 from han), (show FrC lo hi ma ma94 from hfc), (show ZTe cf129 ta ca96 na ma0 (cf129 48).toInt ys nf ma94 lo hi p0 (tgv (cf 44).toInt (cf 45).toInt) from (fun zz => by exact tys_27 ⟨by omega, by omega, by omega⟩ tgv_rng (by omega) ha_z1 (ha_z4.trans (Ann.b18 han (by omega)).symm) (ha_z71.trans (Ann.b19 han (by omega)).symm) (ha_z90.trans (Ann.b20 han (by omega) (by omega)).symm) (Or.inl (by omega)) (Or.inl (by omega)) (ZTe.ot hty_z71 (by omega) (by omega) (by omega) (by omega) rfl) (ZTe.at hts_z90 (by omega) (by omega) (by omega) (by omega) rfl))), (show R_mp_checkFor (RL_mp_checkStatement d) tf ta na p0 ma cf ca ma94 cf129 ca96 from (Or.inl ⟨z1, ez1, Or.inl ⟨nc2, z4, ez4, Or.inl ⟨nc5, z7, ez7, Or.inr ⟨nc8, z71, ez71, ma74, cf75, e89, z90, ez90, ma94, cf95, ca96, e127, cf129, e150, rfl, rfl, rfl⟩⟩⟩⟩))⟩) d_Mpg_checkFor_93
    · have nc5 : ¬ z4.toInt < (0 : Int) := mt (i_lt (x := z4) (y := 0)).mpr c5
      refine lv_aload_n S.x S.b d_Mpg_checkFor_46 rfl (lv_at hl 2 rfl) ?_
      refine lv_aload_n S.x S.b d_Mpg_checkFor_47 rfl (lv_at hl 2 rfl) ?_
      refine px_get S k_Mpg hT hw 0 0 18 (v := .ref (r 18)) rfl rfl rfl (by decide) m10_3 d_Mpg_checkFor_48 ?_
      refine lv_iload_n S.x S.b d_Mpg_checkFor_51 rfl (lv_at hl 3 rfl) ?_
      refine px_iald S hT hw 0 14 (n := 2100) (f := (ma 18)) rfl gp_18 (x := p0) (vp_in_iff.mpr (by first | exact oz_2334575e67 hsr0.2.2.1 hm1 g1 hm2 hru.2.1 g2 hm3 hru.1 | (constructor <;> omega))) d_Mpg_checkFor_52 ?_
      refine lv_topi (fun z151 ez151 => ?_)
      have lz151 := Int32.le_toInt z151
      have uz151 := Int32.toInt_lt z151
      have ha_z151 : z151 = ma0 18 p0.toNatClampNeg := ez151.trans (Ann.b18 han (by omega)); have hn_z151 : z151.toInt = (ma0 18 p0.toNatClampNeg).toInt := (by rw [ha_z151]); have hev_z151 : ErV ta (tf 6).toInt na ma0 d m1 m2 w2 z151 := (by rw [ha_z151]; exact (hob.get (by omega))); obtain ⟨hec_z151, h20_z151, hw_z151⟩ := hev_z151.ec; have hrg_z151 := EcV.rng hec_z151
      refine lv_iconst (v := 1) S.x S.b d_Mpg_checkFor_53 (by decide) ?_
      refine px_calli (pr := []) (px_runV (As := [.int z151, .int 1]) (rest := []) S (c_S_check l D cs ma0 ys (cf 48).toInt nf (cf 33).toInt d m1 m2 h r g tf ta pf na wa ca ef ea xf xa ma (upd cf 37 (cf 33)) z151 1  (show 0 ≤ m1 from by first | exact oz_0a7da9c4d6 hm1 hsr0.2.2.1 | omega) (show m2 ≤ (pf 13).toInt from by first | exact oz_cabfece9a2 g1 hm3 hru.1 hru.2.1 | omega) (show (pf 13).toInt ≤ 2100 from by first | exact g2 | omega) (show (tf 6).toInt ≤ 2049 from by first | exact g3 | omega) (show (cf 33).toInt = (cf 33).toInt from rfl) (show 0 ≤ (cf 33).toInt from by first | exact g4 | omega) (show (cf 48).toInt = (cf 48).toInt from rfl) (show (cf 38).toInt = nf from by first | exact g9 | omega) (show 0 ≤ nf from by first | exact g10 | omega) (show 0 ≤ (1 : Int) from by first | exact oz_19c3a41681 | omega) (show (1 : Int) ≤ 1 from by first | exact oz_f9181dc4bb | omega) htk (FsI.le (N' := (pf 13).toInt) hfs (by omega)) (WrV.u hwr (by decide) (by decide)) (KnT.eq hkt (show _ = (cf 33).toInt by omega)) (FnT.eq hft (show _ = (cf 38).toInt by omega)) (KnS.eq hks (by omega) (by omega)) hfp han hec_z151 _) hT (pr := []) (pcs := [wdP cs h r g tf ta pf na ma wa (upd cf 37 (cf 33)) ca ef ea xf xa]) hw (oX_call (P := (fun A U H => (oP A g U H))) (pr := []) oG_P hw hA hP) (px_recv hT hw 0 0 rfl rfl rfl) m12_217 m12_214 m12_216 ms_12_7 m1_21 q_Mpg_check ⟨show (4 * d + 12) + 1 ≤ (6 * d + 29) from (by first | exact oz_368b1ff356 | omega), show 8 + (8 + 11) + (200 * d + 420) ≤ (260 * d + 1020) from (by first | exact oz_2a3a86d2be | omega)⟩ hl.1 rfl (Nat.le_of_ble_eq_true rfl) d_Mpg_checkFor_54 ⟨Nat.le_of_ble_eq_true rfl, Nat.le_of_ble_eq_true rfl⟩) hw hA (fun v157 p156 H locs hp156 hw => ?_)
      obtain ⟨ma154, cf155, rfl, e158, e159, e160, e161, e162, e163, e164, e165, e166, e167, e168, e169, e170, e171, e172, e173⟩ := hp156
      have e158 : KpE (upd cf 37 (cf 33)) cf155 := e158
      have hkz_e158 : (cf155 30).toInt = 0 → (cf 30).toInt = 0 := e158.2
      have hkk37_e158 : (cf155 37).toInt = (cf 33).toInt := (by rw [e158.1 37 (by decide) (by decide) (by decide) (by decide) (by decide)] <;> rfl)
      have hkk43_e158 : (cf155 43).toInt = (cf 43).toInt := (by rw [e158.1 43 (by decide) (by decide) (by decide) (by decide) (by decide)] <;> rfl)
      have hkk44_e158 : (cf155 44).toInt = (cf 44).toInt := (by rw [e158.1 44 (by decide) (by decide) (by decide) (by decide) (by decide)] <;> rfl)
      have hkk45_e158 : (cf155 45).toInt = (cf 45).toInt := (by rw [e158.1 45 (by decide) (by decide) (by decide) (by decide) (by decide)] <;> rfl)
      have hkk41_e158 : (cf155 41).toInt = (cf 41).toInt := (by rw [e158.1 41 (by decide) (by decide) (by decide) (by decide) (by decide)] <;> rfl)
      have hkk55_e158 : (cf155 55).toInt = (cf 55).toInt := (by rw [e158.1 55 (by decide) (by decide) (by decide) (by decide) (by decide)] <;> rfl)
      have hkk59_e158 : (cf155 59).toInt = (cf 59).toInt := (by rw [e158.1 59 (by decide) (by decide) (by decide) (by decide) (by decide)] <;> rfl)
      have hkk42_e158 : (cf155 42).toInt = (cf 42).toInt := (by rw [e158.1 42 (by decide) (by decide) (by decide) (by decide) (by decide)] <;> rfl)
      have hkk54_e158 : (cf155 54).toInt = (cf 54).toInt := (by rw [e158.1 54 (by decide) (by decide) (by decide) (by decide) (by decide)] <;> rfl)
      have hkk58_e158 : (cf155 58).toInt = (cf 58).toInt := (by rw [e158.1 58 (by decide) (by decide) (by decide) (by decide) (by decide)] <;> rfl)
      have e159 : WrV cf155 (tf 6).toInt := e159
      have hwr := e159
      have hw0_e159 := hwr.1
      have e160 : (cf155 33).toInt = (cf 33).toInt := e160
      have e161 : (cf155 38).toInt = (cf 38).toInt := e161
      have e162 : (cf155 48).toInt = (cf 48).toInt := e162
      have e163 : (cf155 46).toInt = (cf 46).toInt := e163
      have e164 : (cf155 47).toInt = (cf 47).toInt := e164
      have e165 : (cf155 57).toInt = (cf 57).toInt := e165
      have e166 : Ann na ma0 ma154 := e166
      have han := e166
      have e167 : FrC m1 m2 ma ma154 := e167
      have hfc := hfc.tr e167 (by omega) (by omega)
      have e168 : 0 ≤ v157.toInt := e168
      have e169 : v157.toInt ≤ 4 := e169
      have e170 : NmJ ta ca na ma154 (cf 33).toInt z151 v157.toInt := e170
      have e171 : ZTy cf155 (Gk ta ca na ma0 (cf 48).toInt ys nf) na ma154 m1 m2 z151 v157.toInt := e171
      have e172 : ZNm cf155 (1 : Int) v157.toInt := e172
      have hty_z151 : ZTe cf155 ta ca na ma0 (cf155 48).toInt ys nf ma154 m1 m2 z151 0 := ZTe.to (t := 0) (ZTy.num e171 e172) (fun q => by omega) (by omega) (Int.le_refl _) (Int.le_refl _) rfl
      have e173 : RL_mp_check d tf ta na ca z151 (1 : Int32) ma (upd cf 37 (cf 33)) ma154 cf155 v157 := e173
      have e173X : RX_mp_check tf ta na ca z151 (1 : Int32) ma (upd cf 37 (cf 33)) ma154 cf155 v157 := ⟨d, e173⟩
      have hw : pw D A s.heap H locs [wdP cs h r g tf ta pf na ma154 wa cf155 ca ef ea xf xa] := hw
      have lv157 := Int32.le_toInt v157
      have uv157 := Int32.toInt_lt v157
      refine lv_pop S.x S.b d_Mpg_checkFor_57 rfl ?_
      refine lv_aload_n S.x S.b d_Mpg_checkFor_58 rfl (lv_at hl 2 rfl) ?_
      refine px_get S k_Mpg hT hw 0 0 19 (v := .ref (r 19)) rfl rfl rfl (by decide) m10_5 d_Mpg_checkFor_59 ?_
      refine lv_iload_n S.x S.b d_Mpg_checkFor_62 rfl (lv_at hl 3 rfl) ?_
      refine px_iald S hT hw 0 15 (n := 2100) (f := (ma154 19)) rfl gp_19 (x := p0) (vp_in_iff.mpr (by first | exact oz_2334575e67 hsr0.2.2.1 hm1 g1 hm2 hru.2.1 g2 hm3 hru.1 | (constructor <;> omega))) d_Mpg_checkFor_63 ?_
      refine lv_topi (fun z174 ez174 => ?_)
      have lz174 := Int32.le_toInt z174
      have uz174 := Int32.toInt_lt z174
      have ha_z174 : z174 = ma0 19 p0.toNatClampNeg := ez174.trans (Ann.b19 han (by omega)); have hn_z174 : z174.toInt = (ma0 19 p0.toNatClampNeg).toInt := (by rw [ha_z174])
      refine lv_if_lt (tgt := 77) S.x S.b d_Mpg_checkFor_64 (by decide) (fun c175 => ?_) (fun c175 => ?_)
      · have nc175 : z174.toInt < (0 : Int) := (i_lt (x := z174) (y := 0)).mp c175
        refine lv_aload_n S.x S.b d_Mpg_checkFor_77 rfl (lv_at hl 2 rfl) ?_
        refine lv_aload_n S.x S.b d_Mpg_checkFor_78 rfl (lv_at hl 2 rfl) ?_
        refine px_get S k_Mpg hT hw 0 0 20 (v := .ref (r 20)) rfl rfl rfl (by decide) m10_6 d_Mpg_checkFor_79 ?_
        refine lv_iload_n S.x S.b d_Mpg_checkFor_82 rfl (lv_at hl 3 rfl) ?_
        refine px_iald S hT hw 0 16 (n := 2100) (f := (ma154 20)) rfl gp_20 (x := p0) (vp_in_iff.mpr (by first | exact oz_2334575e67 hsr0.2.2.1 hm1 g1 hm2 hru.2.1 g2 hm3 hru.1 | (constructor <;> omega))) d_Mpg_checkFor_83 ?_
        refine lv_topi (fun z177 ez177 => ?_)
        have lz177 := Int32.le_toInt z177
        have uz177 := Int32.toInt_lt z177
        have ha_z177 : z177 = ma0 20 p0.toNatClampNeg := ez177.trans (Ann.b20 han (by omega) (by omega)); have hn_z177 : z177.toInt = (ma0 20 p0.toNatClampNeg).toInt := (by rw [ha_z177]); have hsc_z177 : ScV ta (tf 6).toInt na ma0 d m3 hi w5 z177 := (by rw [ha_z177]; exact hse); have hrg_z177 := ScV.rng hsc_z177
        refine px_callv (pr := []) (px_runV (As := [.int z177]) (rest := []) S (c_mp_checkBody l D cs ma0 ys nf tx d m3 hi w5 h r g tf ta pf na wa ef ea xf xa ma154 cf155 ca z177  (show 0 ≤ m3 from by first | exact oz_3535899054 hm3 hm2 hsr0.2.2.1 hm1 | omega) (show hi ≤ (pf 13).toInt from by first | exact g1 | omega) (show (pf 13).toInt ≤ 2100 from by first | exact g2 | omega) (show (tf 6).toInt ≤ 2049 from by first | exact g3 | omega) (show 0 ≤ (cf155 33).toInt from by first | exact oz_f3ebed1ad0 e160 g4 | omega) (show 0 ≤ w5 from by first | exact hw5 | omega) (show 6 * (cf155 33).toInt + w5 ≤ 6540 from by first | exact oz_cbc45a6c70 hws e160 g6 hw1 hw2 hw3 | omega) (show 0 ≤ (cf155 48).toInt from by first | exact oz_f3ebed1ad0 e162 g7 | omega) (show 6 * (cf155 48).toInt + w5 ≤ 6540 from by first | exact oz_cbc45a6c70 hws e162 g8 hw1 hw2 hw3 | omega) (show (cf155 38).toInt = nf from by first | exact oz_1687f4cc65 g9 e161 | omega) (show 0 ≤ nf from by first | exact g10 | omega) (show 0 ≤ (cf155 37).toInt from by first | exact oz_f3ebed1ad0 hkk37_e158 g4 | omega) (show 0 ≤ (cf155 54).toInt from by first | exact oz_f3ebed1ad0 hkk54_e158 g12 | omega) (show (cf155 54).toInt ≤ 4096 * (cf155 48).toInt from by first | exact oz_964e82b9f4 e162 hkk54_e158 g13 | omega) (show 0 ≤ (cf155 42).toInt from by first | exact oz_f3ebed1ad0 hkk42_e158 g14 | omega) (show (cf155 42).toInt ≤ 4 + 4096 * (cf155 48).toInt from by first | exact oz_0fa6d939a6 e162 hkk42_e158 g15 | omega) (show 0 ≤ (cf155 44).toInt from by first | exact oz_f3ebed1ad0 hkk44_e158 g16 | omega) (show 0 ≤ (cf155 45).toInt from by first | exact oz_f3ebed1ad0 hkk45_e158 g17 | omega) (show ys ≤ (cf155 48).toInt ∨ tx = 1 from by omega) (show 0 ≤ (cf155 46).toInt from by first | exact oz_f3ebed1ad0 e163 g19 | omega) (show (cf155 46).toInt ≤ 1 from by first | exact oz_878017becc e163 g20 | omega) (show 0 ≤ (cf155 47).toInt from by first | exact oz_f3ebed1ad0 e164 g21 | omega) (show (cf155 47).toInt ≤ 1 from by first | exact oz_878017becc e164 g22 | omega) (show (cf155 44).toInt + (d : Int) ≤ 400 from by first | exact oz_d272872612 g29 hkk44_e158 | omega) (show (cf155 45).toInt + (d : Int) ≤ 400 from by first | exact oz_d272872612 g30 hkk45_e158 | omega) (show 0 ≤ (cf155 43).toInt from by first | exact oz_f3ebed1ad0 hkk43_e158 g25 | omega) (show (cf155 43).toInt < 2100 from by first | exact oz_b365134983 hkk43_e158 g26 | omega) (show tx = 0 from by first | exact g27 | omega) (show (cf155 44).toInt + (d : Int) + 1 ≤ 400 from by first | exact oz_4d2bb0c431 g29 hkk44_e158 | omega) htk (FsI.le (N' := (pf 13).toInt) hfs (by omega)) hwr (KnT.eq hkt (by omega)) (FnT.eq hft (by omega)) (KnS.eq hks (by omega) (by omega)) hfp (SyR.eq hsr (by omega) (by omega)) han (show txo (cf155 43).toInt = tx from by rw [show (cf155 43).toInt = (cf 43).toInt by omega]; exact htx) hsc_z177 hLS _) hT (pr := []) (pcs := [wdP cs h r g tf ta pf na ma154 wa cf155 ca ef ea xf xa]) hw (oX_call (P := (fun A U H => (oP A g U H))) (pr := []) oG_P hw hA hP) (px_recv hT hw 0 0 rfl rfl rfl) m13_37 m13_34 m13_36 ms_13_6 m1_21 q_Mpg_checkBody ⟨show (6 * d + 27) + 1 ≤ (6 * d + 29) from (by first | exact oz_0a7d18f368 | omega), show 8 + (2 + 11) + (260 * d + 940) ≤ (260 * d + 1020) from (by first | exact oz_884c966d29 | omega)⟩ hl.1 rfl (Nat.le_of_ble_eq_true rfl) d_Mpg_checkFor_84 ⟨Nat.le_of_ble_eq_true rfl, Nat.le_of_ble_eq_true rfl⟩) hw hA (fun p184 H locs hp184 hw => ?_)
        obtain ⟨ma181, cf182, ca183, rfl, e186, e187, e188, e189, e190, e191, e192, e193, e194, e195, e196, e197, e198, e199, e200, e201, e202, e203, e204, e205, e206, e207, e208, e209, e210, e211, e212, e213, e214⟩ := hp184
        have e186 : (cf182 30).toInt = 0 → (cf155 30).toInt = 0 := e186
        have e187 : WrV cf182 (tf 6).toInt := e187
        have hwr := e187
        have hw0_e187 := hwr.1
        have e188 : (cf182 37).toInt = (cf155 37).toInt := e188
        have e189 : (cf182 38).toInt = (cf155 38).toInt := e189
        have e190 : (cf182 43).toInt = (cf155 43).toInt := e190
        have e191 : (cf182 44).toInt = (cf155 44).toInt := e191
        have e192 : (cf182 45).toInt = (cf155 45).toInt := e192
        have e193 : (cf182 46).toInt = (cf155 46).toInt := e193
        have e194 : (cf182 47).toInt = (cf155 47).toInt := e194
        have e195 : (cf182 41).toInt = (cf155 41).toInt := e195
        have e196 : (cf182 55).toInt = (cf155 55).toInt := e196
        have e197 : (cf182 59).toInt = (cf155 59).toInt := e197
        have e198 : (cf155 33).toInt ≤ (cf182 33).toInt := e198
        have e199 : 6 * (cf182 33).toInt ≤ 6 * (cf155 33).toInt + (w5) := e199
        have e200 : (cf155 48).toInt ≤ (cf182 48).toInt := e200
        have e201 : 6 * (cf182 48).toInt ≤ 6 * (cf155 48).toInt + (w5) := e201
        have e202 : (cf155 54).toInt ≤ (cf182 54).toInt := e202
        have e203 : (cf155 42).toInt ≤ (cf182 42).toInt := e203
        have e204 : (cf182 54).toInt - (cf155 54).toInt ≤ 4 * ((cf182 42).toInt - (cf155 42).toInt) := e204
        have e205 : (cf182 54).toInt - (cf155 54).toInt ≤ 4096 * ((cf182 48).toInt - (cf155 48).toInt) := e205
        have e206 : (cf182 42).toInt - (cf155 42).toInt ≤ 4096 * ((cf182 48).toInt - (cf155 48).toInt) := e206
        have e207 : KnT (tf 6).toInt ca183 (cf182 33).toInt := e207
        have hkt := e207
        have hk11_e207 := hkt.1
        have e208 : KnS ca183 (cf182 33).toInt (cf182 48).toInt ys := e208
        have hks := e208
        have e209 : CaG ca ca183 (cf155 33).toInt (cf155 48).toInt := e209
        have hcg := hcg.tr e209 (by omega) (by omega)
        have hft := hft.cg e209
        have hfp := hfp.cg e209
        have e210 : SyR ca183 ys (cf182 48).toInt (cf182 54).toInt tx := e210
        have hsr := e210
        have e211 : Ann na ma0 ma181 := e211
        have han := e211
        have e212 : FrC m3 hi ma154 ma181 := e212
        have hfc := hfc.tr e212 (by omega) (by omega)
        have hty_z151 : ZTe cf182 ta ca183 na ma0 (cf182 48).toInt ys nf ma181 m1 m2 z151 0 := ZTe.tr hty_z151 (fun q => by omega) e212 (by omega) e209 (by omega) (by omega)
        have e213 : ZTe cf182 ta ca183 na ma0 (cf182 48).toInt ys nf ma181 m3 hi z177 4 := e213
        have hts_z177 : ZTe cf182 ta ca183 na ma0 (cf182 48).toInt ys nf ma181 m3 hi z177 4 := ZTe.to e213 (fun q => by omega) (by omega) (Int.le_refl _) (Int.le_refl _) rfl
        have e214 : R_mp_checkBody (RL_mp_checkStatement d) tf ta na z177 ma154 cf155 ca ma181 cf182 ca183 := e214
        have hw : pw D A s.heap H locs [wdP cs h r g tf ta pf na ma181 wa cf182 ca183 ef ea xf xa] := hw
        refine lv_aload_n S.x S.b d_Mpg_checkFor_87 rfl (lv_at hl 2 rfl) ?_
        refine lv_iload_n S.x S.b d_Mpg_checkFor_88 rfl (lv_at hl 1 rfl) ?_
        refine lv_iload_n S.x S.b d_Mpg_checkFor_89 rfl (lv_at hl 0 rfl) ?_
        refine px_callv (pr := []) (px_runV (As := [.int (cf 33), .int (cf 37)]) (rest := []) S (c_mp_leave l D cs h r g tf ta pf na ma181 wa ca183 ef ea xf xa cf182 (cf 33) (cf 37)  htk _) hT (pr := []) (pcs := [wdP cs h r g tf ta pf na ma181 wa cf182 ca183 ef ea xf xa]) hw px_X.tt (px_recv hT hw 0 0 rfl rfl rfl) m12_209 m12_206 m12_208 ms_12_5 m1_21 q_Mpg_leave ⟨show 0 + 1 ≤ (6 * d + 29) from (by first | exact oz_cfa904bb27 | omega), show 8 + (3 + 11) + 0 ≤ (260 * d + 1020) from (by first | exact oz_480c6b4fdb | omega)⟩ hl.1 rfl (Nat.le_of_ble_eq_true rfl) d_Mpg_checkFor_90 ⟨Nat.le_of_ble_eq_true rfl, Nat.le_of_ble_eq_true rfl⟩) hw hA (fun p217 H locs hp217 hw => ?_)
        obtain ⟨cf216, rfl, e219, e220, e221, e222, e223, e224, e225, e226, e227, e228, e229, e230, e231, e232, e233, e234, e235, e236, e237⟩ := hp217
        have e219 : (cf216 33).toInt = (cf 33).toInt := e219
        have e220 : (cf216 37).toInt = (cf 37).toInt := e220
        have e221 : (cf216 30).toInt = (cf182 30).toInt := e221
        have e222 : (cf216 31).toInt = (cf182 31).toInt := e222
        have e223 : (cf216 38).toInt = (cf182 38).toInt := e223
        have e224 : (cf216 41).toInt = (cf182 41).toInt := e224
        have e225 : (cf216 42).toInt = (cf182 42).toInt := e225
        have e226 : (cf216 43).toInt = (cf182 43).toInt := e226
        have e227 : (cf216 44).toInt = (cf182 44).toInt := e227
        have e228 : (cf216 45).toInt = (cf182 45).toInt := e228
        have e229 : (cf216 46).toInt = (cf182 46).toInt := e229
        have e230 : (cf216 47).toInt = (cf182 47).toInt := e230
        have e231 : (cf216 48).toInt = (cf182 48).toInt := e231
        have e232 : (cf216 54).toInt = (cf182 54).toInt := e232
        have e233 : (cf216 55).toInt = (cf182 55).toInt := e233
        have e234 : (cf216 57).toInt = (cf182 57).toInt := e234
        have e235 : (cf216 58).toInt = (cf182 58).toInt := e235
        have e236 : (cf216 59).toInt = (cf182 59).toInt := e236
        have e237 : R_mp_leave (cf 33) (cf 37) cf182 cf216 := e237
        have hwr : WrV cf216 (tf 6).toInt := WrV.eq hwr (by omega) (by omega)
        have hkt := KnT.eq (n' := (cf216 33).toInt) (KnT.cg hkt0 hcg (Int.le_refl _)) (by omega)
        have hks := KnS.eq (n' := (cf216 33).toInt) (KnS.cg hks0 hcg (Int.le_refl _) (Int.le_refl _) (n2 := (cf216 48).toInt) (by omega)) (by omega) rfl
        have hty_z151 : ZTe cf216 ta ca183 na ma0 (cf216 48).toInt ys nf ma181 m1 m2 z151 0 := ZTe.to hty_z151 (fun q => by omega) (by omega) (Int.le_refl _) (Int.le_refl _) rfl
        have hts_z177 : ZTe cf216 ta ca183 na ma0 (cf216 48).toInt ys nf ma181 m3 hi z177 4 := ZTe.to hts_z177 (fun q => by omega) (by omega) (Int.le_refl _) (Int.le_refl _) rfl
        have hw : pw D A s.heap H locs [wdP cs h r g tf ta pf na ma181 wa cf216 ca183 ef ea xf xa] := hw
        exact px_vret S hr hlk hAe hw (Nat.le_of_ble_eq_true rfl) (Nat.le_of_ble_eq_true rfl) (⟨ma181, cf216, ca183, rfl, (show (cf216 30).toInt = 0 → (cf 30).toInt = 0 from by omega), (show WrV cf216 (tf 6).toInt from hwr), (show (cf216 37).toInt = (cf 37).toInt from by first | exact e220 | omega), (show (cf216 38).toInt = (cf 38).toInt from by first | exact oz_e13fc83238 e161 e223 e189 | omega), (show (cf216 43).toInt = (cf 43).toInt from by first | exact oz_e13fc83238 hkk43_e158 e226 e190 | omega), (show (cf216 44).toInt = (cf 44).toInt from by first | exact oz_e13fc83238 hkk44_e158 e227 e191 | omega), (show (cf216 45).toInt = (cf 45).toInt from by first | exact oz_e13fc83238 hkk45_e158 e228 e192 | omega), (show (cf216 46).toInt = (cf 46).toInt from by first | exact oz_e13fc83238 e163 e229 e193 | omega), (show (cf216 47).toInt = (cf 47).toInt from by first | exact oz_e13fc83238 e164 e230 e194 | omega), (show (cf216 41).toInt = (cf 41).toInt from by first | exact oz_e13fc83238 hkk41_e158 e224 e195 | omega), (show (cf216 55).toInt = (cf 55).toInt from by first | exact oz_e13fc83238 hkk55_e158 e233 e196 | omega), (show (cf216 59).toInt = (cf 59).toInt from by first | exact oz_e13fc83238 hkk59_e158 e236 e197 | omega), (show (cf216 33).toInt = (cf 33).toInt from by first | exact e219 | omega), (show (cf 48).toInt ≤ (cf216 48).toInt from by first | exact oz_78ec9d60fa e162 e231 e200 | omega), (show 6 * (cf216 48).toInt ≤ 6 * (cf 48).toInt + (w) from by first | exact oz_7b195f597e hws e162 e231 hw1 hw2 hw3 e201 | omega), (show (cf 54).toInt ≤ (cf216 54).toInt from by first | exact oz_78ec9d60fa hkk54_e158 e232 e202 | omega), (show (cf 42).toInt ≤ (cf216 42).toInt from by first | exact oz_78ec9d60fa hkk42_e158 e225 e203 | omega), (show (cf216 54).toInt - (cf 54).toInt ≤ 4 * ((cf216 42).toInt - (cf 42).toInt) from by first | exact oz_abec796424 hkk42_e158 hkk54_e158 e225 e232 e204 | omega), (show (cf216 54).toInt - (cf 54).toInt ≤ 4096 * ((cf216 48).toInt - (cf 48).toInt) from by first | exact oz_f98fea81d9 e162 hkk54_e158 e231 e232 e205 | omega), (show (cf216 42).toInt - (cf 42).toInt ≤ 4096 * ((cf216 48).toInt - (cf 48).toInt) from by first | exact oz_0420a6770c e162 hkk42_e158 e225 e231 e206 | omega), (show KnT (tf 6).toInt ca183 (cf216 33).toInt from (KnT.eq hkt (by omega))), (show KnS ca183 (cf216 33).toInt (cf216 48).toInt ys from (KnS.eq hks (by omega) (by omega))), (show CaG ca ca183 (cf 33).toInt (cf 48).toInt from (hcg.le (by omega) (by omega))), (show SyR ca183 ys (cf216 48).toInt (cf216 54).toInt tx from (SyR.eq hsr (by omega) (by omega))), (show Ann na ma0 ma181 from han), (show FrC lo hi ma ma181 from hfc), (show ZTe cf216 ta ca183 na ma0 (cf216 48).toInt ys nf ma181 lo hi p0 (tgv (cf 44).toInt (cf 45).toInt) from (fun zz => by exact tys_27 ⟨by omega, by omega, by omega⟩ tgv_rng (by omega) ha_z1 (ha_z151.trans (Ann.b18 han (by omega)).symm) (ha_z174.trans (Ann.b19 han (by omega)).symm) (ha_z177.trans (Ann.b20 han (by omega) (by omega)).symm) (Or.inl (by omega)) (ZTe.ot hty_z151 (by omega) (by omega) (by omega) (by omega) rfl) (Or.inl (by omega)) (ZTe.at hts_z177 (by omega) (by omega) (by omega) (by omega) rfl))), (show R_mp_checkFor (RL_mp_checkStatement d) tf ta na p0 ma cf ca ma181 cf216 ca183 from (Or.inl ⟨z1, ez1, Or.inl ⟨nc2, z4, ez4, Or.inr ⟨nc5, z151, ez151, ma154, cf155, v157, e173X, z174, ez174, Or.inl ⟨nc175, z177, ez177, ma181, cf182, ca183, e214, cf216, e237, rfl, rfl, rfl⟩⟩⟩⟩))⟩) d_Mpg_checkFor_93
      · have nc175 : ¬ z174.toInt < (0 : Int) := mt (i_lt (x := z174) (y := 0)).mpr c175
        refine lv_aload_n S.x S.b d_Mpg_checkFor_67 rfl (lv_at hl 2 rfl) ?_
        refine lv_aload_n S.x S.b d_Mpg_checkFor_68 rfl (lv_at hl 2 rfl) ?_
        refine px_get S k_Mpg hT hw 0 0 19 (v := .ref (r 19)) rfl rfl rfl (by decide) m10_5 d_Mpg_checkFor_69 ?_
        refine lv_iload_n S.x S.b d_Mpg_checkFor_72 rfl (lv_at hl 3 rfl) ?_
        refine px_iald S hT hw 0 15 (n := 2100) (f := (ma154 19)) rfl gp_19 (x := p0) (vp_in_iff.mpr (by first | exact oz_2334575e67 hsr0.2.2.1 hm1 g1 hm2 hru.2.1 g2 hm3 hru.1 | (constructor <;> omega))) d_Mpg_checkFor_73 ?_
        refine lv_topi (fun z238 ez238 => ?_)
        have lz238 := Int32.le_toInt z238
        have uz238 := Int32.toInt_lt z238
        have ha_z238 : z238 = ma0 19 p0.toNatClampNeg := ez238.trans (Ann.b19 han (by omega)); have hn_z238 : z238.toInt = (ma0 19 p0.toNatClampNeg).toInt := (by rw [ha_z238]); have hev_z238 : ErV ta (tf 6).toInt na ma0 d m2 m3 w3 z238 := (by rw [ha_z238]; exact (hoc.get (by omega))); obtain ⟨hec_z238, h20_z238, hw_z238⟩ := hev_z238.ec; have hrg_z238 := EcV.rng hec_z238
        refine px_callv (pr := []) (px_runV (As := [.int z238]) (rest := []) S (c_mp_checkAlone l D cs ma0 ys (cf155 48).toInt nf (cf155 33).toInt d m2 m3 h r g tf ta pf na wa ca ef ea xf xa ma154 cf155 z238  (show 0 ≤ m2 from by first | exact oz_8df2b9da5a hm2 hm1 hsr0.2.2.1 | omega) (show m3 ≤ (pf 13).toInt from by first | exact oz_8d1dd37214 g1 hru.1 hru.2.1 | omega) (show (pf 13).toInt ≤ 2100 from by first | exact g2 | omega) (show (tf 6).toInt ≤ 2049 from by first | exact g3 | omega) (show (cf155 33).toInt = (cf155 33).toInt from rfl) (show 0 ≤ (cf155 33).toInt from by first | exact oz_f3ebed1ad0 e160 g4 | omega) (show (cf155 48).toInt = (cf155 48).toInt from rfl) (show (cf155 38).toInt = nf from by first | exact oz_1687f4cc65 g9 e161 | omega) (show 0 ≤ nf from by first | exact g10 | omega) htk (FsI.le (N' := (pf 13).toInt) hfs (by omega)) hwr (KnT.eq hkt (by omega)) (FnT.eq hft (by omega)) (KnS.eq hks (by omega) (by omega)) hfp han hec_z238 _) hT (pr := []) (pcs := [wdP cs h r g tf ta pf na ma154 wa cf155 ca ef ea xf xa]) hw (oX_call (P := (fun A U H => (oP A g U H))) (pr := []) oG_P hw hA hP) (px_recv hT hw 0 0 rfl rfl rfl) m12_213 m12_210 m12_212 ms_12_6 m1_21 q_Mpg_checkAlone ⟨show (4 * d + 13) + 1 ≤ (6 * d + 29) from (by first | exact oz_0ab3c77e19 | omega), show 8 + (3 + 11) + (200 * d + 460) ≤ (260 * d + 1020) from (by first | exact oz_6434b70a93 | omega)⟩ hl.1 rfl (Nat.le_of_ble_eq_true rfl) d_Mpg_checkFor_74 ⟨Nat.le_of_ble_eq_true rfl, Nat.le_of_ble_eq_true rfl⟩) hw hA (fun p243 H locs hp243 hw => ?_)
        obtain ⟨ma241, cf242, rfl, e245, e246, e247, e248, e249, e250, e251, e252, e253, e254, e255, e256⟩ := hp243
        have e245 : KpE cf155 cf242 := e245
        have hkz_e245 := e245.2
        have hkk37_e245 : (cf242 37).toInt = (cf155 37).toInt := (by rw [e245.1 37 (by decide) (by decide) (by decide) (by decide) (by decide)] <;> rfl)
        have hkk43_e245 : (cf242 43).toInt = (cf155 43).toInt := (by rw [e245.1 43 (by decide) (by decide) (by decide) (by decide) (by decide)] <;> rfl)
        have hkk44_e245 : (cf242 44).toInt = (cf155 44).toInt := (by rw [e245.1 44 (by decide) (by decide) (by decide) (by decide) (by decide)] <;> rfl)
        have hkk45_e245 : (cf242 45).toInt = (cf155 45).toInt := (by rw [e245.1 45 (by decide) (by decide) (by decide) (by decide) (by decide)] <;> rfl)
        have hkk41_e245 : (cf242 41).toInt = (cf155 41).toInt := (by rw [e245.1 41 (by decide) (by decide) (by decide) (by decide) (by decide)] <;> rfl)
        have hkk55_e245 : (cf242 55).toInt = (cf155 55).toInt := (by rw [e245.1 55 (by decide) (by decide) (by decide) (by decide) (by decide)] <;> rfl)
        have hkk59_e245 : (cf242 59).toInt = (cf155 59).toInt := (by rw [e245.1 59 (by decide) (by decide) (by decide) (by decide) (by decide)] <;> rfl)
        have hkk42_e245 : (cf242 42).toInt = (cf155 42).toInt := (by rw [e245.1 42 (by decide) (by decide) (by decide) (by decide) (by decide)] <;> rfl)
        have hkk54_e245 : (cf242 54).toInt = (cf155 54).toInt := (by rw [e245.1 54 (by decide) (by decide) (by decide) (by decide) (by decide)] <;> rfl)
        have hkk58_e245 : (cf242 58).toInt = (cf155 58).toInt := (by rw [e245.1 58 (by decide) (by decide) (by decide) (by decide) (by decide)] <;> rfl)
        have e246 : WrV cf242 (tf 6).toInt := e246
        have hwr := e246
        have hw0_e246 := hwr.1
        have e247 : (cf242 33).toInt = (cf155 33).toInt := e247
        have e248 : (cf242 38).toInt = (cf155 38).toInt := e248
        have e249 : (cf242 48).toInt = (cf155 48).toInt := e249
        have e250 : (cf242 46).toInt = (cf155 46).toInt := e250
        have e251 : (cf242 47).toInt = (cf155 47).toInt := e251
        have e252 : (cf242 57).toInt = (cf155 57).toInt := e252
        have e253 : Ann na ma0 ma241 := e253
        have han := e253
        have e254 : FrC m2 m3 ma154 ma241 := e254
        have hfc := hfc.tr e254 (by omega) (by omega)
        have hty_z151 : ZTe cf242 ta ca na ma0 (cf242 48).toInt ys nf ma241 m1 m2 z151 0 := ZTe.tr hty_z151 (fun q => by omega) e254 (by omega) (CaG.rf (kn := 0) (ns := 5000)) (by omega) (by omega)
        have e255 : ZT0 cf242 (Gk ta ca na ma0 (cf155 48).toInt ys nf) na ma241 m2 m3 z238 := e255
        have hty_z238 : ZTe cf242 ta ca na ma0 (cf242 48).toInt ys nf ma241 m2 m3 z238 0 := ZTe.to (t := 0) e255 (fun q => by omega) (by omega) (Int.le_refl _) (Int.le_refl _) rfl
        have e256 : R_mp_checkAlone tf ta na ca z238 ma154 cf155 ma241 cf242 := e256
        have hw : pw D A s.heap H locs [wdP cs h r g tf ta pf na ma241 wa cf242 ca ef ea xf xa] := hw
        refine lv_aload_n S.x S.b d_Mpg_checkFor_77 rfl (lv_at hl 2 rfl) ?_
        refine lv_aload_n S.x S.b d_Mpg_checkFor_78 rfl (lv_at hl 2 rfl) ?_
        refine px_get S k_Mpg hT hw 0 0 20 (v := .ref (r 20)) rfl rfl rfl (by decide) m10_6 d_Mpg_checkFor_79 ?_
        refine lv_iload_n S.x S.b d_Mpg_checkFor_82 rfl (lv_at hl 3 rfl) ?_
        refine px_iald S hT hw 0 16 (n := 2100) (f := (ma241 20)) rfl gp_20 (x := p0) (vp_in_iff.mpr (by first | exact oz_2334575e67 hsr0.2.2.1 hm1 g1 hm2 hru.2.1 g2 hm3 hru.1 | (constructor <;> omega))) d_Mpg_checkFor_83 ?_
        refine lv_topi (fun z257 ez257 => ?_)
        have lz257 := Int32.le_toInt z257
        have uz257 := Int32.toInt_lt z257
        have ha_z257 : z257 = ma0 20 p0.toNatClampNeg := ez257.trans (Ann.b20 han (by omega) (by omega)); have hn_z257 : z257.toInt = (ma0 20 p0.toNatClampNeg).toInt := (by rw [ha_z257]); have hsc_z257 : ScV ta (tf 6).toInt na ma0 d m3 hi w5 z257 := (by rw [ha_z257]; exact hse); have hrg_z257 := ScV.rng hsc_z257
        refine px_callv (pr := []) (px_runV (As := [.int z257]) (rest := []) S (c_mp_checkBody l D cs ma0 ys nf tx d m3 hi w5 h r g tf ta pf na wa ef ea xf xa ma241 cf242 ca z257  (show 0 ≤ m3 from by first | exact oz_3535899054 hm3 hm2 hsr0.2.2.1 hm1 | omega) (show hi ≤ (pf 13).toInt from by first | exact g1 | omega) (show (pf 13).toInt ≤ 2100 from by first | exact g2 | omega) (show (tf 6).toInt ≤ 2049 from by first | exact g3 | omega) (show 0 ≤ (cf242 33).toInt from by first | exact oz_e2fef14871 e247 e160 g4 | omega) (show 0 ≤ w5 from by first | exact hw5 | omega) (show 6 * (cf242 33).toInt + w5 ≤ 6540 from by first | exact oz_cc030681f7 hws e247 g6 hw1 hw2 hw3 e160 | omega) (show 0 ≤ (cf242 48).toInt from by first | exact oz_f6f5eb07dd e249 e162 g15 g14 | omega) (show 6 * (cf242 48).toInt + w5 ≤ 6540 from by first | exact oz_cc030681f7 hws e249 g8 hw1 hw2 hw3 e162 | omega) (show (cf242 38).toInt = nf from by first | exact oz_e13fc83238 g9 e248 e161 | omega) (show 0 ≤ nf from by first | exact g10 | omega) (show 0 ≤ (cf242 37).toInt from by first | exact oz_e2fef14871 hkk37_e245 hkk37_e158 g4 | omega) (show 0 ≤ (cf242 54).toInt from by first | exact oz_e2fef14871 hkk54_e245 hkk54_e158 g12 | omega) (show (cf242 54).toInt ≤ 4096 * (cf242 48).toInt from by first | exact oz_7ed347e8ad e249 hkk54_e245 e162 hkk54_e158 g13 | omega) (show 0 ≤ (cf242 42).toInt from by first | exact oz_e2fef14871 hkk42_e245 hkk42_e158 g14 | omega) (show (cf242 42).toInt ≤ 4 + 4096 * (cf242 48).toInt from by first | exact oz_da2a904354 e249 hkk42_e245 e162 hkk42_e158 g15 | omega) (show 0 ≤ (cf242 44).toInt from by first | exact oz_e2fef14871 hkk44_e245 hkk44_e158 g16 | omega) (show 0 ≤ (cf242 45).toInt from by first | exact oz_e2fef14871 hkk45_e245 hkk45_e158 g17 | omega) (show ys ≤ (cf242 48).toInt ∨ tx = 1 from by omega) (show 0 ≤ (cf242 46).toInt from by first | exact oz_e2fef14871 e250 e163 g19 | omega) (show (cf242 46).toInt ≤ 1 from by first | exact oz_916d756328 e250 e163 g20 | omega) (show 0 ≤ (cf242 47).toInt from by first | exact oz_e2fef14871 e251 e164 g21 | omega) (show (cf242 47).toInt ≤ 1 from by first | exact oz_916d756328 e251 e164 g22 | omega) (show (cf242 44).toInt + (d : Int) ≤ 400 from by first | exact oz_1d9764fd28 g29 hkk44_e245 hkk44_e158 | omega) (show (cf242 45).toInt + (d : Int) ≤ 400 from by first | exact oz_1d9764fd28 g30 hkk45_e245 hkk45_e158 | omega) (show 0 ≤ (cf242 43).toInt from by first | exact oz_e2fef14871 hkk43_e245 hkk43_e158 g25 | omega) (show (cf242 43).toInt < 2100 from by first | exact oz_740a8b247c hkk43_e245 hkk43_e158 g26 | omega) (show tx = 0 from by first | exact g27 | omega) (show (cf242 44).toInt + (d : Int) + 1 ≤ 400 from by first | exact oz_e363459920 g29 hkk44_e245 hkk44_e158 | omega) htk (FsI.le (N' := (pf 13).toInt) hfs (by omega)) hwr (KnT.eq hkt (by omega)) (FnT.eq hft (by omega)) (KnS.eq hks (by omega) (by omega)) hfp (SyR.eq hsr (by omega) (by omega)) han (show txo (cf242 43).toInt = tx from by rw [show (cf242 43).toInt = (cf 43).toInt by omega]; exact htx) hsc_z257 hLS _) hT (pr := []) (pcs := [wdP cs h r g tf ta pf na ma241 wa cf242 ca ef ea xf xa]) hw (oX_call (P := (fun A U H => (oP A g U H))) (pr := []) oG_P hw hA hP) (px_recv hT hw 0 0 rfl rfl rfl) m13_37 m13_34 m13_36 ms_13_6 m1_21 q_Mpg_checkBody ⟨show (6 * d + 27) + 1 ≤ (6 * d + 29) from (by first | exact oz_0a7d18f368 | omega), show 8 + (2 + 11) + (260 * d + 940) ≤ (260 * d + 1020) from (by first | exact oz_884c966d29 | omega)⟩ hl.1 rfl (Nat.le_of_ble_eq_true rfl) d_Mpg_checkFor_84 ⟨Nat.le_of_ble_eq_true rfl, Nat.le_of_ble_eq_true rfl⟩) hw hA (fun p264 H locs hp264 hw => ?_)
        obtain ⟨ma261, cf262, ca263, rfl, e266, e267, e268, e269, e270, e271, e272, e273, e274, e275, e276, e277, e278, e279, e280, e281, e282, e283, e284, e285, e286, e287, e288, e289, e290, e291, e292, e293, e294⟩ := hp264
        have e266 : (cf262 30).toInt = 0 → (cf242 30).toInt = 0 := e266
        have e267 : WrV cf262 (tf 6).toInt := e267
        have hwr := e267
        have hw0_e267 := hwr.1
        have e268 : (cf262 37).toInt = (cf242 37).toInt := e268
        have e269 : (cf262 38).toInt = (cf242 38).toInt := e269
        have e270 : (cf262 43).toInt = (cf242 43).toInt := e270
        have e271 : (cf262 44).toInt = (cf242 44).toInt := e271
        have e272 : (cf262 45).toInt = (cf242 45).toInt := e272
        have e273 : (cf262 46).toInt = (cf242 46).toInt := e273
        have e274 : (cf262 47).toInt = (cf242 47).toInt := e274
        have e275 : (cf262 41).toInt = (cf242 41).toInt := e275
        have e276 : (cf262 55).toInt = (cf242 55).toInt := e276
        have e277 : (cf262 59).toInt = (cf242 59).toInt := e277
        have e278 : (cf242 33).toInt ≤ (cf262 33).toInt := e278
        have e279 : 6 * (cf262 33).toInt ≤ 6 * (cf242 33).toInt + (w5) := e279
        have e280 : (cf242 48).toInt ≤ (cf262 48).toInt := e280
        have e281 : 6 * (cf262 48).toInt ≤ 6 * (cf242 48).toInt + (w5) := e281
        have e282 : (cf242 54).toInt ≤ (cf262 54).toInt := e282
        have e283 : (cf242 42).toInt ≤ (cf262 42).toInt := e283
        have e284 : (cf262 54).toInt - (cf242 54).toInt ≤ 4 * ((cf262 42).toInt - (cf242 42).toInt) := e284
        have e285 : (cf262 54).toInt - (cf242 54).toInt ≤ 4096 * ((cf262 48).toInt - (cf242 48).toInt) := e285
        have e286 : (cf262 42).toInt - (cf242 42).toInt ≤ 4096 * ((cf262 48).toInt - (cf242 48).toInt) := e286
        have e287 : KnT (tf 6).toInt ca263 (cf262 33).toInt := e287
        have hkt := e287
        have hk11_e287 := hkt.1
        have e288 : KnS ca263 (cf262 33).toInt (cf262 48).toInt ys := e288
        have hks := e288
        have e289 : CaG ca ca263 (cf242 33).toInt (cf242 48).toInt := e289
        have hcg := hcg.tr e289 (by omega) (by omega)
        have hft := hft.cg e289
        have hfp := hfp.cg e289
        have e290 : SyR ca263 ys (cf262 48).toInt (cf262 54).toInt tx := e290
        have hsr := e290
        have e291 : Ann na ma0 ma261 := e291
        have han := e291
        have e292 : FrC m3 hi ma241 ma261 := e292
        have hfc := hfc.tr e292 (by omega) (by omega)
        have hty_z151 : ZTe cf262 ta ca263 na ma0 (cf262 48).toInt ys nf ma261 m1 m2 z151 0 := ZTe.tr hty_z151 (fun q => by omega) e292 (by omega) e289 (by omega) (by omega)
        have hty_z238 : ZTe cf262 ta ca263 na ma0 (cf262 48).toInt ys nf ma261 m2 m3 z238 0 := ZTe.tr hty_z238 (fun q => by omega) e292 (by omega) e289 (by omega) (by omega)
        have e293 : ZTe cf262 ta ca263 na ma0 (cf262 48).toInt ys nf ma261 m3 hi z257 4 := e293
        have hts_z257 : ZTe cf262 ta ca263 na ma0 (cf262 48).toInt ys nf ma261 m3 hi z257 4 := ZTe.to e293 (fun q => by omega) (by omega) (Int.le_refl _) (Int.le_refl _) rfl
        have e294 : R_mp_checkBody (RL_mp_checkStatement d) tf ta na z257 ma241 cf242 ca ma261 cf262 ca263 := e294
        have hw : pw D A s.heap H locs [wdP cs h r g tf ta pf na ma261 wa cf262 ca263 ef ea xf xa] := hw
        refine lv_aload_n S.x S.b d_Mpg_checkFor_87 rfl (lv_at hl 2 rfl) ?_
        refine lv_iload_n S.x S.b d_Mpg_checkFor_88 rfl (lv_at hl 1 rfl) ?_
        refine lv_iload_n S.x S.b d_Mpg_checkFor_89 rfl (lv_at hl 0 rfl) ?_
        refine px_callv (pr := []) (px_runV (As := [.int (cf 33), .int (cf 37)]) (rest := []) S (c_mp_leave l D cs h r g tf ta pf na ma261 wa ca263 ef ea xf xa cf262 (cf 33) (cf 37)  htk _) hT (pr := []) (pcs := [wdP cs h r g tf ta pf na ma261 wa cf262 ca263 ef ea xf xa]) hw px_X.tt (px_recv hT hw 0 0 rfl rfl rfl) m12_209 m12_206 m12_208 ms_12_5 m1_21 q_Mpg_leave ⟨show 0 + 1 ≤ (6 * d + 29) from (by first | exact oz_cfa904bb27 | omega), show 8 + (3 + 11) + 0 ≤ (260 * d + 1020) from (by first | exact oz_480c6b4fdb | omega)⟩ hl.1 rfl (Nat.le_of_ble_eq_true rfl) d_Mpg_checkFor_90 ⟨Nat.le_of_ble_eq_true rfl, Nat.le_of_ble_eq_true rfl⟩) hw hA (fun p297 H locs hp297 hw => ?_)
        obtain ⟨cf296, rfl, e299, e300, e301, e302, e303, e304, e305, e306, e307, e308, e309, e310, e311, e312, e313, e314, e315, e316, e317⟩ := hp297
        have e299 : (cf296 33).toInt = (cf 33).toInt := e299
        have e300 : (cf296 37).toInt = (cf 37).toInt := e300
        have e301 : (cf296 30).toInt = (cf262 30).toInt := e301
        have e302 : (cf296 31).toInt = (cf262 31).toInt := e302
        have e303 : (cf296 38).toInt = (cf262 38).toInt := e303
        have e304 : (cf296 41).toInt = (cf262 41).toInt := e304
        have e305 : (cf296 42).toInt = (cf262 42).toInt := e305
        have e306 : (cf296 43).toInt = (cf262 43).toInt := e306
        have e307 : (cf296 44).toInt = (cf262 44).toInt := e307
        have e308 : (cf296 45).toInt = (cf262 45).toInt := e308
        have e309 : (cf296 46).toInt = (cf262 46).toInt := e309
        have e310 : (cf296 47).toInt = (cf262 47).toInt := e310
        have e311 : (cf296 48).toInt = (cf262 48).toInt := e311
        have e312 : (cf296 54).toInt = (cf262 54).toInt := e312
        have e313 : (cf296 55).toInt = (cf262 55).toInt := e313
        have e314 : (cf296 57).toInt = (cf262 57).toInt := e314
        have e315 : (cf296 58).toInt = (cf262 58).toInt := e315
        have e316 : (cf296 59).toInt = (cf262 59).toInt := e316
        have e317 : R_mp_leave (cf 33) (cf 37) cf262 cf296 := e317
        have hwr : WrV cf296 (tf 6).toInt := WrV.eq hwr (by omega) (by omega)
        have hkt := KnT.eq (n' := (cf296 33).toInt) (KnT.cg hkt0 hcg (Int.le_refl _)) (by omega)
        have hks := KnS.eq (n' := (cf296 33).toInt) (KnS.cg hks0 hcg (Int.le_refl _) (Int.le_refl _) (n2 := (cf296 48).toInt) (by omega)) (by omega) rfl
        have hty_z151 : ZTe cf296 ta ca263 na ma0 (cf296 48).toInt ys nf ma261 m1 m2 z151 0 := ZTe.to hty_z151 (fun q => by omega) (by omega) (Int.le_refl _) (Int.le_refl _) rfl
        have hty_z238 : ZTe cf296 ta ca263 na ma0 (cf296 48).toInt ys nf ma261 m2 m3 z238 0 := ZTe.to hty_z238 (fun q => by omega) (by omega) (Int.le_refl _) (Int.le_refl _) rfl
        have hts_z257 : ZTe cf296 ta ca263 na ma0 (cf296 48).toInt ys nf ma261 m3 hi z257 4 := ZTe.to hts_z257 (fun q => by omega) (by omega) (Int.le_refl _) (Int.le_refl _) rfl
        have hw : pw D A s.heap H locs [wdP cs h r g tf ta pf na ma261 wa cf296 ca263 ef ea xf xa] := hw
        exact px_vret S hr hlk hAe hw (Nat.le_of_ble_eq_true rfl) (Nat.le_of_ble_eq_true rfl) (⟨ma261, cf296, ca263, rfl, (show (cf296 30).toInt = 0 → (cf 30).toInt = 0 from by omega), (show WrV cf296 (tf 6).toInt from hwr), (show (cf296 37).toInt = (cf 37).toInt from by first | exact e300 | omega), (show (cf296 38).toInt = (cf 38).toInt from by first | exact oz_ff3084e3c1 e161 e303 e248 e269 | omega), (show (cf296 43).toInt = (cf 43).toInt from by first | exact oz_ff3084e3c1 hkk43_e158 e306 hkk43_e245 e270 | omega), (show (cf296 44).toInt = (cf 44).toInt from by first | exact oz_ff3084e3c1 hkk44_e158 e307 hkk44_e245 e271 | omega), (show (cf296 45).toInt = (cf 45).toInt from by first | exact oz_ff3084e3c1 hkk45_e158 e308 hkk45_e245 e272 | omega), (show (cf296 46).toInt = (cf 46).toInt from by first | exact oz_ff3084e3c1 e163 e309 e250 e273 | omega), (show (cf296 47).toInt = (cf 47).toInt from by first | exact oz_ff3084e3c1 e164 e310 e251 e274 | omega), (show (cf296 41).toInt = (cf 41).toInt from by first | exact oz_ff3084e3c1 hkk41_e158 e304 hkk41_e245 e275 | omega), (show (cf296 55).toInt = (cf 55).toInt from by first | exact oz_ff3084e3c1 hkk55_e158 e313 hkk55_e245 e276 | omega), (show (cf296 59).toInt = (cf 59).toInt from by first | exact oz_ff3084e3c1 hkk59_e158 e316 hkk59_e245 e277 | omega), (show (cf296 33).toInt = (cf 33).toInt from by first | exact e299 | omega), (show (cf 48).toInt ≤ (cf296 48).toInt from by first | exact oz_d0877684c2 e162 e311 e249 e280 | omega), (show 6 * (cf296 48).toInt ≤ 6 * (cf 48).toInt + (w) from by first | exact oz_b8572a6ae1 hws e162 e311 hw1 hw2 hw3 e249 e281 | omega), (show (cf 54).toInt ≤ (cf296 54).toInt from by first | exact oz_d0877684c2 hkk54_e158 e312 hkk54_e245 e282 | omega), (show (cf 42).toInt ≤ (cf296 42).toInt from by first | exact oz_d0877684c2 hkk42_e158 e305 hkk42_e245 e283 | omega), (show (cf296 54).toInt - (cf 54).toInt ≤ 4 * ((cf296 42).toInt - (cf 42).toInt) from by first | exact oz_5978ffc030 hkk42_e158 hkk54_e158 e305 e312 hkk42_e245 hkk54_e245 e284 | omega), (show (cf296 54).toInt - (cf 54).toInt ≤ 4096 * ((cf296 48).toInt - (cf 48).toInt) from by first | exact oz_926a44a7a6 e162 hkk54_e158 e311 e312 e249 hkk54_e245 e285 | omega), (show (cf296 42).toInt - (cf 42).toInt ≤ 4096 * ((cf296 48).toInt - (cf 48).toInt) from by first | exact oz_6cae6533da e162 hkk42_e158 e305 e311 e249 hkk42_e245 e286 | omega), (show KnT (tf 6).toInt ca263 (cf296 33).toInt from (KnT.eq hkt (by omega))), (show KnS ca263 (cf296 33).toInt (cf296 48).toInt ys from (KnS.eq hks (by omega) (by omega))), (show CaG ca ca263 (cf 33).toInt (cf 48).toInt from (hcg.le (by omega) (by omega))), (show SyR ca263 ys (cf296 48).toInt (cf296 54).toInt tx from (SyR.eq hsr (by omega) (by omega))), (show Ann na ma0 ma261 from han), (show FrC lo hi ma ma261 from hfc), (show ZTe cf296 ta ca263 na ma0 (cf296 48).toInt ys nf ma261 lo hi p0 (tgv (cf 44).toInt (cf 45).toInt) from (fun zz => by exact tys_27 ⟨by omega, by omega, by omega⟩ tgv_rng (by omega) ha_z1 (ha_z151.trans (Ann.b18 han (by omega)).symm) (ha_z238.trans (Ann.b19 han (by omega)).symm) (ha_z257.trans (Ann.b20 han (by omega) (by omega)).symm) (Or.inl (by omega)) (ZTe.ot hty_z151 (by omega) (by omega) (by omega) (by omega) rfl) (ZTe.ot hty_z238 (by omega) (by omega) (by omega) (by omega) rfl) (ZTe.at hts_z257 (by omega) (by omega) (by omega) (by omega) rfl))), (show R_mp_checkFor (RL_mp_checkStatement d) tf ta na p0 ma cf ca ma261 cf296 ca263 from (Or.inl ⟨z1, ez1, Or.inl ⟨nc2, z4, ez4, Or.inr ⟨nc5, z151, ez151, ma154, cf155, v157, e173X, z174, ez174, Or.inr ⟨nc175, z238, ez238, ma241, cf242, e256, z257, ez257, ma261, cf262, ca263, e294, cf296, e317, rfl, rfl, rfl⟩⟩⟩⟩))⟩) d_Mpg_checkFor_93
  · have nc2 : ¬ z1.toInt < (0 : Int) := mt (i_lt (x := z1) (y := 0)).mpr c2
    refine lv_aload_n S.x S.b d_Mpg_checkFor_27 rfl (lv_at hl 2 rfl) ?_
    refine lv_aload_n S.x S.b d_Mpg_checkFor_28 rfl (lv_at hl 2 rfl) ?_
    refine px_get S k_Mpg hT hw 0 0 17 (v := .ref (r 17)) rfl rfl rfl (by decide) m10_1 d_Mpg_checkFor_29 ?_
    refine lv_iload_n S.x S.b d_Mpg_checkFor_32 rfl (lv_at hl 3 rfl) ?_
    refine px_iald S hT hw 0 13 (n := 2100) (f := (na 17)) rfl gp_17 (x := p0) (vp_in_iff.mpr (by first | exact oz_2334575e67 hsr0.2.2.1 hm1 g1 hm2 hru.2.1 g2 hm3 hru.1 | (constructor <;> omega))) d_Mpg_checkFor_33 ?_
    refine lv_topi (fun z318 ez318 => ?_)
    have lz318 := Int32.le_toInt z318
    have uz318 := Int32.toInt_lt z318
    have ha_z318 : z318 = na 17 p0.toNatClampNeg := ez318; have hn_z318 : z318.toInt = (na 17 p0.toNatClampNeg).toInt := (by rw [ha_z318]); have hsc_z318 : ScV ta (tf 6).toInt na ma0 d (p0.toInt + 1) m1 w1 z318 := (by rw [ha_z318]; exact (hoa.get (by omega))); have hrg_z318 := ScV.rng hsc_z318
    refine px_callv (pr := []) (px_runV (As := [.int z318]) (rest := []) S (hLS ma0 ys nf tx (p0.toInt + 1) m1 w1 h r g tf ta pf na wa ef ea xf xa ma (upd cf 37 (cf 33)) ca z318 (show 0 ≤ (p0.toInt + 1) from by first | exact oz_c12c169b81 hsr0.2.2.1 | omega) (show m1 ≤ (pf 13).toInt from by first | exact oz_9219fb40fa g1 hm2 hm3 hm4 | omega) (show (pf 13).toInt ≤ 2100 from by first | exact g2 | omega) (show (tf 6).toInt ≤ 2049 from by first | exact g3 | omega) (show 0 ≤ (cf 33).toInt from by first | exact g4 | omega) (show 0 ≤ w1 from by first | exact hw1 | omega) (show 6 * (cf 33).toInt + w1 ≤ 6540 from by first | exact oz_eae155ffdf g6 hws hw2 hw3 hw5 | omega) (show 0 ≤ (cf 48).toInt from by first | exact g7 | omega) (show 6 * (cf 48).toInt + w1 ≤ 6540 from by first | exact oz_eae155ffdf g8 hws hw2 hw3 hw5 | omega) (show (cf 38).toInt = nf from by first | exact g9 | omega) (show 0 ≤ nf from by first | exact g10 | omega) (show 0 ≤ (cf 33).toInt from by first | exact g4 | omega) (show 0 ≤ (cf 54).toInt from by first | exact g12 | omega) (show (cf 54).toInt ≤ 4096 * (cf 48).toInt from by first | exact g13 | omega) (show 0 ≤ (cf 42).toInt from by first | exact g14 | omega) (show (cf 42).toInt ≤ 4 + 4096 * (cf 48).toInt from by first | exact g15 | omega) (show 0 ≤ (cf 44).toInt from by first | exact g16 | omega) (show 0 ≤ (cf 45).toInt from by first | exact g17 | omega) (show ys ≤ (cf 48).toInt ∨ tx = 1 from by first | exact g18 | omega) (show 0 ≤ (cf 46).toInt from by first | exact g19 | omega) (show (cf 46).toInt ≤ 1 from by first | exact g20 | omega) (show 0 ≤ (cf 47).toInt from by first | exact g21 | omega) (show (cf 47).toInt ≤ 1 from by first | exact g22 | omega) (show (cf 44).toInt + (d : Int) ≤ 400 from by first | exact g23 | omega) (show (cf 45).toInt + (d : Int) ≤ 400 from by first | exact g24 | omega) (show 0 ≤ (cf 43).toInt from by first | exact g25 | omega) (show (cf 43).toInt < 2100 from by first | exact g26 | omega) (show tx = 0 from by first | exact g27 | omega) htk (FsI.le (N' := (pf 13).toInt) hfs (by omega)) (WrV.u hwr (by decide) (by decide)) (KnT.eq hkt (show _ = (cf 33).toInt by omega)) (FnT.eq hft (show _ = (cf 38).toInt by omega)) (KnS.eq hks (show _ = (cf 33).toInt by omega) (show _ = (cf 48).toInt by omega)) hfp (SyR.eq hsr (show _ = (cf 48).toInt by omega) (show _ = (cf 54).toInt by omega)) han (show txo (cf 43).toInt = tx from by rw [show (cf 43).toInt = (cf 43).toInt by omega]; exact htx) hsc_z318 _) hT (pr := []) (pcs := [wdP cs h r g tf ta pf na ma wa (upd cf 37 (cf 33)) ca ef ea xf xa]) hw (oX_call (P := (fun A U H => (oP A g U H))) (pr := []) oG_P hw hA hP) (px_recv hT hw 0 0 rfl rfl rfl) m12_201 m12_198 m12_200 ms_12_3 m1_21 q_Mpg_checkStatement ⟨show (6 * d + 26) + 1 ≤ (6 * d + 29) from (by first | exact oz_00b995d557 | omega), show 8 + (3 + 11) + (260 * d + 900) ≤ (260 * d + 1020) from (by first | exact oz_feae7da00e | omega)⟩ hl.1 rfl (Nat.le_of_ble_eq_true rfl) d_Mpg_checkFor_34 ⟨Nat.le_of_ble_eq_true rfl, Nat.le_of_ble_eq_true rfl⟩) hw hA (fun p325 H locs hp325 hw => ?_)
    obtain ⟨ma322, cf323, ca324, rfl, e327, e328, e329, e330, e331, e332, e333, e334, e335, e336, e337, e338, e339, e340, e341, e342, e343, e344, e345, e346, e347, e348, e349, e350, e351, e352, e353, e354, e355⟩ := hp325
    have e327 : (cf323 30).toInt = 0 → (cf 30).toInt = 0 := e327
    have e328 : WrV cf323 (tf 6).toInt := e328
    have hwr := e328
    have hw0_e328 := hwr.1
    have e329 : (cf323 37).toInt = (cf 33).toInt := e329
    have e330 : (cf323 38).toInt = (cf 38).toInt := e330
    have e331 : (cf323 43).toInt = (cf 43).toInt := e331
    have e332 : (cf323 44).toInt = (cf 44).toInt := e332
    have e333 : (cf323 45).toInt = (cf 45).toInt := e333
    have e334 : (cf323 46).toInt = (cf 46).toInt := e334
    have e335 : (cf323 47).toInt = (cf 47).toInt := e335
    have e336 : (cf323 41).toInt = (cf 41).toInt := e336
    have e337 : (cf323 55).toInt = (cf 55).toInt := e337
    have e338 : (cf323 59).toInt = (cf 59).toInt := e338
    have e339 : (cf 33).toInt ≤ (cf323 33).toInt := e339
    have e340 : 6 * (cf323 33).toInt ≤ 6 * (cf 33).toInt + (w1) := e340
    have e341 : (cf 48).toInt ≤ (cf323 48).toInt := e341
    have e342 : 6 * (cf323 48).toInt ≤ 6 * (cf 48).toInt + (w1) := e342
    have e343 : (cf 54).toInt ≤ (cf323 54).toInt := e343
    have e344 : (cf 42).toInt ≤ (cf323 42).toInt := e344
    have e345 : (cf323 54).toInt - (cf 54).toInt ≤ 4 * ((cf323 42).toInt - (cf 42).toInt) := e345
    have e346 : (cf323 54).toInt - (cf 54).toInt ≤ 4096 * ((cf323 48).toInt - (cf 48).toInt) := e346
    have e347 : (cf323 42).toInt - (cf 42).toInt ≤ 4096 * ((cf323 48).toInt - (cf 48).toInt) := e347
    have e348 : KnT (tf 6).toInt ca324 (cf323 33).toInt := e348
    have hkt := e348
    have hk11_e348 := hkt.1
    have e349 : KnS ca324 (cf323 33).toInt (cf323 48).toInt ys := e349
    have hks := e349
    have e350 : CaG ca ca324 (cf 33).toInt (cf 48).toInt := e350
    have hcg := hcg.tr e350 (by omega) (by omega)
    have hft := hft.cg e350
    have hfp := hfp.cg e350
    have e351 : SyR ca324 ys (cf323 48).toInt (cf323 54).toInt tx := e351
    have hsr := e351
    have e352 : Ann na ma0 ma322 := e352
    have han := e352
    have e353 : FrC (p0.toInt + 1) m1 ma ma322 := e353
    have hfc := hfc.tr e353 (by omega) (by omega)
    have e354 : ZTe cf323 ta ca324 na ma0 (cf323 48).toInt ys nf ma322 (p0.toInt + 1) m1 z318 (tgv (cf 44).toInt (cf 45).toInt) := e354
    have hts_z318 : ZTe cf323 ta ca324 na ma0 (cf323 48).toInt ys nf ma322 (p0.toInt + 1) m1 z318 (tgv (cf 44).toInt (cf 45).toInt) := ZTe.to e354 (fun q => by omega) (by omega) (Int.le_refl _) (Int.le_refl _) (by congr 1 <;> omega)
    have e355 : RL_mp_checkStatement d tf ta na z318 ma (upd cf 37 (cf 33)) ca ma322 cf323 ca324 := e355
    have hw : pw D A s.heap H locs [wdP cs h r g tf ta pf na ma322 wa cf323 ca324 ef ea xf xa] := hw
    refine lv_aload_n S.x S.b d_Mpg_checkFor_37 rfl (lv_at hl 2 rfl) ?_
    refine px_get S k_Mpg hT hw 0 0 18 (v := .ref (r 18)) rfl rfl rfl (by decide) m10_3 d_Mpg_checkFor_38 ?_
    refine lv_iload_n S.x S.b d_Mpg_checkFor_41 rfl (lv_at hl 3 rfl) ?_
    refine px_iald S hT hw 0 14 (n := 2100) (f := (ma322 18)) rfl gp_18 (x := p0) (vp_in_iff.mpr (by first | exact oz_376db002e6 hsr0.2.2.1 hrg_z318.1 g1 hm2 hru.2.1 hrg_z318.2.1 g2 hm3 hru.1 | (constructor <;> omega))) d_Mpg_checkFor_42 ?_
    refine lv_topi (fun z356 ez356 => ?_)
    have lz356 := Int32.le_toInt z356
    have uz356 := Int32.toInt_lt z356
    have ha_z356 : z356 = ma0 18 p0.toNatClampNeg := ez356.trans (Ann.b18 han (by omega)); have hn_z356 : z356.toInt = (ma0 18 p0.toNatClampNeg).toInt := (by rw [ha_z356])
    refine lv_if_lt (tgt := 58) S.x S.b d_Mpg_checkFor_43 (by decide) (fun c357 => ?_) (fun c357 => ?_)
    · have nc357 : z356.toInt < (0 : Int) := (i_lt (x := z356) (y := 0)).mp c357
      refine lv_aload_n S.x S.b d_Mpg_checkFor_58 rfl (lv_at hl 2 rfl) ?_
      refine px_get S k_Mpg hT hw 0 0 19 (v := .ref (r 19)) rfl rfl rfl (by decide) m10_5 d_Mpg_checkFor_59 ?_
      refine lv_iload_n S.x S.b d_Mpg_checkFor_62 rfl (lv_at hl 3 rfl) ?_
      refine px_iald S hT hw 0 15 (n := 2100) (f := (ma322 19)) rfl gp_19 (x := p0) (vp_in_iff.mpr (by first | exact oz_376db002e6 hsr0.2.2.1 hrg_z318.1 g1 hm2 hru.2.1 hrg_z318.2.1 g2 hm3 hru.1 | (constructor <;> omega))) d_Mpg_checkFor_63 ?_
      refine lv_topi (fun z359 ez359 => ?_)
      have lz359 := Int32.le_toInt z359
      have uz359 := Int32.toInt_lt z359
      have ha_z359 : z359 = ma0 19 p0.toNatClampNeg := ez359.trans (Ann.b19 han (by omega)); have hn_z359 : z359.toInt = (ma0 19 p0.toNatClampNeg).toInt := (by rw [ha_z359])
      refine lv_if_lt (tgt := 77) S.x S.b d_Mpg_checkFor_64 (by decide) (fun c360 => ?_) (fun c360 => ?_)
      · have nc360 : z359.toInt < (0 : Int) := (i_lt (x := z359) (y := 0)).mp c360
        refine lv_aload_n S.x S.b d_Mpg_checkFor_77 rfl (lv_at hl 2 rfl) ?_
        refine lv_aload_n S.x S.b d_Mpg_checkFor_78 rfl (lv_at hl 2 rfl) ?_
        refine px_get S k_Mpg hT hw 0 0 20 (v := .ref (r 20)) rfl rfl rfl (by decide) m10_6 d_Mpg_checkFor_79 ?_
        refine lv_iload_n S.x S.b d_Mpg_checkFor_82 rfl (lv_at hl 3 rfl) ?_
        refine px_iald S hT hw 0 16 (n := 2100) (f := (ma322 20)) rfl gp_20 (x := p0) (vp_in_iff.mpr (by first | exact oz_376db002e6 hsr0.2.2.1 hrg_z318.1 g1 hm2 hru.2.1 hrg_z318.2.1 g2 hm3 hru.1 | (constructor <;> omega))) d_Mpg_checkFor_83 ?_
        refine lv_topi (fun z362 ez362 => ?_)
        have lz362 := Int32.le_toInt z362
        have uz362 := Int32.toInt_lt z362
        have ha_z362 : z362 = ma0 20 p0.toNatClampNeg := ez362.trans (Ann.b20 han (by omega) (by omega)); have hn_z362 : z362.toInt = (ma0 20 p0.toNatClampNeg).toInt := (by rw [ha_z362]); have hsc_z362 : ScV ta (tf 6).toInt na ma0 d m3 hi w5 z362 := (by rw [ha_z362]; exact hse); have hrg_z362 := ScV.rng hsc_z362
        refine px_callv (pr := []) (px_runV (As := [.int z362]) (rest := []) S (c_mp_checkBody l D cs ma0 ys nf tx d m3 hi w5 h r g tf ta pf na wa ef ea xf xa ma322 cf323 ca324 z362  (show 0 ≤ m3 from by first | exact oz_df1d141c94 hm3 hm2 hsr0.2.2.1 hrg_z318.1 hrg_z318.2.1 | omega) (show hi ≤ (pf 13).toInt from by first | exact g1 | omega) (show (pf 13).toInt ≤ 2100 from by first | exact g2 | omega) (show (tf 6).toInt ≤ 2049 from by first | exact g3 | omega) (show 0 ≤ (cf323 33).toInt from by first | exact oz_16d7fa9f32 e339 g4 | omega) (show 0 ≤ w5 from by first | exact hw5 | omega) (show 6 * (cf323 33).toInt + w5 ≤ 6540 from by first | exact oz_24f37080f5 hws e340 g6 hw2 hw3 | omega) (show 0 ≤ (cf323 48).toInt from by first | exact oz_6a9f12b40a e347 g14 g15 e344 | omega) (show 6 * (cf323 48).toInt + w5 ≤ 6540 from by first | exact oz_24f37080f5 hws e342 g8 hw2 hw3 | omega) (show (cf323 38).toInt = nf from by first | exact oz_1687f4cc65 g9 e330 | omega) (show 0 ≤ nf from by first | exact g10 | omega) (show 0 ≤ (cf323 37).toInt from by first | exact oz_f3ebed1ad0 e329 g4 | omega) (show 0 ≤ (cf323 54).toInt from by first | exact oz_16d7fa9f32 e343 g12 | omega) (show (cf323 54).toInt ≤ 4096 * (cf323 48).toInt from by first | exact oz_c501c098b4 e346 g13 | omega) (show 0 ≤ (cf323 42).toInt from by first | exact oz_16d7fa9f32 e344 g14 | omega) (show (cf323 42).toInt ≤ 4 + 4096 * (cf323 48).toInt from by first | exact oz_658acb1b4c e347 g15 | omega) (show 0 ≤ (cf323 44).toInt from by first | exact oz_f3ebed1ad0 e332 g16 | omega) (show 0 ≤ (cf323 45).toInt from by first | exact oz_f3ebed1ad0 e333 g17 | omega) (show ys ≤ (cf323 48).toInt ∨ tx = 1 from by omega) (show 0 ≤ (cf323 46).toInt from by first | exact oz_f3ebed1ad0 e334 g19 | omega) (show (cf323 46).toInt ≤ 1 from by first | exact oz_878017becc e334 g20 | omega) (show 0 ≤ (cf323 47).toInt from by first | exact oz_f3ebed1ad0 e335 g21 | omega) (show (cf323 47).toInt ≤ 1 from by first | exact oz_878017becc e335 g22 | omega) (show (cf323 44).toInt + (d : Int) ≤ 400 from by first | exact oz_d272872612 g29 e332 | omega) (show (cf323 45).toInt + (d : Int) ≤ 400 from by first | exact oz_d272872612 g30 e333 | omega) (show 0 ≤ (cf323 43).toInt from by first | exact oz_f3ebed1ad0 e331 g25 | omega) (show (cf323 43).toInt < 2100 from by first | exact oz_b365134983 e331 g26 | omega) (show tx = 0 from by first | exact g27 | omega) (show (cf323 44).toInt + (d : Int) + 1 ≤ 400 from by first | exact oz_4d2bb0c431 g29 e332 | omega) htk (FsI.le (N' := (pf 13).toInt) hfs (by omega)) hwr (KnT.eq hkt (by omega)) (FnT.eq hft (by omega)) (KnS.eq hks (by omega) (by omega)) hfp (SyR.eq hsr (by omega) (by omega)) han (show txo (cf323 43).toInt = tx from by rw [show (cf323 43).toInt = (cf 43).toInt by omega]; exact htx) hsc_z362 hLS _) hT (pr := []) (pcs := [wdP cs h r g tf ta pf na ma322 wa cf323 ca324 ef ea xf xa]) hw (oX_call (P := (fun A U H => (oP A g U H))) (pr := []) oG_P hw hA hP) (px_recv hT hw 0 0 rfl rfl rfl) m13_37 m13_34 m13_36 ms_13_6 m1_21 q_Mpg_checkBody ⟨show (6 * d + 27) + 1 ≤ (6 * d + 29) from (by first | exact oz_0a7d18f368 | omega), show 8 + (2 + 11) + (260 * d + 940) ≤ (260 * d + 1020) from (by first | exact oz_884c966d29 | omega)⟩ hl.1 rfl (Nat.le_of_ble_eq_true rfl) d_Mpg_checkFor_84 ⟨Nat.le_of_ble_eq_true rfl, Nat.le_of_ble_eq_true rfl⟩) hw hA (fun p369 H locs hp369 hw => ?_)
        obtain ⟨ma366, cf367, ca368, rfl, e371, e372, e373, e374, e375, e376, e377, e378, e379, e380, e381, e382, e383, e384, e385, e386, e387, e388, e389, e390, e391, e392, e393, e394, e395, e396, e397, e398, e399⟩ := hp369
        have e371 : (cf367 30).toInt = 0 → (cf323 30).toInt = 0 := e371
        have e372 : WrV cf367 (tf 6).toInt := e372
        have hwr := e372
        have hw0_e372 := hwr.1
        have e373 : (cf367 37).toInt = (cf323 37).toInt := e373
        have e374 : (cf367 38).toInt = (cf323 38).toInt := e374
        have e375 : (cf367 43).toInt = (cf323 43).toInt := e375
        have e376 : (cf367 44).toInt = (cf323 44).toInt := e376
        have e377 : (cf367 45).toInt = (cf323 45).toInt := e377
        have e378 : (cf367 46).toInt = (cf323 46).toInt := e378
        have e379 : (cf367 47).toInt = (cf323 47).toInt := e379
        have e380 : (cf367 41).toInt = (cf323 41).toInt := e380
        have e381 : (cf367 55).toInt = (cf323 55).toInt := e381
        have e382 : (cf367 59).toInt = (cf323 59).toInt := e382
        have e383 : (cf323 33).toInt ≤ (cf367 33).toInt := e383
        have e384 : 6 * (cf367 33).toInt ≤ 6 * (cf323 33).toInt + (w5) := e384
        have e385 : (cf323 48).toInt ≤ (cf367 48).toInt := e385
        have e386 : 6 * (cf367 48).toInt ≤ 6 * (cf323 48).toInt + (w5) := e386
        have e387 : (cf323 54).toInt ≤ (cf367 54).toInt := e387
        have e388 : (cf323 42).toInt ≤ (cf367 42).toInt := e388
        have e389 : (cf367 54).toInt - (cf323 54).toInt ≤ 4 * ((cf367 42).toInt - (cf323 42).toInt) := e389
        have e390 : (cf367 54).toInt - (cf323 54).toInt ≤ 4096 * ((cf367 48).toInt - (cf323 48).toInt) := e390
        have e391 : (cf367 42).toInt - (cf323 42).toInt ≤ 4096 * ((cf367 48).toInt - (cf323 48).toInt) := e391
        have e392 : KnT (tf 6).toInt ca368 (cf367 33).toInt := e392
        have hkt := e392
        have hk11_e392 := hkt.1
        have e393 : KnS ca368 (cf367 33).toInt (cf367 48).toInt ys := e393
        have hks := e393
        have e394 : CaG ca324 ca368 (cf323 33).toInt (cf323 48).toInt := e394
        have hcg := hcg.tr e394 (by omega) (by omega)
        have hft := hft.cg e394
        have hfp := hfp.cg e394
        have e395 : SyR ca368 ys (cf367 48).toInt (cf367 54).toInt tx := e395
        have hsr := e395
        have e396 : Ann na ma0 ma366 := e396
        have han := e396
        have e397 : FrC m3 hi ma322 ma366 := e397
        have hfc := hfc.tr e397 (by omega) (by omega)
        have hts_z318 : ZTe cf367 ta ca368 na ma0 (cf367 48).toInt ys nf ma366 (p0.toInt + 1) m1 z318 (tgv (cf 44).toInt (cf 45).toInt) := ZTe.tr hts_z318 (fun q => by omega) e397 (by omega) e394 (by omega) (by omega)
        have e398 : ZTe cf367 ta ca368 na ma0 (cf367 48).toInt ys nf ma366 m3 hi z362 4 := e398
        have hts_z362 : ZTe cf367 ta ca368 na ma0 (cf367 48).toInt ys nf ma366 m3 hi z362 4 := ZTe.to e398 (fun q => by omega) (by omega) (Int.le_refl _) (Int.le_refl _) rfl
        have e399 : R_mp_checkBody (RL_mp_checkStatement d) tf ta na z362 ma322 cf323 ca324 ma366 cf367 ca368 := e399
        have hw : pw D A s.heap H locs [wdP cs h r g tf ta pf na ma366 wa cf367 ca368 ef ea xf xa] := hw
        refine lv_aload_n S.x S.b d_Mpg_checkFor_87 rfl (lv_at hl 2 rfl) ?_
        refine lv_iload_n S.x S.b d_Mpg_checkFor_88 rfl (lv_at hl 1 rfl) ?_
        refine lv_iload_n S.x S.b d_Mpg_checkFor_89 rfl (lv_at hl 0 rfl) ?_
        refine px_callv (pr := []) (px_runV (As := [.int (cf 33), .int (cf 37)]) (rest := []) S (c_mp_leave l D cs h r g tf ta pf na ma366 wa ca368 ef ea xf xa cf367 (cf 33) (cf 37)  htk _) hT (pr := []) (pcs := [wdP cs h r g tf ta pf na ma366 wa cf367 ca368 ef ea xf xa]) hw px_X.tt (px_recv hT hw 0 0 rfl rfl rfl) m12_209 m12_206 m12_208 ms_12_5 m1_21 q_Mpg_leave ⟨show 0 + 1 ≤ (6 * d + 29) from (by first | exact oz_cfa904bb27 | omega), show 8 + (3 + 11) + 0 ≤ (260 * d + 1020) from (by first | exact oz_480c6b4fdb | omega)⟩ hl.1 rfl (Nat.le_of_ble_eq_true rfl) d_Mpg_checkFor_90 ⟨Nat.le_of_ble_eq_true rfl, Nat.le_of_ble_eq_true rfl⟩) hw hA (fun p402 H locs hp402 hw => ?_)
        obtain ⟨cf401, rfl, e404, e405, e406, e407, e408, e409, e410, e411, e412, e413, e414, e415, e416, e417, e418, e419, e420, e421, e422⟩ := hp402
        have e404 : (cf401 33).toInt = (cf 33).toInt := e404
        have e405 : (cf401 37).toInt = (cf 37).toInt := e405
        have e406 : (cf401 30).toInt = (cf367 30).toInt := e406
        have e407 : (cf401 31).toInt = (cf367 31).toInt := e407
        have e408 : (cf401 38).toInt = (cf367 38).toInt := e408
        have e409 : (cf401 41).toInt = (cf367 41).toInt := e409
        have e410 : (cf401 42).toInt = (cf367 42).toInt := e410
        have e411 : (cf401 43).toInt = (cf367 43).toInt := e411
        have e412 : (cf401 44).toInt = (cf367 44).toInt := e412
        have e413 : (cf401 45).toInt = (cf367 45).toInt := e413
        have e414 : (cf401 46).toInt = (cf367 46).toInt := e414
        have e415 : (cf401 47).toInt = (cf367 47).toInt := e415
        have e416 : (cf401 48).toInt = (cf367 48).toInt := e416
        have e417 : (cf401 54).toInt = (cf367 54).toInt := e417
        have e418 : (cf401 55).toInt = (cf367 55).toInt := e418
        have e419 : (cf401 57).toInt = (cf367 57).toInt := e419
        have e420 : (cf401 58).toInt = (cf367 58).toInt := e420
        have e421 : (cf401 59).toInt = (cf367 59).toInt := e421
        have e422 : R_mp_leave (cf 33) (cf 37) cf367 cf401 := e422
        have hwr : WrV cf401 (tf 6).toInt := WrV.eq hwr (by omega) (by omega)
        have hkt := KnT.eq (n' := (cf401 33).toInt) (KnT.cg hkt0 hcg (Int.le_refl _)) (by omega)
        have hks := KnS.eq (n' := (cf401 33).toInt) (KnS.cg hks0 hcg (Int.le_refl _) (Int.le_refl _) (n2 := (cf401 48).toInt) (by omega)) (by omega) rfl
        have hts_z318 : ZTe cf401 ta ca368 na ma0 (cf401 48).toInt ys nf ma366 (p0.toInt + 1) m1 z318 (tgv (cf 44).toInt (cf 45).toInt) := ZTe.to hts_z318 (fun q => by omega) (by omega) (Int.le_refl _) (Int.le_refl _) rfl
        have hts_z362 : ZTe cf401 ta ca368 na ma0 (cf401 48).toInt ys nf ma366 m3 hi z362 4 := ZTe.to hts_z362 (fun q => by omega) (by omega) (Int.le_refl _) (Int.le_refl _) rfl
        have hw : pw D A s.heap H locs [wdP cs h r g tf ta pf na ma366 wa cf401 ca368 ef ea xf xa] := hw
        exact px_vret S hr hlk hAe hw (Nat.le_of_ble_eq_true rfl) (Nat.le_of_ble_eq_true rfl) (⟨ma366, cf401, ca368, rfl, (show (cf401 30).toInt = 0 → (cf 30).toInt = 0 from by omega), (show WrV cf401 (tf 6).toInt from hwr), (show (cf401 37).toInt = (cf 37).toInt from by first | exact e405 | omega), (show (cf401 38).toInt = (cf 38).toInt from by first | exact oz_e13fc83238 e330 e408 e374 | omega), (show (cf401 43).toInt = (cf 43).toInt from by first | exact oz_e13fc83238 e331 e411 e375 | omega), (show (cf401 44).toInt = (cf 44).toInt from by first | exact oz_e13fc83238 e332 e412 e376 | omega), (show (cf401 45).toInt = (cf 45).toInt from by first | exact oz_e13fc83238 e333 e413 e377 | omega), (show (cf401 46).toInt = (cf 46).toInt from by first | exact oz_e13fc83238 e334 e414 e378 | omega), (show (cf401 47).toInt = (cf 47).toInt from by first | exact oz_e13fc83238 e335 e415 e379 | omega), (show (cf401 41).toInt = (cf 41).toInt from by first | exact oz_e13fc83238 e336 e409 e380 | omega), (show (cf401 55).toInt = (cf 55).toInt from by first | exact oz_e13fc83238 e337 e418 e381 | omega), (show (cf401 59).toInt = (cf 59).toInt from by first | exact oz_e13fc83238 e338 e421 e382 | omega), (show (cf401 33).toInt = (cf 33).toInt from by first | exact e404 | omega), (show (cf 48).toInt ≤ (cf401 48).toInt from by first | exact oz_8f0709eef7 e347 e416 e344 e388 e391 | omega), (show 6 * (cf401 48).toInt ≤ 6 * (cf 48).toInt + (w) from by first | exact oz_070889f416 hws e342 e416 hw2 hw3 e386 | omega), (show (cf 54).toInt ≤ (cf401 54).toInt from by first | exact oz_2a733ea3a3 e343 e417 e387 | omega), (show (cf 42).toInt ≤ (cf401 42).toInt from by first | exact oz_2a733ea3a3 e344 e410 e388 | omega), (show (cf401 54).toInt - (cf 54).toInt ≤ 4 * ((cf401 42).toInt - (cf 42).toInt) from by first | exact oz_d08cb9f65e e345 e410 e417 e389 | omega), (show (cf401 54).toInt - (cf 54).toInt ≤ 4096 * ((cf401 48).toInt - (cf 48).toInt) from by first | exact oz_ffe07573fc e346 e416 e417 e390 | omega), (show (cf401 42).toInt - (cf 42).toInt ≤ 4096 * ((cf401 48).toInt - (cf 48).toInt) from by first | exact oz_7d1305fdee e347 e410 e416 e391 | omega), (show KnT (tf 6).toInt ca368 (cf401 33).toInt from (KnT.eq hkt (by omega))), (show KnS ca368 (cf401 33).toInt (cf401 48).toInt ys from (KnS.eq hks (by omega) (by omega))), (show CaG ca ca368 (cf 33).toInt (cf 48).toInt from (hcg.le (by omega) (by omega))), (show SyR ca368 ys (cf401 48).toInt (cf401 54).toInt tx from (SyR.eq hsr (by omega) (by omega))), (show Ann na ma0 ma366 from han), (show FrC lo hi ma ma366 from hfc), (show ZTe cf401 ta ca368 na ma0 (cf401 48).toInt ys nf ma366 lo hi p0 (tgv (cf 44).toInt (cf 45).toInt) from (fun zz => by exact tys_27 ⟨by omega, by omega, by omega⟩ tgv_rng (by omega) ha_z318 (ha_z356.trans (Ann.b18 han (by omega)).symm) (ha_z359.trans (Ann.b19 han (by omega)).symm) (ha_z362.trans (Ann.b20 han (by omega) (by omega)).symm) (ZTe.ot hts_z318 (by omega) (by omega) (by omega) (by omega) rfl) (Or.inl (by omega)) (Or.inl (by omega)) (ZTe.at hts_z362 (by omega) (by omega) (by omega) (by omega) rfl))), (show R_mp_checkFor (RL_mp_checkStatement d) tf ta na p0 ma cf ca ma366 cf401 ca368 from (Or.inl ⟨z1, ez1, Or.inr ⟨nc2, z318, ez318, ma322, cf323, ca324, e355, z356, ez356, Or.inl ⟨nc357, z359, ez359, Or.inl ⟨nc360, z362, ez362, ma366, cf367, ca368, e399, cf401, e422, rfl, rfl, rfl⟩⟩⟩⟩))⟩) d_Mpg_checkFor_93
      · have nc360 : ¬ z359.toInt < (0 : Int) := mt (i_lt (x := z359) (y := 0)).mpr c360
        refine lv_aload_n S.x S.b d_Mpg_checkFor_67 rfl (lv_at hl 2 rfl) ?_
        refine lv_aload_n S.x S.b d_Mpg_checkFor_68 rfl (lv_at hl 2 rfl) ?_
        refine px_get S k_Mpg hT hw 0 0 19 (v := .ref (r 19)) rfl rfl rfl (by decide) m10_5 d_Mpg_checkFor_69 ?_
        refine lv_iload_n S.x S.b d_Mpg_checkFor_72 rfl (lv_at hl 3 rfl) ?_
        refine px_iald S hT hw 0 15 (n := 2100) (f := (ma322 19)) rfl gp_19 (x := p0) (vp_in_iff.mpr (by first | exact oz_376db002e6 hsr0.2.2.1 hrg_z318.1 g1 hm2 hru.2.1 hrg_z318.2.1 g2 hm3 hru.1 | (constructor <;> omega))) d_Mpg_checkFor_73 ?_
        refine lv_topi (fun z423 ez423 => ?_)
        have lz423 := Int32.le_toInt z423
        have uz423 := Int32.toInt_lt z423
        have ha_z423 : z423 = ma0 19 p0.toNatClampNeg := ez423.trans (Ann.b19 han (by omega)); have hn_z423 : z423.toInt = (ma0 19 p0.toNatClampNeg).toInt := (by rw [ha_z423]); have hev_z423 : ErV ta (tf 6).toInt na ma0 d m2 m3 w3 z423 := (by rw [ha_z423]; exact (hoc.get (by omega))); obtain ⟨hec_z423, h20_z423, hw_z423⟩ := hev_z423.ec; have hrg_z423 := EcV.rng hec_z423
        refine px_callv (pr := []) (px_runV (As := [.int z423]) (rest := []) S (c_mp_checkAlone l D cs ma0 ys (cf323 48).toInt nf (cf323 33).toInt d m2 m3 h r g tf ta pf na wa ca324 ef ea xf xa ma322 cf323 z423  (show 0 ≤ m2 from by first | exact oz_5ba337ca74 hm2 hrg_z318.2.1 hsr0.2.2.1 hrg_z318.1 | omega) (show m3 ≤ (pf 13).toInt from by first | exact oz_8d1dd37214 g1 hru.1 hru.2.1 | omega) (show (pf 13).toInt ≤ 2100 from by first | exact g2 | omega) (show (tf 6).toInt ≤ 2049 from by first | exact g3 | omega) (show (cf323 33).toInt = (cf323 33).toInt from rfl) (show 0 ≤ (cf323 33).toInt from by first | exact oz_16d7fa9f32 e339 g4 | omega) (show (cf323 48).toInt = (cf323 48).toInt from rfl) (show (cf323 38).toInt = nf from by first | exact oz_1687f4cc65 g9 e330 | omega) (show 0 ≤ nf from by first | exact g10 | omega) htk (FsI.le (N' := (pf 13).toInt) hfs (by omega)) hwr (KnT.eq hkt (by omega)) (FnT.eq hft (by omega)) (KnS.eq hks (by omega) (by omega)) hfp han hec_z423 _) hT (pr := []) (pcs := [wdP cs h r g tf ta pf na ma322 wa cf323 ca324 ef ea xf xa]) hw (oX_call (P := (fun A U H => (oP A g U H))) (pr := []) oG_P hw hA hP) (px_recv hT hw 0 0 rfl rfl rfl) m12_213 m12_210 m12_212 ms_12_6 m1_21 q_Mpg_checkAlone ⟨show (4 * d + 13) + 1 ≤ (6 * d + 29) from (by first | exact oz_0ab3c77e19 | omega), show 8 + (3 + 11) + (200 * d + 460) ≤ (260 * d + 1020) from (by first | exact oz_6434b70a93 | omega)⟩ hl.1 rfl (Nat.le_of_ble_eq_true rfl) d_Mpg_checkFor_74 ⟨Nat.le_of_ble_eq_true rfl, Nat.le_of_ble_eq_true rfl⟩) hw hA (fun p428 H locs hp428 hw => ?_)
        obtain ⟨ma426, cf427, rfl, e430, e431, e432, e433, e434, e435, e436, e437, e438, e439, e440, e441⟩ := hp428
        have e430 : KpE cf323 cf427 := e430
        have hkz_e430 := e430.2
        have hkk37_e430 : (cf427 37).toInt = (cf323 37).toInt := (by rw [e430.1 37 (by decide) (by decide) (by decide) (by decide) (by decide)] <;> rfl)
        have hkk43_e430 : (cf427 43).toInt = (cf323 43).toInt := (by rw [e430.1 43 (by decide) (by decide) (by decide) (by decide) (by decide)] <;> rfl)
        have hkk44_e430 : (cf427 44).toInt = (cf323 44).toInt := (by rw [e430.1 44 (by decide) (by decide) (by decide) (by decide) (by decide)] <;> rfl)
        have hkk45_e430 : (cf427 45).toInt = (cf323 45).toInt := (by rw [e430.1 45 (by decide) (by decide) (by decide) (by decide) (by decide)] <;> rfl)
        have hkk41_e430 : (cf427 41).toInt = (cf323 41).toInt := (by rw [e430.1 41 (by decide) (by decide) (by decide) (by decide) (by decide)] <;> rfl)
        have hkk55_e430 : (cf427 55).toInt = (cf323 55).toInt := (by rw [e430.1 55 (by decide) (by decide) (by decide) (by decide) (by decide)] <;> rfl)
        have hkk59_e430 : (cf427 59).toInt = (cf323 59).toInt := (by rw [e430.1 59 (by decide) (by decide) (by decide) (by decide) (by decide)] <;> rfl)
        have hkk42_e430 : (cf427 42).toInt = (cf323 42).toInt := (by rw [e430.1 42 (by decide) (by decide) (by decide) (by decide) (by decide)] <;> rfl)
        have hkk54_e430 : (cf427 54).toInt = (cf323 54).toInt := (by rw [e430.1 54 (by decide) (by decide) (by decide) (by decide) (by decide)] <;> rfl)
        have hkk58_e430 : (cf427 58).toInt = (cf323 58).toInt := (by rw [e430.1 58 (by decide) (by decide) (by decide) (by decide) (by decide)] <;> rfl)
        have e431 : WrV cf427 (tf 6).toInt := e431
        have hwr := e431
        have hw0_e431 := hwr.1
        have e432 : (cf427 33).toInt = (cf323 33).toInt := e432
        have e433 : (cf427 38).toInt = (cf323 38).toInt := e433
        have e434 : (cf427 48).toInt = (cf323 48).toInt := e434
        have e435 : (cf427 46).toInt = (cf323 46).toInt := e435
        have e436 : (cf427 47).toInt = (cf323 47).toInt := e436
        have e437 : (cf427 57).toInt = (cf323 57).toInt := e437
        have e438 : Ann na ma0 ma426 := e438
        have han := e438
        have e439 : FrC m2 m3 ma322 ma426 := e439
        have hfc := hfc.tr e439 (by omega) (by omega)
        have hts_z318 : ZTe cf427 ta ca324 na ma0 (cf427 48).toInt ys nf ma426 (p0.toInt + 1) m1 z318 (tgv (cf 44).toInt (cf 45).toInt) := ZTe.tr hts_z318 (fun q => by omega) e439 (by omega) (CaG.rf (kn := 0) (ns := 5000)) (by omega) (by omega)
        have e440 : ZT0 cf427 (Gk ta ca324 na ma0 (cf323 48).toInt ys nf) na ma426 m2 m3 z423 := e440
        have hty_z423 : ZTe cf427 ta ca324 na ma0 (cf427 48).toInt ys nf ma426 m2 m3 z423 0 := ZTe.to (t := 0) e440 (fun q => by omega) (by omega) (Int.le_refl _) (Int.le_refl _) rfl
        have e441 : R_mp_checkAlone tf ta na ca324 z423 ma322 cf323 ma426 cf427 := e441
        have hw : pw D A s.heap H locs [wdP cs h r g tf ta pf na ma426 wa cf427 ca324 ef ea xf xa] := hw
        refine lv_aload_n S.x S.b d_Mpg_checkFor_77 rfl (lv_at hl 2 rfl) ?_
        refine lv_aload_n S.x S.b d_Mpg_checkFor_78 rfl (lv_at hl 2 rfl) ?_
        refine px_get S k_Mpg hT hw 0 0 20 (v := .ref (r 20)) rfl rfl rfl (by decide) m10_6 d_Mpg_checkFor_79 ?_
        refine lv_iload_n S.x S.b d_Mpg_checkFor_82 rfl (lv_at hl 3 rfl) ?_
        refine px_iald S hT hw 0 16 (n := 2100) (f := (ma426 20)) rfl gp_20 (x := p0) (vp_in_iff.mpr (by first | exact oz_376db002e6 hsr0.2.2.1 hrg_z318.1 g1 hm2 hru.2.1 hrg_z318.2.1 g2 hm3 hru.1 | (constructor <;> omega))) d_Mpg_checkFor_83 ?_
        refine lv_topi (fun z442 ez442 => ?_)
        have lz442 := Int32.le_toInt z442
        have uz442 := Int32.toInt_lt z442
        have ha_z442 : z442 = ma0 20 p0.toNatClampNeg := ez442.trans (Ann.b20 han (by omega) (by omega)); have hn_z442 : z442.toInt = (ma0 20 p0.toNatClampNeg).toInt := (by rw [ha_z442]); have hsc_z442 : ScV ta (tf 6).toInt na ma0 d m3 hi w5 z442 := (by rw [ha_z442]; exact hse); have hrg_z442 := ScV.rng hsc_z442
        refine px_callv (pr := []) (px_runV (As := [.int z442]) (rest := []) S (c_mp_checkBody l D cs ma0 ys nf tx d m3 hi w5 h r g tf ta pf na wa ef ea xf xa ma426 cf427 ca324 z442  (show 0 ≤ m3 from by first | exact oz_df1d141c94 hm3 hm2 hsr0.2.2.1 hrg_z318.1 hrg_z318.2.1 | omega) (show hi ≤ (pf 13).toInt from by first | exact g1 | omega) (show (pf 13).toInt ≤ 2100 from by first | exact g2 | omega) (show (tf 6).toInt ≤ 2049 from by first | exact g3 | omega) (show 0 ≤ (cf427 33).toInt from by first | exact oz_9921a0d148 e432 e339 g4 | omega) (show 0 ≤ w5 from by first | exact hw5 | omega) (show 6 * (cf427 33).toInt + w5 ≤ 6540 from by first | exact oz_e7df975688 hws e432 g6 hw2 hw3 e340 | omega) (show 0 ≤ (cf427 48).toInt from by first | exact oz_cfab8a20ba e434 e347 g14 g15 e343 e345 | omega) (show 6 * (cf427 48).toInt + w5 ≤ 6540 from by first | exact oz_e7df975688 hws e434 g8 hw2 hw3 e342 | omega) (show (cf427 38).toInt = nf from by first | exact oz_e13fc83238 g9 e433 e330 | omega) (show 0 ≤ nf from by first | exact g10 | omega) (show 0 ≤ (cf427 37).toInt from by first | exact oz_e2fef14871 hkk37_e430 e329 g4 | omega) (show 0 ≤ (cf427 54).toInt from by first | exact oz_9921a0d148 hkk54_e430 e343 g12 | omega) (show (cf427 54).toInt ≤ 4096 * (cf427 48).toInt from by first | exact oz_591883cc22 e434 hkk54_e430 e346 g13 | omega) (show 0 ≤ (cf427 42).toInt from by first | exact oz_4d7634dc29 hkk42_e430 e345 g14 e343 | omega) (show (cf427 42).toInt ≤ 4 + 4096 * (cf427 48).toInt from by first | exact oz_28f1d15c37 e434 hkk42_e430 e347 g15 | omega) (show 0 ≤ (cf427 44).toInt from by first | exact oz_e2fef14871 hkk44_e430 e332 g16 | omega) (show 0 ≤ (cf427 45).toInt from by first | exact oz_e2fef14871 hkk45_e430 e333 g17 | omega) (show ys ≤ (cf427 48).toInt ∨ tx = 1 from by omega) (show 0 ≤ (cf427 46).toInt from by first | exact oz_e2fef14871 e435 e334 g19 | omega) (show (cf427 46).toInt ≤ 1 from by first | exact oz_916d756328 e435 e334 g20 | omega) (show 0 ≤ (cf427 47).toInt from by first | exact oz_e2fef14871 e436 e335 g21 | omega) (show (cf427 47).toInt ≤ 1 from by first | exact oz_916d756328 e436 e335 g22 | omega) (show (cf427 44).toInt + (d : Int) ≤ 400 from by first | exact oz_1d9764fd28 g29 hkk44_e430 e332 | omega) (show (cf427 45).toInt + (d : Int) ≤ 400 from by first | exact oz_1d9764fd28 g30 hkk45_e430 e333 | omega) (show 0 ≤ (cf427 43).toInt from by first | exact oz_e2fef14871 hkk43_e430 e331 g25 | omega) (show (cf427 43).toInt < 2100 from by first | exact oz_740a8b247c hkk43_e430 e331 g26 | omega) (show tx = 0 from by first | exact g27 | omega) (show (cf427 44).toInt + (d : Int) + 1 ≤ 400 from by first | exact oz_e363459920 g29 hkk44_e430 e332 | omega) htk (FsI.le (N' := (pf 13).toInt) hfs (by omega)) hwr (KnT.eq hkt (by omega)) (FnT.eq hft (by omega)) (KnS.eq hks (by omega) (by omega)) hfp (SyR.eq hsr (by omega) (by omega)) han (show txo (cf427 43).toInt = tx from by rw [show (cf427 43).toInt = (cf 43).toInt by omega]; exact htx) hsc_z442 hLS _) hT (pr := []) (pcs := [wdP cs h r g tf ta pf na ma426 wa cf427 ca324 ef ea xf xa]) hw (oX_call (P := (fun A U H => (oP A g U H))) (pr := []) oG_P hw hA hP) (px_recv hT hw 0 0 rfl rfl rfl) m13_37 m13_34 m13_36 ms_13_6 m1_21 q_Mpg_checkBody ⟨show (6 * d + 27) + 1 ≤ (6 * d + 29) from (by first | exact oz_0a7d18f368 | omega), show 8 + (2 + 11) + (260 * d + 940) ≤ (260 * d + 1020) from (by first | exact oz_884c966d29 | omega)⟩ hl.1 rfl (Nat.le_of_ble_eq_true rfl) d_Mpg_checkFor_84 ⟨Nat.le_of_ble_eq_true rfl, Nat.le_of_ble_eq_true rfl⟩) hw hA (fun p449 H locs hp449 hw => ?_)
        obtain ⟨ma446, cf447, ca448, rfl, e451, e452, e453, e454, e455, e456, e457, e458, e459, e460, e461, e462, e463, e464, e465, e466, e467, e468, e469, e470, e471, e472, e473, e474, e475, e476, e477, e478, e479⟩ := hp449
        have e451 : (cf447 30).toInt = 0 → (cf427 30).toInt = 0 := e451
        have e452 : WrV cf447 (tf 6).toInt := e452
        have hwr := e452
        have hw0_e452 := hwr.1
        have e453 : (cf447 37).toInt = (cf427 37).toInt := e453
        have e454 : (cf447 38).toInt = (cf427 38).toInt := e454
        have e455 : (cf447 43).toInt = (cf427 43).toInt := e455
        have e456 : (cf447 44).toInt = (cf427 44).toInt := e456
        have e457 : (cf447 45).toInt = (cf427 45).toInt := e457
        have e458 : (cf447 46).toInt = (cf427 46).toInt := e458
        have e459 : (cf447 47).toInt = (cf427 47).toInt := e459
        have e460 : (cf447 41).toInt = (cf427 41).toInt := e460
        have e461 : (cf447 55).toInt = (cf427 55).toInt := e461
        have e462 : (cf447 59).toInt = (cf427 59).toInt := e462
        have e463 : (cf427 33).toInt ≤ (cf447 33).toInt := e463
        have e464 : 6 * (cf447 33).toInt ≤ 6 * (cf427 33).toInt + (w5) := e464
        have e465 : (cf427 48).toInt ≤ (cf447 48).toInt := e465
        have e466 : 6 * (cf447 48).toInt ≤ 6 * (cf427 48).toInt + (w5) := e466
        have e467 : (cf427 54).toInt ≤ (cf447 54).toInt := e467
        have e468 : (cf427 42).toInt ≤ (cf447 42).toInt := e468
        have e469 : (cf447 54).toInt - (cf427 54).toInt ≤ 4 * ((cf447 42).toInt - (cf427 42).toInt) := e469
        have e470 : (cf447 54).toInt - (cf427 54).toInt ≤ 4096 * ((cf447 48).toInt - (cf427 48).toInt) := e470
        have e471 : (cf447 42).toInt - (cf427 42).toInt ≤ 4096 * ((cf447 48).toInt - (cf427 48).toInt) := e471
        have e472 : KnT (tf 6).toInt ca448 (cf447 33).toInt := e472
        have hkt := e472
        have hk11_e472 := hkt.1
        have e473 : KnS ca448 (cf447 33).toInt (cf447 48).toInt ys := e473
        have hks := e473
        have e474 : CaG ca324 ca448 (cf427 33).toInt (cf427 48).toInt := e474
        have hcg := hcg.tr e474 (by omega) (by omega)
        have hft := hft.cg e474
        have hfp := hfp.cg e474
        have e475 : SyR ca448 ys (cf447 48).toInt (cf447 54).toInt tx := e475
        have hsr := e475
        have e476 : Ann na ma0 ma446 := e476
        have han := e476
        have e477 : FrC m3 hi ma426 ma446 := e477
        have hfc := hfc.tr e477 (by omega) (by omega)
        have hts_z318 : ZTe cf447 ta ca448 na ma0 (cf447 48).toInt ys nf ma446 (p0.toInt + 1) m1 z318 (tgv (cf 44).toInt (cf 45).toInt) := ZTe.tr hts_z318 (fun q => by omega) e477 (by omega) e474 (by omega) (by omega)
        have hty_z423 : ZTe cf447 ta ca448 na ma0 (cf447 48).toInt ys nf ma446 m2 m3 z423 0 := ZTe.tr hty_z423 (fun q => by omega) e477 (by omega) e474 (by omega) (by omega)
        have e478 : ZTe cf447 ta ca448 na ma0 (cf447 48).toInt ys nf ma446 m3 hi z442 4 := e478
        have hts_z442 : ZTe cf447 ta ca448 na ma0 (cf447 48).toInt ys nf ma446 m3 hi z442 4 := ZTe.to e478 (fun q => by omega) (by omega) (Int.le_refl _) (Int.le_refl _) rfl
        have e479 : R_mp_checkBody (RL_mp_checkStatement d) tf ta na z442 ma426 cf427 ca324 ma446 cf447 ca448 := e479
        have hw : pw D A s.heap H locs [wdP cs h r g tf ta pf na ma446 wa cf447 ca448 ef ea xf xa] := hw
        refine lv_aload_n S.x S.b d_Mpg_checkFor_87 rfl (lv_at hl 2 rfl) ?_
        refine lv_iload_n S.x S.b d_Mpg_checkFor_88 rfl (lv_at hl 1 rfl) ?_
        refine lv_iload_n S.x S.b d_Mpg_checkFor_89 rfl (lv_at hl 0 rfl) ?_
        refine px_callv (pr := []) (px_runV (As := [.int (cf 33), .int (cf 37)]) (rest := []) S (c_mp_leave l D cs h r g tf ta pf na ma446 wa ca448 ef ea xf xa cf447 (cf 33) (cf 37)  htk _) hT (pr := []) (pcs := [wdP cs h r g tf ta pf na ma446 wa cf447 ca448 ef ea xf xa]) hw px_X.tt (px_recv hT hw 0 0 rfl rfl rfl) m12_209 m12_206 m12_208 ms_12_5 m1_21 q_Mpg_leave ⟨show 0 + 1 ≤ (6 * d + 29) from (by first | exact oz_cfa904bb27 | omega), show 8 + (3 + 11) + 0 ≤ (260 * d + 1020) from (by first | exact oz_480c6b4fdb | omega)⟩ hl.1 rfl (Nat.le_of_ble_eq_true rfl) d_Mpg_checkFor_90 ⟨Nat.le_of_ble_eq_true rfl, Nat.le_of_ble_eq_true rfl⟩) hw hA (fun p482 H locs hp482 hw => ?_)
        obtain ⟨cf481, rfl, e484, e485, e486, e487, e488, e489, e490, e491, e492, e493, e494, e495, e496, e497, e498, e499, e500, e501, e502⟩ := hp482
        have e484 : (cf481 33).toInt = (cf 33).toInt := e484
        have e485 : (cf481 37).toInt = (cf 37).toInt := e485
        have e486 : (cf481 30).toInt = (cf447 30).toInt := e486
        have e487 : (cf481 31).toInt = (cf447 31).toInt := e487
        have e488 : (cf481 38).toInt = (cf447 38).toInt := e488
        have e489 : (cf481 41).toInt = (cf447 41).toInt := e489
        have e490 : (cf481 42).toInt = (cf447 42).toInt := e490
        have e491 : (cf481 43).toInt = (cf447 43).toInt := e491
        have e492 : (cf481 44).toInt = (cf447 44).toInt := e492
        have e493 : (cf481 45).toInt = (cf447 45).toInt := e493
        have e494 : (cf481 46).toInt = (cf447 46).toInt := e494
        have e495 : (cf481 47).toInt = (cf447 47).toInt := e495
        have e496 : (cf481 48).toInt = (cf447 48).toInt := e496
        have e497 : (cf481 54).toInt = (cf447 54).toInt := e497
        have e498 : (cf481 55).toInt = (cf447 55).toInt := e498
        have e499 : (cf481 57).toInt = (cf447 57).toInt := e499
        have e500 : (cf481 58).toInt = (cf447 58).toInt := e500
        have e501 : (cf481 59).toInt = (cf447 59).toInt := e501
        have e502 : R_mp_leave (cf 33) (cf 37) cf447 cf481 := e502
        have hwr : WrV cf481 (tf 6).toInt := WrV.eq hwr (by omega) (by omega)
        have hkt := KnT.eq (n' := (cf481 33).toInt) (KnT.cg hkt0 hcg (Int.le_refl _)) (by omega)
        have hks := KnS.eq (n' := (cf481 33).toInt) (KnS.cg hks0 hcg (Int.le_refl _) (Int.le_refl _) (n2 := (cf481 48).toInt) (by omega)) (by omega) rfl
        have hts_z318 : ZTe cf481 ta ca448 na ma0 (cf481 48).toInt ys nf ma446 (p0.toInt + 1) m1 z318 (tgv (cf 44).toInt (cf 45).toInt) := ZTe.to hts_z318 (fun q => by omega) (by omega) (Int.le_refl _) (Int.le_refl _) rfl
        have hty_z423 : ZTe cf481 ta ca448 na ma0 (cf481 48).toInt ys nf ma446 m2 m3 z423 0 := ZTe.to hty_z423 (fun q => by omega) (by omega) (Int.le_refl _) (Int.le_refl _) rfl
        have hts_z442 : ZTe cf481 ta ca448 na ma0 (cf481 48).toInt ys nf ma446 m3 hi z442 4 := ZTe.to hts_z442 (fun q => by omega) (by omega) (Int.le_refl _) (Int.le_refl _) rfl
        have hw : pw D A s.heap H locs [wdP cs h r g tf ta pf na ma446 wa cf481 ca448 ef ea xf xa] := hw
        exact px_vret S hr hlk hAe hw (Nat.le_of_ble_eq_true rfl) (Nat.le_of_ble_eq_true rfl) (⟨ma446, cf481, ca448, rfl, (show (cf481 30).toInt = 0 → (cf 30).toInt = 0 from by omega), (show WrV cf481 (tf 6).toInt from hwr), (show (cf481 37).toInt = (cf 37).toInt from by first | exact e485 | omega), (show (cf481 38).toInt = (cf 38).toInt from by first | exact oz_ff3084e3c1 e330 e488 e433 e454 | omega), (show (cf481 43).toInt = (cf 43).toInt from by first | exact oz_ff3084e3c1 e331 e491 hkk43_e430 e455 | omega), (show (cf481 44).toInt = (cf 44).toInt from by first | exact oz_ff3084e3c1 e332 e492 hkk44_e430 e456 | omega), (show (cf481 45).toInt = (cf 45).toInt from by first | exact oz_ff3084e3c1 e333 e493 hkk45_e430 e457 | omega), (show (cf481 46).toInt = (cf 46).toInt from by first | exact oz_ff3084e3c1 e334 e494 e435 e458 | omega), (show (cf481 47).toInt = (cf 47).toInt from by first | exact oz_ff3084e3c1 e335 e495 e436 e459 | omega), (show (cf481 41).toInt = (cf 41).toInt from by first | exact oz_ff3084e3c1 e336 e489 hkk41_e430 e460 | omega), (show (cf481 55).toInt = (cf 55).toInt from by first | exact oz_ff3084e3c1 e337 e498 hkk55_e430 e461 | omega), (show (cf481 59).toInt = (cf 59).toInt from by first | exact oz_ff3084e3c1 e338 e501 hkk59_e430 e462 | omega), (show (cf481 33).toInt = (cf 33).toInt from by first | exact e484 | omega), (show (cf 48).toInt ≤ (cf481 48).toInt from by first | exact oz_de1de8abaa e347 e496 e344 e434 e465 | omega), (show 6 * (cf481 48).toInt ≤ 6 * (cf 48).toInt + (w) from by first | exact oz_28aba2ef1b hws e342 e496 hw2 hw3 e434 e466 | omega), (show (cf 54).toInt ≤ (cf481 54).toInt from by first | exact oz_72984fb0b0 e343 e497 hkk54_e430 e467 | omega), (show (cf 42).toInt ≤ (cf481 42).toInt from by first | exact oz_177e2427a4 e345 e490 e343 hkk42_e430 e468 | omega), (show (cf481 54).toInt - (cf 54).toInt ≤ 4 * ((cf481 42).toInt - (cf 42).toInt) from by first | exact oz_d1adcf9e6d e345 e490 e497 hkk42_e430 hkk54_e430 e469 | omega), (show (cf481 54).toInt - (cf 54).toInt ≤ 4096 * ((cf481 48).toInt - (cf 48).toInt) from by first | exact oz_517c5935f5 e346 e496 e497 e434 hkk54_e430 e470 | omega), (show (cf481 42).toInt - (cf 42).toInt ≤ 4096 * ((cf481 48).toInt - (cf 48).toInt) from by first | exact oz_ec93b785c0 e347 e490 e496 e434 hkk42_e430 e471 | omega), (show KnT (tf 6).toInt ca448 (cf481 33).toInt from (KnT.eq hkt (by omega))), (show KnS ca448 (cf481 33).toInt (cf481 48).toInt ys from (KnS.eq hks (by omega) (by omega))), (show CaG ca ca448 (cf 33).toInt (cf 48).toInt from (hcg.le (by omega) (by omega))), (show SyR ca448 ys (cf481 48).toInt (cf481 54).toInt tx from (SyR.eq hsr (by omega) (by omega))), (show Ann na ma0 ma446 from han), (show FrC lo hi ma ma446 from hfc), (show ZTe cf481 ta ca448 na ma0 (cf481 48).toInt ys nf ma446 lo hi p0 (tgv (cf 44).toInt (cf 45).toInt) from (fun zz => by exact tys_27 ⟨by omega, by omega, by omega⟩ tgv_rng (by omega) ha_z318 (ha_z356.trans (Ann.b18 han (by omega)).symm) (ha_z423.trans (Ann.b19 han (by omega)).symm) (ha_z442.trans (Ann.b20 han (by omega) (by omega)).symm) (ZTe.ot hts_z318 (by omega) (by omega) (by omega) (by omega) rfl) (Or.inl (by omega)) (ZTe.ot hty_z423 (by omega) (by omega) (by omega) (by omega) rfl) (ZTe.at hts_z442 (by omega) (by omega) (by omega) (by omega) rfl))), (show R_mp_checkFor (RL_mp_checkStatement d) tf ta na p0 ma cf ca ma446 cf481 ca448 from (Or.inl ⟨z1, ez1, Or.inr ⟨nc2, z318, ez318, ma322, cf323, ca324, e355, z356, ez356, Or.inl ⟨nc357, z359, ez359, Or.inr ⟨nc360, z423, ez423, ma426, cf427, e441, z442, ez442, ma446, cf447, ca448, e479, cf481, e502, rfl, rfl, rfl⟩⟩⟩⟩))⟩) d_Mpg_checkFor_93
    · have nc357 : ¬ z356.toInt < (0 : Int) := mt (i_lt (x := z356) (y := 0)).mpr c357
      refine lv_aload_n S.x S.b d_Mpg_checkFor_46 rfl (lv_at hl 2 rfl) ?_
      refine lv_aload_n S.x S.b d_Mpg_checkFor_47 rfl (lv_at hl 2 rfl) ?_
      refine px_get S k_Mpg hT hw 0 0 18 (v := .ref (r 18)) rfl rfl rfl (by decide) m10_3 d_Mpg_checkFor_48 ?_
      refine lv_iload_n S.x S.b d_Mpg_checkFor_51 rfl (lv_at hl 3 rfl) ?_
      refine px_iald S hT hw 0 14 (n := 2100) (f := (ma322 18)) rfl gp_18 (x := p0) (vp_in_iff.mpr (by first | exact oz_376db002e6 hsr0.2.2.1 hrg_z318.1 g1 hm2 hru.2.1 hrg_z318.2.1 g2 hm3 hru.1 | (constructor <;> omega))) d_Mpg_checkFor_52 ?_
      refine lv_topi (fun z503 ez503 => ?_)
      have lz503 := Int32.le_toInt z503
      have uz503 := Int32.toInt_lt z503
      have ha_z503 : z503 = ma0 18 p0.toNatClampNeg := ez503.trans (Ann.b18 han (by omega)); have hn_z503 : z503.toInt = (ma0 18 p0.toNatClampNeg).toInt := (by rw [ha_z503]); have hev_z503 : ErV ta (tf 6).toInt na ma0 d m1 m2 w2 z503 := (by rw [ha_z503]; exact (hob.get (by omega))); obtain ⟨hec_z503, h20_z503, hw_z503⟩ := hev_z503.ec; have hrg_z503 := EcV.rng hec_z503
      refine lv_iconst (v := 1) S.x S.b d_Mpg_checkFor_53 (by decide) ?_
      refine px_calli (pr := []) (px_runV (As := [.int z503, .int 1]) (rest := []) S (c_S_check l D cs ma0 ys (cf323 48).toInt nf (cf323 33).toInt d m1 m2 h r g tf ta pf na wa ca324 ef ea xf xa ma322 cf323 z503 1  (show 0 ≤ m1 from by first | exact oz_5b675c0aaa hrg_z318.2.1 hsr0.2.2.1 hrg_z318.1 | omega) (show m2 ≤ (pf 13).toInt from by first | exact oz_cabfece9a2 g1 hm3 hru.1 hru.2.1 | omega) (show (pf 13).toInt ≤ 2100 from by first | exact g2 | omega) (show (tf 6).toInt ≤ 2049 from by first | exact g3 | omega) (show (cf323 33).toInt = (cf323 33).toInt from rfl) (show 0 ≤ (cf323 33).toInt from by first | exact oz_16d7fa9f32 e339 g4 | omega) (show (cf323 48).toInt = (cf323 48).toInt from rfl) (show (cf323 38).toInt = nf from by first | exact oz_1687f4cc65 g9 e330 | omega) (show 0 ≤ nf from by first | exact g10 | omega) (show 0 ≤ (1 : Int) from by first | exact oz_19c3a41681 | omega) (show (1 : Int) ≤ 1 from by first | exact oz_f9181dc4bb | omega) htk (FsI.le (N' := (pf 13).toInt) hfs (by omega)) hwr (KnT.eq hkt (by omega)) (FnT.eq hft (by omega)) (KnS.eq hks (by omega) (by omega)) hfp han hec_z503 _) hT (pr := []) (pcs := [wdP cs h r g tf ta pf na ma322 wa cf323 ca324 ef ea xf xa]) hw (oX_call (P := (fun A U H => (oP A g U H))) (pr := []) oG_P hw hA hP) (px_recv hT hw 0 0 rfl rfl rfl) m12_217 m12_214 m12_216 ms_12_7 m1_21 q_Mpg_check ⟨show (4 * d + 12) + 1 ≤ (6 * d + 29) from (by first | exact oz_368b1ff356 | omega), show 8 + (8 + 11) + (200 * d + 420) ≤ (260 * d + 1020) from (by first | exact oz_2a3a86d2be | omega)⟩ hl.1 rfl (Nat.le_of_ble_eq_true rfl) d_Mpg_checkFor_54 ⟨Nat.le_of_ble_eq_true rfl, Nat.le_of_ble_eq_true rfl⟩) hw hA (fun v509 p508 H locs hp508 hw => ?_)
      obtain ⟨ma506, cf507, rfl, e510, e511, e512, e513, e514, e515, e516, e517, e518, e519, e520, e521, e522, e523, e524, e525⟩ := hp508
      have e510 : KpE cf323 cf507 := e510
      have hkz_e510 := e510.2
      have hkk37_e510 : (cf507 37).toInt = (cf323 37).toInt := (by rw [e510.1 37 (by decide) (by decide) (by decide) (by decide) (by decide)] <;> rfl)
      have hkk43_e510 : (cf507 43).toInt = (cf323 43).toInt := (by rw [e510.1 43 (by decide) (by decide) (by decide) (by decide) (by decide)] <;> rfl)
      have hkk44_e510 : (cf507 44).toInt = (cf323 44).toInt := (by rw [e510.1 44 (by decide) (by decide) (by decide) (by decide) (by decide)] <;> rfl)
      have hkk45_e510 : (cf507 45).toInt = (cf323 45).toInt := (by rw [e510.1 45 (by decide) (by decide) (by decide) (by decide) (by decide)] <;> rfl)
      have hkk41_e510 : (cf507 41).toInt = (cf323 41).toInt := (by rw [e510.1 41 (by decide) (by decide) (by decide) (by decide) (by decide)] <;> rfl)
      have hkk55_e510 : (cf507 55).toInt = (cf323 55).toInt := (by rw [e510.1 55 (by decide) (by decide) (by decide) (by decide) (by decide)] <;> rfl)
      have hkk59_e510 : (cf507 59).toInt = (cf323 59).toInt := (by rw [e510.1 59 (by decide) (by decide) (by decide) (by decide) (by decide)] <;> rfl)
      have hkk42_e510 : (cf507 42).toInt = (cf323 42).toInt := (by rw [e510.1 42 (by decide) (by decide) (by decide) (by decide) (by decide)] <;> rfl)
      have hkk54_e510 : (cf507 54).toInt = (cf323 54).toInt := (by rw [e510.1 54 (by decide) (by decide) (by decide) (by decide) (by decide)] <;> rfl)
      have hkk58_e510 : (cf507 58).toInt = (cf323 58).toInt := (by rw [e510.1 58 (by decide) (by decide) (by decide) (by decide) (by decide)] <;> rfl)
      have e511 : WrV cf507 (tf 6).toInt := e511
      have hwr := e511
      have hw0_e511 := hwr.1
      have e512 : (cf507 33).toInt = (cf323 33).toInt := e512
      have e513 : (cf507 38).toInt = (cf323 38).toInt := e513
      have e514 : (cf507 48).toInt = (cf323 48).toInt := e514
      have e515 : (cf507 46).toInt = (cf323 46).toInt := e515
      have e516 : (cf507 47).toInt = (cf323 47).toInt := e516
      have e517 : (cf507 57).toInt = (cf323 57).toInt := e517
      have e518 : Ann na ma0 ma506 := e518
      have han := e518
      have e519 : FrC m1 m2 ma322 ma506 := e519
      have hfc := hfc.tr e519 (by omega) (by omega)
      have hts_z318 : ZTe cf507 ta ca324 na ma0 (cf507 48).toInt ys nf ma506 (p0.toInt + 1) m1 z318 (tgv (cf 44).toInt (cf 45).toInt) := ZTe.tr hts_z318 (fun q => by omega) e519 (by omega) (CaG.rf (kn := 0) (ns := 5000)) (by omega) (by omega)
      have e520 : 0 ≤ v509.toInt := e520
      have e521 : v509.toInt ≤ 4 := e521
      have e522 : NmJ ta ca324 na ma506 (cf323 33).toInt z503 v509.toInt := e522
      have e523 : ZTy cf507 (Gk ta ca324 na ma0 (cf323 48).toInt ys nf) na ma506 m1 m2 z503 v509.toInt := e523
      have e524 : ZNm cf507 (1 : Int) v509.toInt := e524
      have hty_z503 : ZTe cf507 ta ca324 na ma0 (cf507 48).toInt ys nf ma506 m1 m2 z503 0 := ZTe.to (t := 0) (ZTy.num e523 e524) (fun q => by omega) (by omega) (Int.le_refl _) (Int.le_refl _) rfl
      have e525 : RL_mp_check d tf ta na ca324 z503 (1 : Int32) ma322 cf323 ma506 cf507 v509 := e525
      have e525X : RX_mp_check tf ta na ca324 z503 (1 : Int32) ma322 cf323 ma506 cf507 v509 := ⟨d, e525⟩
      have hw : pw D A s.heap H locs [wdP cs h r g tf ta pf na ma506 wa cf507 ca324 ef ea xf xa] := hw
      have lv509 := Int32.le_toInt v509
      have uv509 := Int32.toInt_lt v509
      refine lv_pop S.x S.b d_Mpg_checkFor_57 rfl ?_
      refine lv_aload_n S.x S.b d_Mpg_checkFor_58 rfl (lv_at hl 2 rfl) ?_
      refine px_get S k_Mpg hT hw 0 0 19 (v := .ref (r 19)) rfl rfl rfl (by decide) m10_5 d_Mpg_checkFor_59 ?_
      refine lv_iload_n S.x S.b d_Mpg_checkFor_62 rfl (lv_at hl 3 rfl) ?_
      refine px_iald S hT hw 0 15 (n := 2100) (f := (ma506 19)) rfl gp_19 (x := p0) (vp_in_iff.mpr (by first | exact oz_376db002e6 hsr0.2.2.1 hrg_z318.1 g1 hm2 hru.2.1 hrg_z318.2.1 g2 hm3 hru.1 | (constructor <;> omega))) d_Mpg_checkFor_63 ?_
      refine lv_topi (fun z526 ez526 => ?_)
      have lz526 := Int32.le_toInt z526
      have uz526 := Int32.toInt_lt z526
      have ha_z526 : z526 = ma0 19 p0.toNatClampNeg := ez526.trans (Ann.b19 han (by omega)); have hn_z526 : z526.toInt = (ma0 19 p0.toNatClampNeg).toInt := (by rw [ha_z526])
      refine lv_if_lt (tgt := 77) S.x S.b d_Mpg_checkFor_64 (by decide) (fun c527 => ?_) (fun c527 => ?_)
      · have nc527 : z526.toInt < (0 : Int) := (i_lt (x := z526) (y := 0)).mp c527
        refine lv_aload_n S.x S.b d_Mpg_checkFor_77 rfl (lv_at hl 2 rfl) ?_
        refine lv_aload_n S.x S.b d_Mpg_checkFor_78 rfl (lv_at hl 2 rfl) ?_
        refine px_get S k_Mpg hT hw 0 0 20 (v := .ref (r 20)) rfl rfl rfl (by decide) m10_6 d_Mpg_checkFor_79 ?_
        refine lv_iload_n S.x S.b d_Mpg_checkFor_82 rfl (lv_at hl 3 rfl) ?_
        refine px_iald S hT hw 0 16 (n := 2100) (f := (ma506 20)) rfl gp_20 (x := p0) (vp_in_iff.mpr (by first | exact oz_376db002e6 hsr0.2.2.1 hrg_z318.1 g1 hm2 hru.2.1 hrg_z318.2.1 g2 hm3 hru.1 | (constructor <;> omega))) d_Mpg_checkFor_83 ?_
        refine lv_topi (fun z529 ez529 => ?_)
        have lz529 := Int32.le_toInt z529
        have uz529 := Int32.toInt_lt z529
        have ha_z529 : z529 = ma0 20 p0.toNatClampNeg := ez529.trans (Ann.b20 han (by omega) (by omega)); have hn_z529 : z529.toInt = (ma0 20 p0.toNatClampNeg).toInt := (by rw [ha_z529]); have hsc_z529 : ScV ta (tf 6).toInt na ma0 d m3 hi w5 z529 := (by rw [ha_z529]; exact hse); have hrg_z529 := ScV.rng hsc_z529
        refine px_callv (pr := []) (px_runV (As := [.int z529]) (rest := []) S (c_mp_checkBody l D cs ma0 ys nf tx d m3 hi w5 h r g tf ta pf na wa ef ea xf xa ma506 cf507 ca324 z529  (show 0 ≤ m3 from by first | exact oz_df1d141c94 hm3 hm2 hsr0.2.2.1 hrg_z318.1 hrg_z318.2.1 | omega) (show hi ≤ (pf 13).toInt from by first | exact g1 | omega) (show (pf 13).toInt ≤ 2100 from by first | exact g2 | omega) (show (tf 6).toInt ≤ 2049 from by first | exact g3 | omega) (show 0 ≤ (cf507 33).toInt from by first | exact oz_9921a0d148 e512 e339 g4 | omega) (show 0 ≤ w5 from by first | exact hw5 | omega) (show 6 * (cf507 33).toInt + w5 ≤ 6540 from by first | exact oz_e7df975688 hws e512 g6 hw2 hw3 e340 | omega) (show 0 ≤ (cf507 48).toInt from by first | exact oz_cfab8a20ba e514 e347 g14 g15 e343 e345 | omega) (show 6 * (cf507 48).toInt + w5 ≤ 6540 from by first | exact oz_e7df975688 hws e514 g8 hw2 hw3 e342 | omega) (show (cf507 38).toInt = nf from by first | exact oz_e13fc83238 g9 e513 e330 | omega) (show 0 ≤ nf from by first | exact g10 | omega) (show 0 ≤ (cf507 37).toInt from by first | exact oz_e2fef14871 hkk37_e510 e329 g4 | omega) (show 0 ≤ (cf507 54).toInt from by first | exact oz_9921a0d148 hkk54_e510 e343 g12 | omega) (show (cf507 54).toInt ≤ 4096 * (cf507 48).toInt from by first | exact oz_591883cc22 e514 hkk54_e510 e346 g13 | omega) (show 0 ≤ (cf507 42).toInt from by first | exact oz_4d7634dc29 hkk42_e510 e345 g14 e343 | omega) (show (cf507 42).toInt ≤ 4 + 4096 * (cf507 48).toInt from by first | exact oz_28f1d15c37 e514 hkk42_e510 e347 g15 | omega) (show 0 ≤ (cf507 44).toInt from by first | exact oz_e2fef14871 hkk44_e510 e332 g16 | omega) (show 0 ≤ (cf507 45).toInt from by first | exact oz_e2fef14871 hkk45_e510 e333 g17 | omega) (show ys ≤ (cf507 48).toInt ∨ tx = 1 from by omega) (show 0 ≤ (cf507 46).toInt from by first | exact oz_e2fef14871 e515 e334 g19 | omega) (show (cf507 46).toInt ≤ 1 from by first | exact oz_916d756328 e515 e334 g20 | omega) (show 0 ≤ (cf507 47).toInt from by first | exact oz_e2fef14871 e516 e335 g21 | omega) (show (cf507 47).toInt ≤ 1 from by first | exact oz_916d756328 e516 e335 g22 | omega) (show (cf507 44).toInt + (d : Int) ≤ 400 from by first | exact oz_1d9764fd28 g29 hkk44_e510 e332 | omega) (show (cf507 45).toInt + (d : Int) ≤ 400 from by first | exact oz_1d9764fd28 g30 hkk45_e510 e333 | omega) (show 0 ≤ (cf507 43).toInt from by first | exact oz_e2fef14871 hkk43_e510 e331 g25 | omega) (show (cf507 43).toInt < 2100 from by first | exact oz_740a8b247c hkk43_e510 e331 g26 | omega) (show tx = 0 from by first | exact g27 | omega) (show (cf507 44).toInt + (d : Int) + 1 ≤ 400 from by first | exact oz_e363459920 g29 hkk44_e510 e332 | omega) htk (FsI.le (N' := (pf 13).toInt) hfs (by omega)) hwr (KnT.eq hkt (by omega)) (FnT.eq hft (by omega)) (KnS.eq hks (by omega) (by omega)) hfp (SyR.eq hsr (by omega) (by omega)) han (show txo (cf507 43).toInt = tx from by rw [show (cf507 43).toInt = (cf 43).toInt by omega]; exact htx) hsc_z529 hLS _) hT (pr := []) (pcs := [wdP cs h r g tf ta pf na ma506 wa cf507 ca324 ef ea xf xa]) hw (oX_call (P := (fun A U H => (oP A g U H))) (pr := []) oG_P hw hA hP) (px_recv hT hw 0 0 rfl rfl rfl) m13_37 m13_34 m13_36 ms_13_6 m1_21 q_Mpg_checkBody ⟨show (6 * d + 27) + 1 ≤ (6 * d + 29) from (by first | exact oz_0a7d18f368 | omega), show 8 + (2 + 11) + (260 * d + 940) ≤ (260 * d + 1020) from (by first | exact oz_884c966d29 | omega)⟩ hl.1 rfl (Nat.le_of_ble_eq_true rfl) d_Mpg_checkFor_84 ⟨Nat.le_of_ble_eq_true rfl, Nat.le_of_ble_eq_true rfl⟩) hw hA (fun p536 H locs hp536 hw => ?_)
        obtain ⟨ma533, cf534, ca535, rfl, e538, e539, e540, e541, e542, e543, e544, e545, e546, e547, e548, e549, e550, e551, e552, e553, e554, e555, e556, e557, e558, e559, e560, e561, e562, e563, e564, e565, e566⟩ := hp536
        have e538 : (cf534 30).toInt = 0 → (cf507 30).toInt = 0 := e538
        have e539 : WrV cf534 (tf 6).toInt := e539
        have hwr := e539
        have hw0_e539 := hwr.1
        have e540 : (cf534 37).toInt = (cf507 37).toInt := e540
        have e541 : (cf534 38).toInt = (cf507 38).toInt := e541
        have e542 : (cf534 43).toInt = (cf507 43).toInt := e542
        have e543 : (cf534 44).toInt = (cf507 44).toInt := e543
        have e544 : (cf534 45).toInt = (cf507 45).toInt := e544
        have e545 : (cf534 46).toInt = (cf507 46).toInt := e545
        have e546 : (cf534 47).toInt = (cf507 47).toInt := e546
        have e547 : (cf534 41).toInt = (cf507 41).toInt := e547
        have e548 : (cf534 55).toInt = (cf507 55).toInt := e548
        have e549 : (cf534 59).toInt = (cf507 59).toInt := e549
        have e550 : (cf507 33).toInt ≤ (cf534 33).toInt := e550
        have e551 : 6 * (cf534 33).toInt ≤ 6 * (cf507 33).toInt + (w5) := e551
        have e552 : (cf507 48).toInt ≤ (cf534 48).toInt := e552
        have e553 : 6 * (cf534 48).toInt ≤ 6 * (cf507 48).toInt + (w5) := e553
        have e554 : (cf507 54).toInt ≤ (cf534 54).toInt := e554
        have e555 : (cf507 42).toInt ≤ (cf534 42).toInt := e555
        have e556 : (cf534 54).toInt - (cf507 54).toInt ≤ 4 * ((cf534 42).toInt - (cf507 42).toInt) := e556
        have e557 : (cf534 54).toInt - (cf507 54).toInt ≤ 4096 * ((cf534 48).toInt - (cf507 48).toInt) := e557
        have e558 : (cf534 42).toInt - (cf507 42).toInt ≤ 4096 * ((cf534 48).toInt - (cf507 48).toInt) := e558
        have e559 : KnT (tf 6).toInt ca535 (cf534 33).toInt := e559
        have hkt := e559
        have hk11_e559 := hkt.1
        have e560 : KnS ca535 (cf534 33).toInt (cf534 48).toInt ys := e560
        have hks := e560
        have e561 : CaG ca324 ca535 (cf507 33).toInt (cf507 48).toInt := e561
        have hcg := hcg.tr e561 (by omega) (by omega)
        have hft := hft.cg e561
        have hfp := hfp.cg e561
        have e562 : SyR ca535 ys (cf534 48).toInt (cf534 54).toInt tx := e562
        have hsr := e562
        have e563 : Ann na ma0 ma533 := e563
        have han := e563
        have e564 : FrC m3 hi ma506 ma533 := e564
        have hfc := hfc.tr e564 (by omega) (by omega)
        have hts_z318 : ZTe cf534 ta ca535 na ma0 (cf534 48).toInt ys nf ma533 (p0.toInt + 1) m1 z318 (tgv (cf 44).toInt (cf 45).toInt) := ZTe.tr hts_z318 (fun q => by omega) e564 (by omega) e561 (by omega) (by omega)
        have hty_z503 : ZTe cf534 ta ca535 na ma0 (cf534 48).toInt ys nf ma533 m1 m2 z503 0 := ZTe.tr hty_z503 (fun q => by omega) e564 (by omega) e561 (by omega) (by omega)
        have e565 : ZTe cf534 ta ca535 na ma0 (cf534 48).toInt ys nf ma533 m3 hi z529 4 := e565
        have hts_z529 : ZTe cf534 ta ca535 na ma0 (cf534 48).toInt ys nf ma533 m3 hi z529 4 := ZTe.to e565 (fun q => by omega) (by omega) (Int.le_refl _) (Int.le_refl _) rfl
        have e566 : R_mp_checkBody (RL_mp_checkStatement d) tf ta na z529 ma506 cf507 ca324 ma533 cf534 ca535 := e566
        have hw : pw D A s.heap H locs [wdP cs h r g tf ta pf na ma533 wa cf534 ca535 ef ea xf xa] := hw
        refine lv_aload_n S.x S.b d_Mpg_checkFor_87 rfl (lv_at hl 2 rfl) ?_
        refine lv_iload_n S.x S.b d_Mpg_checkFor_88 rfl (lv_at hl 1 rfl) ?_
        refine lv_iload_n S.x S.b d_Mpg_checkFor_89 rfl (lv_at hl 0 rfl) ?_
        refine px_callv (pr := []) (px_runV (As := [.int (cf 33), .int (cf 37)]) (rest := []) S (c_mp_leave l D cs h r g tf ta pf na ma533 wa ca535 ef ea xf xa cf534 (cf 33) (cf 37)  htk _) hT (pr := []) (pcs := [wdP cs h r g tf ta pf na ma533 wa cf534 ca535 ef ea xf xa]) hw px_X.tt (px_recv hT hw 0 0 rfl rfl rfl) m12_209 m12_206 m12_208 ms_12_5 m1_21 q_Mpg_leave ⟨show 0 + 1 ≤ (6 * d + 29) from (by first | exact oz_cfa904bb27 | omega), show 8 + (3 + 11) + 0 ≤ (260 * d + 1020) from (by first | exact oz_480c6b4fdb | omega)⟩ hl.1 rfl (Nat.le_of_ble_eq_true rfl) d_Mpg_checkFor_90 ⟨Nat.le_of_ble_eq_true rfl, Nat.le_of_ble_eq_true rfl⟩) hw hA (fun p569 H locs hp569 hw => ?_)
        obtain ⟨cf568, rfl, e571, e572, e573, e574, e575, e576, e577, e578, e579, e580, e581, e582, e583, e584, e585, e586, e587, e588, e589⟩ := hp569
        have e571 : (cf568 33).toInt = (cf 33).toInt := e571
        have e572 : (cf568 37).toInt = (cf 37).toInt := e572
        have e573 : (cf568 30).toInt = (cf534 30).toInt := e573
        have e574 : (cf568 31).toInt = (cf534 31).toInt := e574
        have e575 : (cf568 38).toInt = (cf534 38).toInt := e575
        have e576 : (cf568 41).toInt = (cf534 41).toInt := e576
        have e577 : (cf568 42).toInt = (cf534 42).toInt := e577
        have e578 : (cf568 43).toInt = (cf534 43).toInt := e578
        have e579 : (cf568 44).toInt = (cf534 44).toInt := e579
        have e580 : (cf568 45).toInt = (cf534 45).toInt := e580
        have e581 : (cf568 46).toInt = (cf534 46).toInt := e581
        have e582 : (cf568 47).toInt = (cf534 47).toInt := e582
        have e583 : (cf568 48).toInt = (cf534 48).toInt := e583
        have e584 : (cf568 54).toInt = (cf534 54).toInt := e584
        have e585 : (cf568 55).toInt = (cf534 55).toInt := e585
        have e586 : (cf568 57).toInt = (cf534 57).toInt := e586
        have e587 : (cf568 58).toInt = (cf534 58).toInt := e587
        have e588 : (cf568 59).toInt = (cf534 59).toInt := e588
        have e589 : R_mp_leave (cf 33) (cf 37) cf534 cf568 := e589
        have hwr : WrV cf568 (tf 6).toInt := WrV.eq hwr (by omega) (by omega)
        have hkt := KnT.eq (n' := (cf568 33).toInt) (KnT.cg hkt0 hcg (Int.le_refl _)) (by omega)
        have hks := KnS.eq (n' := (cf568 33).toInt) (KnS.cg hks0 hcg (Int.le_refl _) (Int.le_refl _) (n2 := (cf568 48).toInt) (by omega)) (by omega) rfl
        have hts_z318 : ZTe cf568 ta ca535 na ma0 (cf568 48).toInt ys nf ma533 (p0.toInt + 1) m1 z318 (tgv (cf 44).toInt (cf 45).toInt) := ZTe.to hts_z318 (fun q => by omega) (by omega) (Int.le_refl _) (Int.le_refl _) rfl
        have hty_z503 : ZTe cf568 ta ca535 na ma0 (cf568 48).toInt ys nf ma533 m1 m2 z503 0 := ZTe.to hty_z503 (fun q => by omega) (by omega) (Int.le_refl _) (Int.le_refl _) rfl
        have hts_z529 : ZTe cf568 ta ca535 na ma0 (cf568 48).toInt ys nf ma533 m3 hi z529 4 := ZTe.to hts_z529 (fun q => by omega) (by omega) (Int.le_refl _) (Int.le_refl _) rfl
        have hw : pw D A s.heap H locs [wdP cs h r g tf ta pf na ma533 wa cf568 ca535 ef ea xf xa] := hw
        exact px_vret S hr hlk hAe hw (Nat.le_of_ble_eq_true rfl) (Nat.le_of_ble_eq_true rfl) (⟨ma533, cf568, ca535, rfl, (show (cf568 30).toInt = 0 → (cf 30).toInt = 0 from by omega), (show WrV cf568 (tf 6).toInt from hwr), (show (cf568 37).toInt = (cf 37).toInt from by first | exact e572 | omega), (show (cf568 38).toInt = (cf 38).toInt from by first | exact oz_ff3084e3c1 e330 e575 e513 e541 | omega), (show (cf568 43).toInt = (cf 43).toInt from by first | exact oz_ff3084e3c1 e331 e578 hkk43_e510 e542 | omega), (show (cf568 44).toInt = (cf 44).toInt from by first | exact oz_ff3084e3c1 e332 e579 hkk44_e510 e543 | omega), (show (cf568 45).toInt = (cf 45).toInt from by first | exact oz_ff3084e3c1 e333 e580 hkk45_e510 e544 | omega), (show (cf568 46).toInt = (cf 46).toInt from by first | exact oz_ff3084e3c1 e334 e581 e515 e545 | omega), (show (cf568 47).toInt = (cf 47).toInt from by first | exact oz_ff3084e3c1 e335 e582 e516 e546 | omega), (show (cf568 41).toInt = (cf 41).toInt from by first | exact oz_ff3084e3c1 e336 e576 hkk41_e510 e547 | omega), (show (cf568 55).toInt = (cf 55).toInt from by first | exact oz_ff3084e3c1 e337 e585 hkk55_e510 e548 | omega), (show (cf568 59).toInt = (cf 59).toInt from by first | exact oz_ff3084e3c1 e338 e588 hkk59_e510 e549 | omega), (show (cf568 33).toInt = (cf 33).toInt from by first | exact e571 | omega), (show (cf 48).toInt ≤ (cf568 48).toInt from by first | exact oz_de1de8abaa e347 e583 e344 e514 e552 | omega), (show 6 * (cf568 48).toInt ≤ 6 * (cf 48).toInt + (w) from by first | exact oz_28aba2ef1b hws e342 e583 hw2 hw3 e514 e553 | omega), (show (cf 54).toInt ≤ (cf568 54).toInt from by first | exact oz_72984fb0b0 e343 e584 hkk54_e510 e554 | omega), (show (cf 42).toInt ≤ (cf568 42).toInt from by first | exact oz_177e2427a4 e345 e577 e343 hkk42_e510 e555 | omega), (show (cf568 54).toInt - (cf 54).toInt ≤ 4 * ((cf568 42).toInt - (cf 42).toInt) from by first | exact oz_d1adcf9e6d e345 e577 e584 hkk42_e510 hkk54_e510 e556 | omega), (show (cf568 54).toInt - (cf 54).toInt ≤ 4096 * ((cf568 48).toInt - (cf 48).toInt) from by first | exact oz_517c5935f5 e346 e583 e584 e514 hkk54_e510 e557 | omega), (show (cf568 42).toInt - (cf 42).toInt ≤ 4096 * ((cf568 48).toInt - (cf 48).toInt) from by first | exact oz_ec93b785c0 e347 e577 e583 e514 hkk42_e510 e558 | omega), (show KnT (tf 6).toInt ca535 (cf568 33).toInt from (KnT.eq hkt (by omega))), (show KnS ca535 (cf568 33).toInt (cf568 48).toInt ys from (KnS.eq hks (by omega) (by omega))), (show CaG ca ca535 (cf 33).toInt (cf 48).toInt from (hcg.le (by omega) (by omega))), (show SyR ca535 ys (cf568 48).toInt (cf568 54).toInt tx from (SyR.eq hsr (by omega) (by omega))), (show Ann na ma0 ma533 from han), (show FrC lo hi ma ma533 from hfc), (show ZTe cf568 ta ca535 na ma0 (cf568 48).toInt ys nf ma533 lo hi p0 (tgv (cf 44).toInt (cf 45).toInt) from (fun zz => by exact tys_27 ⟨by omega, by omega, by omega⟩ tgv_rng (by omega) ha_z318 (ha_z503.trans (Ann.b18 han (by omega)).symm) (ha_z526.trans (Ann.b19 han (by omega)).symm) (ha_z529.trans (Ann.b20 han (by omega) (by omega)).symm) (ZTe.ot hts_z318 (by omega) (by omega) (by omega) (by omega) rfl) (ZTe.ot hty_z503 (by omega) (by omega) (by omega) (by omega) rfl) (Or.inl (by omega)) (ZTe.at hts_z529 (by omega) (by omega) (by omega) (by omega) rfl))), (show R_mp_checkFor (RL_mp_checkStatement d) tf ta na p0 ma cf ca ma533 cf568 ca535 from (Or.inl ⟨z1, ez1, Or.inr ⟨nc2, z318, ez318, ma322, cf323, ca324, e355, z356, ez356, Or.inr ⟨nc357, z503, ez503, ma506, cf507, v509, e525X, z526, ez526, Or.inl ⟨nc527, z529, ez529, ma533, cf534, ca535, e566, cf568, e589, rfl, rfl, rfl⟩⟩⟩⟩))⟩) d_Mpg_checkFor_93
      · have nc527 : ¬ z526.toInt < (0 : Int) := mt (i_lt (x := z526) (y := 0)).mpr c527
        refine lv_aload_n S.x S.b d_Mpg_checkFor_67 rfl (lv_at hl 2 rfl) ?_
        refine lv_aload_n S.x S.b d_Mpg_checkFor_68 rfl (lv_at hl 2 rfl) ?_
        refine px_get S k_Mpg hT hw 0 0 19 (v := .ref (r 19)) rfl rfl rfl (by decide) m10_5 d_Mpg_checkFor_69 ?_
        refine lv_iload_n S.x S.b d_Mpg_checkFor_72 rfl (lv_at hl 3 rfl) ?_
        refine px_iald S hT hw 0 15 (n := 2100) (f := (ma506 19)) rfl gp_19 (x := p0) (vp_in_iff.mpr (by first | exact oz_376db002e6 hsr0.2.2.1 hrg_z318.1 g1 hm2 hru.2.1 hrg_z318.2.1 g2 hm3 hru.1 | (constructor <;> omega))) d_Mpg_checkFor_73 ?_
        refine lv_topi (fun z590 ez590 => ?_)
        have lz590 := Int32.le_toInt z590
        have uz590 := Int32.toInt_lt z590
        have ha_z590 : z590 = ma0 19 p0.toNatClampNeg := ez590.trans (Ann.b19 han (by omega)); have hn_z590 : z590.toInt = (ma0 19 p0.toNatClampNeg).toInt := (by rw [ha_z590]); have hev_z590 : ErV ta (tf 6).toInt na ma0 d m2 m3 w3 z590 := (by rw [ha_z590]; exact (hoc.get (by omega))); obtain ⟨hec_z590, h20_z590, hw_z590⟩ := hev_z590.ec; have hrg_z590 := EcV.rng hec_z590
        refine px_callv (pr := []) (px_runV (As := [.int z590]) (rest := []) S (c_mp_checkAlone l D cs ma0 ys (cf507 48).toInt nf (cf507 33).toInt d m2 m3 h r g tf ta pf na wa ca324 ef ea xf xa ma506 cf507 z590  (show 0 ≤ m2 from by first | exact oz_5ba337ca74 hm2 hrg_z318.2.1 hsr0.2.2.1 hrg_z318.1 | omega) (show m3 ≤ (pf 13).toInt from by first | exact oz_8d1dd37214 g1 hru.1 hru.2.1 | omega) (show (pf 13).toInt ≤ 2100 from by first | exact g2 | omega) (show (tf 6).toInt ≤ 2049 from by first | exact g3 | omega) (show (cf507 33).toInt = (cf507 33).toInt from rfl) (show 0 ≤ (cf507 33).toInt from by first | exact oz_9921a0d148 e512 e339 g4 | omega) (show (cf507 48).toInt = (cf507 48).toInt from rfl) (show (cf507 38).toInt = nf from by first | exact oz_e13fc83238 g9 e513 e330 | omega) (show 0 ≤ nf from by first | exact g10 | omega) htk (FsI.le (N' := (pf 13).toInt) hfs (by omega)) hwr (KnT.eq hkt (by omega)) (FnT.eq hft (by omega)) (KnS.eq hks (by omega) (by omega)) hfp han hec_z590 _) hT (pr := []) (pcs := [wdP cs h r g tf ta pf na ma506 wa cf507 ca324 ef ea xf xa]) hw (oX_call (P := (fun A U H => (oP A g U H))) (pr := []) oG_P hw hA hP) (px_recv hT hw 0 0 rfl rfl rfl) m12_213 m12_210 m12_212 ms_12_6 m1_21 q_Mpg_checkAlone ⟨show (4 * d + 13) + 1 ≤ (6 * d + 29) from (by first | exact oz_0ab3c77e19 | omega), show 8 + (3 + 11) + (200 * d + 460) ≤ (260 * d + 1020) from (by first | exact oz_6434b70a93 | omega)⟩ hl.1 rfl (Nat.le_of_ble_eq_true rfl) d_Mpg_checkFor_74 ⟨Nat.le_of_ble_eq_true rfl, Nat.le_of_ble_eq_true rfl⟩) hw hA (fun p595 H locs hp595 hw => ?_)
        obtain ⟨ma593, cf594, rfl, e597, e598, e599, e600, e601, e602, e603, e604, e605, e606, e607, e608⟩ := hp595
        have e597 : KpE cf507 cf594 := e597
        have hkz_e597 := e597.2
        have hkk37_e597 : (cf594 37).toInt = (cf507 37).toInt := (by rw [e597.1 37 (by decide) (by decide) (by decide) (by decide) (by decide)] <;> rfl)
        have hkk43_e597 : (cf594 43).toInt = (cf507 43).toInt := (by rw [e597.1 43 (by decide) (by decide) (by decide) (by decide) (by decide)] <;> rfl)
        have hkk44_e597 : (cf594 44).toInt = (cf507 44).toInt := (by rw [e597.1 44 (by decide) (by decide) (by decide) (by decide) (by decide)] <;> rfl)
        have hkk45_e597 : (cf594 45).toInt = (cf507 45).toInt := (by rw [e597.1 45 (by decide) (by decide) (by decide) (by decide) (by decide)] <;> rfl)
        have hkk41_e597 : (cf594 41).toInt = (cf507 41).toInt := (by rw [e597.1 41 (by decide) (by decide) (by decide) (by decide) (by decide)] <;> rfl)
        have hkk55_e597 : (cf594 55).toInt = (cf507 55).toInt := (by rw [e597.1 55 (by decide) (by decide) (by decide) (by decide) (by decide)] <;> rfl)
        have hkk59_e597 : (cf594 59).toInt = (cf507 59).toInt := (by rw [e597.1 59 (by decide) (by decide) (by decide) (by decide) (by decide)] <;> rfl)
        have hkk42_e597 : (cf594 42).toInt = (cf507 42).toInt := (by rw [e597.1 42 (by decide) (by decide) (by decide) (by decide) (by decide)] <;> rfl)
        have hkk54_e597 : (cf594 54).toInt = (cf507 54).toInt := (by rw [e597.1 54 (by decide) (by decide) (by decide) (by decide) (by decide)] <;> rfl)
        have hkk58_e597 : (cf594 58).toInt = (cf507 58).toInt := (by rw [e597.1 58 (by decide) (by decide) (by decide) (by decide) (by decide)] <;> rfl)
        have e598 : WrV cf594 (tf 6).toInt := e598
        have hwr := e598
        have hw0_e598 := hwr.1
        have e599 : (cf594 33).toInt = (cf507 33).toInt := e599
        have e600 : (cf594 38).toInt = (cf507 38).toInt := e600
        have e601 : (cf594 48).toInt = (cf507 48).toInt := e601
        have e602 : (cf594 46).toInt = (cf507 46).toInt := e602
        have e603 : (cf594 47).toInt = (cf507 47).toInt := e603
        have e604 : (cf594 57).toInt = (cf507 57).toInt := e604
        have e605 : Ann na ma0 ma593 := e605
        have han := e605
        have e606 : FrC m2 m3 ma506 ma593 := e606
        have hfc := hfc.tr e606 (by omega) (by omega)
        have hts_z318 : ZTe cf594 ta ca324 na ma0 (cf594 48).toInt ys nf ma593 (p0.toInt + 1) m1 z318 (tgv (cf 44).toInt (cf 45).toInt) := ZTe.tr hts_z318 (fun q => by omega) e606 (by omega) (CaG.rf (kn := 0) (ns := 5000)) (by omega) (by omega)
        have hty_z503 : ZTe cf594 ta ca324 na ma0 (cf594 48).toInt ys nf ma593 m1 m2 z503 0 := ZTe.tr hty_z503 (fun q => by omega) e606 (by omega) (CaG.rf (kn := 0) (ns := 5000)) (by omega) (by omega)
        have e607 : ZT0 cf594 (Gk ta ca324 na ma0 (cf507 48).toInt ys nf) na ma593 m2 m3 z590 := e607
        have hty_z590 : ZTe cf594 ta ca324 na ma0 (cf594 48).toInt ys nf ma593 m2 m3 z590 0 := ZTe.to (t := 0) e607 (fun q => by omega) (by omega) (Int.le_refl _) (Int.le_refl _) rfl
        have e608 : R_mp_checkAlone tf ta na ca324 z590 ma506 cf507 ma593 cf594 := e608
        have hw : pw D A s.heap H locs [wdP cs h r g tf ta pf na ma593 wa cf594 ca324 ef ea xf xa] := hw
        refine lv_aload_n S.x S.b d_Mpg_checkFor_77 rfl (lv_at hl 2 rfl) ?_
        refine lv_aload_n S.x S.b d_Mpg_checkFor_78 rfl (lv_at hl 2 rfl) ?_
        refine px_get S k_Mpg hT hw 0 0 20 (v := .ref (r 20)) rfl rfl rfl (by decide) m10_6 d_Mpg_checkFor_79 ?_
        refine lv_iload_n S.x S.b d_Mpg_checkFor_82 rfl (lv_at hl 3 rfl) ?_
        refine px_iald S hT hw 0 16 (n := 2100) (f := (ma593 20)) rfl gp_20 (x := p0) (vp_in_iff.mpr (by first | exact oz_376db002e6 hsr0.2.2.1 hrg_z318.1 g1 hm2 hru.2.1 hrg_z318.2.1 g2 hm3 hru.1 | (constructor <;> omega))) d_Mpg_checkFor_83 ?_
        refine lv_topi (fun z609 ez609 => ?_)
        have lz609 := Int32.le_toInt z609
        have uz609 := Int32.toInt_lt z609
        have ha_z609 : z609 = ma0 20 p0.toNatClampNeg := ez609.trans (Ann.b20 han (by omega) (by omega)); have hn_z609 : z609.toInt = (ma0 20 p0.toNatClampNeg).toInt := (by rw [ha_z609]); have hsc_z609 : ScV ta (tf 6).toInt na ma0 d m3 hi w5 z609 := (by rw [ha_z609]; exact hse); have hrg_z609 := ScV.rng hsc_z609
        refine px_callv (pr := []) (px_runV (As := [.int z609]) (rest := []) S (c_mp_checkBody l D cs ma0 ys nf tx d m3 hi w5 h r g tf ta pf na wa ef ea xf xa ma593 cf594 ca324 z609  (show 0 ≤ m3 from by first | exact oz_df1d141c94 hm3 hm2 hsr0.2.2.1 hrg_z318.1 hrg_z318.2.1 | omega) (show hi ≤ (pf 13).toInt from by first | exact g1 | omega) (show (pf 13).toInt ≤ 2100 from by first | exact g2 | omega) (show (tf 6).toInt ≤ 2049 from by first | exact g3 | omega) (show 0 ≤ (cf594 33).toInt from by first | exact oz_9bcc310e9c e599 e512 e339 g4 | omega) (show 0 ≤ w5 from by first | exact hw5 | omega) (show 6 * (cf594 33).toInt + w5 ≤ 6540 from by first | exact oz_79e828879f hws e599 g6 hw2 hw3 e340 e512 | omega) (show 0 ≤ (cf594 48).toInt from by first | exact oz_34de85669e e601 e514 e347 g14 g15 e343 e345 | omega) (show 6 * (cf594 48).toInt + w5 ≤ 6540 from by first | exact oz_79e828879f hws e601 g8 hw2 hw3 e342 e514 | omega) (show (cf594 38).toInt = nf from by first | exact oz_ff3084e3c1 g9 e600 e330 e513 | omega) (show 0 ≤ nf from by first | exact g10 | omega) (show 0 ≤ (cf594 37).toInt from by first | exact oz_11e71ee49a hkk37_e597 hkk37_e510 e329 g4 | omega) (show 0 ≤ (cf594 54).toInt from by first | exact oz_9bcc310e9c hkk54_e597 hkk54_e510 e343 g12 | omega) (show (cf594 54).toInt ≤ 4096 * (cf594 48).toInt from by first | exact oz_a85aeab2ff e601 hkk54_e597 e514 hkk54_e510 e346 g13 | omega) (show 0 ≤ (cf594 42).toInt from by first | exact oz_640603e5ba hkk42_e597 hkk42_e510 e345 g14 e343 | omega) (show (cf594 42).toInt ≤ 4 + 4096 * (cf594 48).toInt from by first | exact oz_640efea5dc e601 hkk42_e597 e514 hkk42_e510 e347 g15 | omega) (show 0 ≤ (cf594 44).toInt from by first | exact oz_11e71ee49a hkk44_e597 hkk44_e510 e332 g16 | omega) (show 0 ≤ (cf594 45).toInt from by first | exact oz_11e71ee49a hkk45_e597 hkk45_e510 e333 g17 | omega) (show ys ≤ (cf594 48).toInt ∨ tx = 1 from by omega) (show 0 ≤ (cf594 46).toInt from by first | exact oz_11e71ee49a e602 e515 e334 g19 | omega) (show (cf594 46).toInt ≤ 1 from by first | exact oz_ce6628c031 e602 e515 e334 g20 | omega) (show 0 ≤ (cf594 47).toInt from by first | exact oz_11e71ee49a e603 e516 e335 g21 | omega) (show (cf594 47).toInt ≤ 1 from by first | exact oz_ce6628c031 e603 e516 e335 g22 | omega) (show (cf594 44).toInt + (d : Int) ≤ 400 from by first | exact oz_7c5913e3de g29 hkk44_e597 e332 hkk44_e510 | omega) (show (cf594 45).toInt + (d : Int) ≤ 400 from by first | exact oz_7c5913e3de g30 hkk45_e597 e333 hkk45_e510 | omega) (show 0 ≤ (cf594 43).toInt from by first | exact oz_11e71ee49a hkk43_e597 hkk43_e510 e331 g25 | omega) (show (cf594 43).toInt < 2100 from by first | exact oz_68526bafb7 hkk43_e597 hkk43_e510 e331 g26 | omega) (show tx = 0 from by first | exact g27 | omega) (show (cf594 44).toInt + (d : Int) + 1 ≤ 400 from by first | exact oz_a9caacca9b g29 hkk44_e597 e332 hkk44_e510 | omega) htk (FsI.le (N' := (pf 13).toInt) hfs (by omega)) hwr (KnT.eq hkt (by omega)) (FnT.eq hft (by omega)) (KnS.eq hks (by omega) (by omega)) hfp (SyR.eq hsr (by omega) (by omega)) han (show txo (cf594 43).toInt = tx from by rw [show (cf594 43).toInt = (cf 43).toInt by omega]; exact htx) hsc_z609 hLS _) hT (pr := []) (pcs := [wdP cs h r g tf ta pf na ma593 wa cf594 ca324 ef ea xf xa]) hw (oX_call (P := (fun A U H => (oP A g U H))) (pr := []) oG_P hw hA hP) (px_recv hT hw 0 0 rfl rfl rfl) m13_37 m13_34 m13_36 ms_13_6 m1_21 q_Mpg_checkBody ⟨show (6 * d + 27) + 1 ≤ (6 * d + 29) from (by first | exact oz_0a7d18f368 | omega), show 8 + (2 + 11) + (260 * d + 940) ≤ (260 * d + 1020) from (by first | exact oz_884c966d29 | omega)⟩ hl.1 rfl (Nat.le_of_ble_eq_true rfl) d_Mpg_checkFor_84 ⟨Nat.le_of_ble_eq_true rfl, Nat.le_of_ble_eq_true rfl⟩) hw hA (fun p616 H locs hp616 hw => ?_)
        obtain ⟨ma613, cf614, ca615, rfl, e618, e619, e620, e621, e622, e623, e624, e625, e626, e627, e628, e629, e630, e631, e632, e633, e634, e635, e636, e637, e638, e639, e640, e641, e642, e643, e644, e645, e646⟩ := hp616
        have e618 : (cf614 30).toInt = 0 → (cf594 30).toInt = 0 := e618
        have e619 : WrV cf614 (tf 6).toInt := e619
        have hwr := e619
        have hw0_e619 := hwr.1
        have e620 : (cf614 37).toInt = (cf594 37).toInt := e620
        have e621 : (cf614 38).toInt = (cf594 38).toInt := e621
        have e622 : (cf614 43).toInt = (cf594 43).toInt := e622
        have e623 : (cf614 44).toInt = (cf594 44).toInt := e623
        have e624 : (cf614 45).toInt = (cf594 45).toInt := e624
        have e625 : (cf614 46).toInt = (cf594 46).toInt := e625
        have e626 : (cf614 47).toInt = (cf594 47).toInt := e626
        have e627 : (cf614 41).toInt = (cf594 41).toInt := e627
        have e628 : (cf614 55).toInt = (cf594 55).toInt := e628
        have e629 : (cf614 59).toInt = (cf594 59).toInt := e629
        have e630 : (cf594 33).toInt ≤ (cf614 33).toInt := e630
        have e631 : 6 * (cf614 33).toInt ≤ 6 * (cf594 33).toInt + (w5) := e631
        have e632 : (cf594 48).toInt ≤ (cf614 48).toInt := e632
        have e633 : 6 * (cf614 48).toInt ≤ 6 * (cf594 48).toInt + (w5) := e633
        have e634 : (cf594 54).toInt ≤ (cf614 54).toInt := e634
        have e635 : (cf594 42).toInt ≤ (cf614 42).toInt := e635
        have e636 : (cf614 54).toInt - (cf594 54).toInt ≤ 4 * ((cf614 42).toInt - (cf594 42).toInt) := e636
        have e637 : (cf614 54).toInt - (cf594 54).toInt ≤ 4096 * ((cf614 48).toInt - (cf594 48).toInt) := e637
        have e638 : (cf614 42).toInt - (cf594 42).toInt ≤ 4096 * ((cf614 48).toInt - (cf594 48).toInt) := e638
        have e639 : KnT (tf 6).toInt ca615 (cf614 33).toInt := e639
        have hkt := e639
        have hk11_e639 := hkt.1
        have e640 : KnS ca615 (cf614 33).toInt (cf614 48).toInt ys := e640
        have hks := e640
        have e641 : CaG ca324 ca615 (cf594 33).toInt (cf594 48).toInt := e641
        have hcg := hcg.tr e641 (by omega) (by omega)
        have hft := hft.cg e641
        have hfp := hfp.cg e641
        have e642 : SyR ca615 ys (cf614 48).toInt (cf614 54).toInt tx := e642
        have hsr := e642
        have e643 : Ann na ma0 ma613 := e643
        have han := e643
        have e644 : FrC m3 hi ma593 ma613 := e644
        have hfc := hfc.tr e644 (by omega) (by omega)
        have hts_z318 : ZTe cf614 ta ca615 na ma0 (cf614 48).toInt ys nf ma613 (p0.toInt + 1) m1 z318 (tgv (cf 44).toInt (cf 45).toInt) := ZTe.tr hts_z318 (fun q => by omega) e644 (by omega) e641 (by omega) (by omega)
        have hty_z503 : ZTe cf614 ta ca615 na ma0 (cf614 48).toInt ys nf ma613 m1 m2 z503 0 := ZTe.tr hty_z503 (fun q => by omega) e644 (by omega) e641 (by omega) (by omega)
        have hty_z590 : ZTe cf614 ta ca615 na ma0 (cf614 48).toInt ys nf ma613 m2 m3 z590 0 := ZTe.tr hty_z590 (fun q => by omega) e644 (by omega) e641 (by omega) (by omega)
        have e645 : ZTe cf614 ta ca615 na ma0 (cf614 48).toInt ys nf ma613 m3 hi z609 4 := e645
        have hts_z609 : ZTe cf614 ta ca615 na ma0 (cf614 48).toInt ys nf ma613 m3 hi z609 4 := ZTe.to e645 (fun q => by omega) (by omega) (Int.le_refl _) (Int.le_refl _) rfl
        have e646 : R_mp_checkBody (RL_mp_checkStatement d) tf ta na z609 ma593 cf594 ca324 ma613 cf614 ca615 := e646
        have hw : pw D A s.heap H locs [wdP cs h r g tf ta pf na ma613 wa cf614 ca615 ef ea xf xa] := hw
        refine lv_aload_n S.x S.b d_Mpg_checkFor_87 rfl (lv_at hl 2 rfl) ?_
        refine lv_iload_n S.x S.b d_Mpg_checkFor_88 rfl (lv_at hl 1 rfl) ?_
        refine lv_iload_n S.x S.b d_Mpg_checkFor_89 rfl (lv_at hl 0 rfl) ?_
        refine px_callv (pr := []) (px_runV (As := [.int (cf 33), .int (cf 37)]) (rest := []) S (c_mp_leave l D cs h r g tf ta pf na ma613 wa ca615 ef ea xf xa cf614 (cf 33) (cf 37)  htk _) hT (pr := []) (pcs := [wdP cs h r g tf ta pf na ma613 wa cf614 ca615 ef ea xf xa]) hw px_X.tt (px_recv hT hw 0 0 rfl rfl rfl) m12_209 m12_206 m12_208 ms_12_5 m1_21 q_Mpg_leave ⟨show 0 + 1 ≤ (6 * d + 29) from (by first | exact oz_cfa904bb27 | omega), show 8 + (3 + 11) + 0 ≤ (260 * d + 1020) from (by first | exact oz_480c6b4fdb | omega)⟩ hl.1 rfl (Nat.le_of_ble_eq_true rfl) d_Mpg_checkFor_90 ⟨Nat.le_of_ble_eq_true rfl, Nat.le_of_ble_eq_true rfl⟩) hw hA (fun p649 H locs hp649 hw => ?_)
        obtain ⟨cf648, rfl, e651, e652, e653, e654, e655, e656, e657, e658, e659, e660, e661, e662, e663, e664, e665, e666, e667, e668, e669⟩ := hp649
        have e651 : (cf648 33).toInt = (cf 33).toInt := e651
        have e652 : (cf648 37).toInt = (cf 37).toInt := e652
        have e653 : (cf648 30).toInt = (cf614 30).toInt := e653
        have e654 : (cf648 31).toInt = (cf614 31).toInt := e654
        have e655 : (cf648 38).toInt = (cf614 38).toInt := e655
        have e656 : (cf648 41).toInt = (cf614 41).toInt := e656
        have e657 : (cf648 42).toInt = (cf614 42).toInt := e657
        have e658 : (cf648 43).toInt = (cf614 43).toInt := e658
        have e659 : (cf648 44).toInt = (cf614 44).toInt := e659
        have e660 : (cf648 45).toInt = (cf614 45).toInt := e660
        have e661 : (cf648 46).toInt = (cf614 46).toInt := e661
        have e662 : (cf648 47).toInt = (cf614 47).toInt := e662
        have e663 : (cf648 48).toInt = (cf614 48).toInt := e663
        have e664 : (cf648 54).toInt = (cf614 54).toInt := e664
        have e665 : (cf648 55).toInt = (cf614 55).toInt := e665
        have e666 : (cf648 57).toInt = (cf614 57).toInt := e666
        have e667 : (cf648 58).toInt = (cf614 58).toInt := e667
        have e668 : (cf648 59).toInt = (cf614 59).toInt := e668
        have e669 : R_mp_leave (cf 33) (cf 37) cf614 cf648 := e669
        have hwr : WrV cf648 (tf 6).toInt := WrV.eq hwr (by omega) (by omega)
        have hkt := KnT.eq (n' := (cf648 33).toInt) (KnT.cg hkt0 hcg (Int.le_refl _)) (by omega)
        have hks := KnS.eq (n' := (cf648 33).toInt) (KnS.cg hks0 hcg (Int.le_refl _) (Int.le_refl _) (n2 := (cf648 48).toInt) (by omega)) (by omega) rfl
        have hts_z318 : ZTe cf648 ta ca615 na ma0 (cf648 48).toInt ys nf ma613 (p0.toInt + 1) m1 z318 (tgv (cf 44).toInt (cf 45).toInt) := ZTe.to hts_z318 (fun q => by omega) (by omega) (Int.le_refl _) (Int.le_refl _) rfl
        have hty_z503 : ZTe cf648 ta ca615 na ma0 (cf648 48).toInt ys nf ma613 m1 m2 z503 0 := ZTe.to hty_z503 (fun q => by omega) (by omega) (Int.le_refl _) (Int.le_refl _) rfl
        have hty_z590 : ZTe cf648 ta ca615 na ma0 (cf648 48).toInt ys nf ma613 m2 m3 z590 0 := ZTe.to hty_z590 (fun q => by omega) (by omega) (Int.le_refl _) (Int.le_refl _) rfl
        have hts_z609 : ZTe cf648 ta ca615 na ma0 (cf648 48).toInt ys nf ma613 m3 hi z609 4 := ZTe.to hts_z609 (fun q => by omega) (by omega) (Int.le_refl _) (Int.le_refl _) rfl
        have hw : pw D A s.heap H locs [wdP cs h r g tf ta pf na ma613 wa cf648 ca615 ef ea xf xa] := hw
        exact px_vret S hr hlk hAe hw (Nat.le_of_ble_eq_true rfl) (Nat.le_of_ble_eq_true rfl) (⟨ma613, cf648, ca615, rfl, (show (cf648 30).toInt = 0 → (cf 30).toInt = 0 from by omega), (show WrV cf648 (tf 6).toInt from hwr), (show (cf648 37).toInt = (cf 37).toInt from by first | exact e652 | omega), (show (cf648 38).toInt = (cf 38).toInt from by first | exact oz_0867352dd7 e330 e655 e513 e621 e600 | omega), (show (cf648 43).toInt = (cf 43).toInt from by first | exact oz_0867352dd7 e331 e658 hkk43_e510 e622 hkk43_e597 | omega), (show (cf648 44).toInt = (cf 44).toInt from by first | exact oz_0867352dd7 e332 e659 hkk44_e510 e623 hkk44_e597 | omega), (show (cf648 45).toInt = (cf 45).toInt from by first | exact oz_0867352dd7 e333 e660 hkk45_e510 e624 hkk45_e597 | omega), (show (cf648 46).toInt = (cf 46).toInt from by first | exact oz_0867352dd7 e334 e661 e515 e625 e602 | omega), (show (cf648 47).toInt = (cf 47).toInt from by first | exact oz_0867352dd7 e335 e662 e516 e626 e603 | omega), (show (cf648 41).toInt = (cf 41).toInt from by first | exact oz_0867352dd7 e336 e656 hkk41_e510 e627 hkk41_e597 | omega), (show (cf648 55).toInt = (cf 55).toInt from by first | exact oz_0867352dd7 e337 e665 hkk55_e510 e628 hkk55_e597 | omega), (show (cf648 59).toInt = (cf 59).toInt from by first | exact oz_0867352dd7 e338 e668 hkk59_e510 e629 hkk59_e597 | omega), (show (cf648 33).toInt = (cf 33).toInt from by first | exact e651 | omega), (show (cf 48).toInt ≤ (cf648 48).toInt from by first | exact oz_ef72e214d7 e347 e663 e343 e345 e514 e638 e601 e634 e636 | omega), (show 6 * (cf648 48).toInt ≤ 6 * (cf 48).toInt + (w) from by first | exact oz_f130b30b4c hws e342 e663 hw2 hw3 e514 e633 e601 | omega), (show (cf 54).toInt ≤ (cf648 54).toInt from by first | exact oz_39bc41608f e343 e664 hkk54_e510 e634 hkk54_e597 | omega), (show (cf 42).toInt ≤ (cf648 42).toInt from by first | exact oz_0b35b90db2 e345 e657 e343 hkk42_e510 e636 hkk42_e597 e634 | omega), (show (cf648 54).toInt - (cf 54).toInt ≤ 4 * ((cf648 42).toInt - (cf 42).toInt) from by first | exact oz_2d1a592502 e345 e657 e664 hkk42_e510 hkk54_e510 e636 hkk42_e597 hkk54_e597 | omega), (show (cf648 54).toInt - (cf 54).toInt ≤ 4096 * ((cf648 48).toInt - (cf 48).toInt) from by first | exact oz_f0e6974812 e346 e663 e664 e514 hkk54_e510 e637 e601 hkk54_e597 | omega), (show (cf648 42).toInt - (cf 42).toInt ≤ 4096 * ((cf648 48).toInt - (cf 48).toInt) from by first | exact oz_abac3b7fa3 e347 e657 e663 e514 hkk42_e510 e638 e601 hkk42_e597 | omega), (show KnT (tf 6).toInt ca615 (cf648 33).toInt from (KnT.eq hkt (by omega))), (show KnS ca615 (cf648 33).toInt (cf648 48).toInt ys from (KnS.eq hks (by omega) (by omega))), (show CaG ca ca615 (cf 33).toInt (cf 48).toInt from (hcg.le (by omega) (by omega))), (show SyR ca615 ys (cf648 48).toInt (cf648 54).toInt tx from (SyR.eq hsr (by omega) (by omega))), (show Ann na ma0 ma613 from han), (show FrC lo hi ma ma613 from hfc), (show ZTe cf648 ta ca615 na ma0 (cf648 48).toInt ys nf ma613 lo hi p0 (tgv (cf 44).toInt (cf 45).toInt) from (fun zz => by exact tys_27 ⟨by omega, by omega, by omega⟩ tgv_rng (by omega) ha_z318 (ha_z503.trans (Ann.b18 han (by omega)).symm) (ha_z590.trans (Ann.b19 han (by omega)).symm) (ha_z609.trans (Ann.b20 han (by omega) (by omega)).symm) (ZTe.ot hts_z318 (by omega) (by omega) (by omega) (by omega) rfl) (ZTe.ot hty_z503 (by omega) (by omega) (by omega) (by omega) rfl) (ZTe.ot hty_z590 (by omega) (by omega) (by omega) (by omega) rfl) (ZTe.at hts_z609 (by omega) (by omega) (by omega) (by omega) rfl))), (show R_mp_checkFor (RL_mp_checkStatement d) tf ta na p0 ma cf ca ma613 cf648 ca615 from (Or.inl ⟨z1, ez1, Or.inr ⟨nc2, z318, ez318, ma322, cf323, ca324, e355, z356, ez356, Or.inr ⟨nc357, z503, ez503, ma506, cf507, v509, e525X, z526, ez526, Or.inr ⟨nc527, z590, ez590, ma593, cf594, e608, z609, ez609, ma613, cf614, ca615, e646, cf648, e669, rfl, rfl, rfl⟩⟩⟩⟩))⟩) d_Mpg_checkFor_93
